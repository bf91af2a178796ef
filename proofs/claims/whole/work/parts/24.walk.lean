/-! the methods as functions, and the rows that tie them to the machine; written by a program -/
def f_U_nextByte_12 (G : zx_G) : Option (Int32 × zx_G) :=
  zx_if ((G 12 1) < (G 12 2))
    (zx_gd (zx_in (G 12 1) 200) <|
    zx_lt (G 9 (Int32.toNatClampNeg (G 12 1))) fun x1_3 =>
    zx_lt (zx_up G 12 1 ((G 12 1) + (1 : Int32))) fun G_4 =>
    some (x1_3, G_4))
    (some ((-1 : Int32), G))
set_option maxRecDepth 100000 in
set_option maxHeartbeats 4000000 in
theorem z_U_nextByte_12_0 {κ : zx_K} {ad : Nat → Nat} {r : Int32} {G1 : zx_G} (h : zx_C M_U_nextByte κ ad) (hE : zx_E M_U_nextByte κ ad r G1) (G : zx_G) (hf : f_U_nextByte_12 G = some (r, G1)) : zx_Z κ ad 0 [(0, .ref (ad 12))] [] G := by
  unfold f_U_nextByte_12 at hf
  refine zr_aload_n h d_U_nextByte_0 rfl rfl 0 rfl ?_
  refine zr_getI h d_U_nextByte_1 rfl fl_U_19 sh_12 rfl ?_
  refine zr_aload_n h d_U_nextByte_4 rfl rfl 0 rfl ?_
  refine zr_getI h d_U_nextByte_5 rfl fl_U_26 sh_12 rfl ?_
  rcases zx_if_some hf with ⟨hc_1, hf⟩ | ⟨hc_1, hf⟩
  · refine zr_icmp_lt_t (tgt := 13) h d_U_nextByte_8 rfl hc_1 ?_
    refine zr_aload_n h d_U_nextByte_13 rfl rfl 0 rfl ?_
    refine zr_getR h d_U_nextByte_14 rfl fl_U_7 sh_12 rfl ?_
    refine zr_aload_n h d_U_nextByte_17 rfl rfl 0 rfl ?_
    refine zr_getI h d_U_nextByte_18 rfl fl_U_19 sh_12 rfl ?_
    obtain ⟨hb_2, hf⟩ := zx_gd_some hf
    refine zr_iald h d_U_nextByte_21 rfl sh_9 hb_2 ?_
    obtain ⟨x1_3, ex1_3, hf⟩ := zx_lt_some hf
    refine zr_istore_n h d_U_nextByte_22 rfl rfl (by decide) ex1_3 rfl ?_
    refine zr_aload_n h d_U_nextByte_23 rfl rfl 1 rfl ?_
    refine zr_dup h d_U_nextByte_24 rfl rfl ?_
    refine zr_getI h d_U_nextByte_25 rfl fl_U_19 sh_12 rfl ?_
    refine zr_iconst (v := (1 : Int32)) h d_U_nextByte_28 rfl (by decide) ?_
    refine zr_iadd h d_U_nextByte_29 rfl ?_
    obtain ⟨G_4, eG_4, hf⟩ := zx_lt_some hf
    refine zr_putI h d_U_nextByte_30 rfl fl_U_19 pl_U_1 sh_12 rfl rfl rfl eG_4 ?_
    refine zr_iload_n h d_U_nextByte_33 rfl rfl 0 rfl ?_
    exact zr_iret h hE d_U_nextByte_34 rfl hf
  · refine zr_icmp_lt_f h 13 d_U_nextByte_8 rfl rfl hc_1 ?_
    refine zr_iconst (v := (-1 : Int32)) h d_U_nextByte_11 rfl (by decide) ?_
    exact zr_iret h hE d_U_nextByte_12 rfl hf
theorem c_U_nextByte_12 (l : Launch) (D : va_G) (cA : ClassId) (ad : Nat → Nat) (A : Nat → Prop) (G : zx_G) (r : Int32) (G1 : zx_G) (hf : f_U_nextByte_12 G = some (r, G1)) : zx_met l y_U_nextByte M_U_nextByte [.ref (ad 12)] D cA ad A G r G1 :=
  zx_toMet (by decide) rfl (Nat.le_of_ble_eq_true rfl) (fun κ h hE => by exact z_U_nextByte_12_0 h hE G hf)

def f_U_left_12 (G : zx_G) : Option (Int32 × zx_G) :=
  some (((G 12 2) - (G 12 1)), G)
set_option maxRecDepth 100000 in
set_option maxHeartbeats 4000000 in
theorem z_U_left_12_0 {κ : zx_K} {ad : Nat → Nat} {r : Int32} {G1 : zx_G} (h : zx_C M_U_left κ ad) (hE : zx_E M_U_left κ ad r G1) (G : zx_G) (hf : f_U_left_12 G = some (r, G1)) : zx_Z κ ad 0 [(0, .ref (ad 12))] [] G := by
  unfold f_U_left_12 at hf
  refine zr_aload_n h d_U_left_0 rfl rfl 0 rfl ?_
  refine zr_getI h d_U_left_1 rfl fl_U_26 sh_12 rfl ?_
  refine zr_aload_n h d_U_left_4 rfl rfl 0 rfl ?_
  refine zr_getI h d_U_left_5 rfl fl_U_19 sh_12 rfl ?_
  refine zr_isub h d_U_left_8 rfl ?_
  exact zr_iret h hE d_U_left_9 rfl hf
theorem c_U_left_12 (l : Launch) (D : va_G) (cA : ClassId) (ad : Nat → Nat) (A : Nat → Prop) (G : zx_G) (r : Int32) (G1 : zx_G) (hf : f_U_left_12 G = some (r, G1)) : zx_met l y_U_left M_U_left [.ref (ad 12)] D cA ad A G r G1 :=
  zx_toMet (by decide) rfl (Nat.le_of_ble_eq_true rfl) (fun κ h hE => by exact z_U_left_12_0 h hE G hf)

def f_H_readCount_4 : Nat → Int32 → Int32 → zx_G → Option (Int32 × zx_G)
  | 0, _, _, _ => none
  | n + 1, x1, x2, G =>
    zx_if ((21 : Int32) ≤ x2)
      (some ((-1 : Int32), G))
      (zx_bd (f_U_nextByte_12 G) fun r_3 G_2 =>
      zx_lt r_3 fun x3_5 =>
      zx_if (0 ≤ x3_5)
        (zx_lt (x1 + ((x3_5 &&& (127 : Int32)) <<< (x2 &&& 31))) fun x1_7 =>
        zx_if ((128 : Int32) ≤ x3_5)
          (zx_lt (x2 + (7 : Int32)) fun x2_9 =>
          f_H_readCount_4 n x1_7 x2_9 G_2)
          (some (x1_7, G_2)))
        (some ((-1 : Int32), G_2)))
def f_H_readCount (G : zx_G) : Option (Int32 × zx_G) :=
  zx_lt (0 : Int32) fun x1_1 =>
  zx_lt (0 : Int32) fun x2_2 =>
  f_H_readCount_4 2048 x1_1 x2_2 G
set_option maxRecDepth 100000 in
set_option maxHeartbeats 4000000 in
theorem z_H_readCount_4 {κ : zx_K} {ad : Nat → Nat} {r : Int32} {G1 : zx_G} (h : zx_C M_H_readCount κ ad) (hE : zx_E M_H_readCount κ ad r G1) : ∀ (n : Nat) (x1 x2 : Int32) (G : zx_G), f_H_readCount_4 n x1 x2 G = some (r, G1) → zx_Z κ ad 4 [(0, .ref (ad 11)), (1, .int x1), (2, .int x2)] [] G := by
  intro n
  induction n with
  | zero => intro x1 x2 G hf; cases hf
  | succ n ih =>
    intro x1 x2 G hf
    unfold f_H_readCount_4 at hf
    refine zr_iload_n h d_H_readCount_4 rfl rfl 2 rfl ?_
    refine zr_bipush (v := (21 : Int32)) h d_H_readCount_5 rfl (by decide) ?_
    rcases zx_if_some hf with ⟨hc_1, hf⟩ | ⟨hc_1, hf⟩
    · refine zr_icmp_ge_t (tgt := 48) h d_H_readCount_7 rfl hc_1 ?_
      refine zr_iconst (v := (-1 : Int32)) h d_H_readCount_48 rfl (by decide) ?_
      exact zr_iret h hE d_H_readCount_49 rfl hf
    · refine zr_icmp_ge_f h 48 d_H_readCount_7 rfl rfl hc_1 ?_
      refine zr_aload_n h d_H_readCount_10 rfl rfl 0 rfl ?_
      refine zr_getR h d_H_readCount_11 rfl fl_H_26 sh_11 rfl ?_
      obtain ⟨r_3, G_2, hq_4, hf⟩ := zx_bd_some hf
      refine zr_callVI (As := []) (b := 12) h (c_U_nextByte_12 _ _ _ _ _ G r_3 G_2 hq_4) cc_H_52 d_H_readCount_14 rfl rfl rfl sh_12 ⟨rfl, rfl, by decide, by decide⟩ (Nat.le_of_ble_eq_true rfl) ?_
      obtain ⟨x3_5, ex3_5, hf⟩ := zx_lt_some hf
      refine zr_istore_n h d_H_readCount_17 rfl rfl (by decide) ex3_5 rfl ?_
      refine zr_iload_n h d_H_readCount_18 rfl rfl 0 rfl ?_
      rcases zx_if_some hf with ⟨hc_6, hf⟩ | ⟨hc_6, hf⟩
      · refine zr_if_ge_t (tgt := 24) h d_H_readCount_19 rfl hc_6 ?_
        refine zr_iload_n h d_H_readCount_24 rfl rfl 2 rfl ?_
        refine zr_iload_n h d_H_readCount_25 rfl rfl 0 rfl ?_
        refine zr_bipush (v := (127 : Int32)) h d_H_readCount_26 rfl (by decide) ?_
        refine zr_iand h d_H_readCount_28 rfl ?_
        refine zr_iload_n h d_H_readCount_29 rfl rfl 3 rfl ?_
        refine zr_ishl h d_H_readCount_30 rfl ?_
        refine zr_iadd h d_H_readCount_31 rfl ?_
        obtain ⟨x1_7, ex1_7, hf⟩ := zx_lt_some hf
        refine zr_istore_n h d_H_readCount_32 rfl rfl (by decide) ex1_7 rfl ?_
        refine zr_iload_n h d_H_readCount_33 rfl rfl 1 rfl ?_
        refine zr_sipush (v := (128 : Int32)) h d_H_readCount_34 rfl (by decide) ?_
        rcases zx_if_some hf with ⟨hc_8, hf⟩ | ⟨hc_8, hf⟩
        · refine zr_icmp_ge_t (tgt := 42) h d_H_readCount_37 rfl hc_8 ?_
          obtain ⟨x2_9, ex2_9, hf⟩ := zx_lt_some hf
          refine zr_iinc (j := 3) h d_H_readCount_42 rfl rfl (by decide) ex2_9 (by decide) rfl ?_
          refine zr_goto (tgt := 4) h d_H_readCount_45 rfl ?_
          refine zr_sub [3, 1, 0] rfl ?_
          exact ih x1_7 x2_9 G_2 hf
        · refine zr_icmp_ge_f h 42 d_H_readCount_37 rfl rfl hc_8 ?_
          refine zr_iload_n h d_H_readCount_40 rfl rfl 0 rfl ?_
          exact zr_iret h hE d_H_readCount_41 rfl hf
      · refine zr_if_ge_f h 24 d_H_readCount_19 rfl rfl hc_6 ?_
        refine zr_iconst (v := (-1 : Int32)) h d_H_readCount_22 rfl (by decide) ?_
        exact zr_iret h hE d_H_readCount_23 rfl hf
set_option maxRecDepth 100000 in
set_option maxHeartbeats 4000000 in
theorem z_H_readCount_0 {κ : zx_K} {ad : Nat → Nat} {r : Int32} {G1 : zx_G} (h : zx_C M_H_readCount κ ad) (hE : zx_E M_H_readCount κ ad r G1) (G : zx_G) (hf : f_H_readCount G = some (r, G1)) : zx_Z κ ad 0 [(0, .ref (ad 11))] [] G := by
  unfold f_H_readCount at hf
  refine zr_iconst (v := (0 : Int32)) h d_H_readCount_0 rfl (by decide) ?_
  obtain ⟨x1_1, ex1_1, hf⟩ := zx_lt_some hf
  refine zr_istore_n h d_H_readCount_1 rfl rfl (by decide) ex1_1 rfl ?_
  refine zr_iconst (v := (0 : Int32)) h d_H_readCount_2 rfl (by decide) ?_
  obtain ⟨x2_2, ex2_2, hf⟩ := zx_lt_some hf
  refine zr_istore_n h d_H_readCount_3 rfl rfl (by decide) ex2_2 rfl ?_
  refine zr_sub [2, 1, 0] rfl ?_
  exact z_H_readCount_4 h hE 2048 x1_1 x2_2 G hf
theorem c_H_readCount (l : Launch) (D : va_G) (cA : ClassId) (ad : Nat → Nat) (A : Nat → Prop) (G : zx_G) (r : Int32) (G1 : zx_G) (hf : f_H_readCount G = some (r, G1)) : zx_met l y_H_readCount M_H_readCount [.ref (ad 11)] D cA ad A G r G1 :=
  zx_toMet (by decide) rfl (Nat.le_of_ble_eq_true rfl) (fun κ h hE => by exact z_H_readCount_0 h hE G hf)

def f_H_readUnit_19 (G : zx_G) : Option (Int32 × zx_G) :=
  some ((7 : Int32), G)
def f_H_readUnit_123 (s0 : Int32) (G : zx_G) : Option (Int32 × zx_G) :=
  some (s0, G)
def f_H_readUnit_50 (x1 s0 : Int32) (G : zx_G) : Option (Int32 × zx_G) :=
  zx_lt s0 fun x2_1 =>
  zx_lt (G 12 1) fun x3_2 =>
  zx_bd (f_U_skip_12 x2_1 G) fun r_4 G_3 =>
  zx_if (¬ r_4 = 0)
    (zx_bd (f_U_open_13 x3_2 (x3_2 + x2_1) G_3) fun r_8 G_7 =>
    zx_lt (x1 >>> ((3 : Int32) &&& 31)) fun x4_10 =>
    zx_if (¬ x4_10 = (1 : Int32))
      (zx_if (¬ x4_10 = (6 : Int32))
        (some ((0 : Int32), G_7))
        (zx_if ((G_7 11 3) = 0)
          (f_H_readUnit_123 (7 : Int32) G_7)
          (zx_bd (f_H_readFrame G_7) fun r_15 G_14 =>
          f_H_readUnit_123 r_15 G_14)))
      (zx_bd (f_H_readSequence G_7) fun r_18 G_17 =>
      some (r_18, G_17)))
    (some ((7 : Int32), G_3))
def f_H_readUnit (G : zx_G) : Option (Int32 × zx_G) :=
  zx_bd (f_U_nextByte_12 G) fun r_2 G_1 =>
  zx_lt r_2 fun x1_4 =>
  zx_if (x1_4 < 0)
    (f_H_readUnit_19 G_1)
    (zx_if (x1_4 < (128 : Int32))
      (zx_if ((x1_4 &&& (4 : Int32)) = 0)
        (zx_if ((x1_4 &&& (2 : Int32)) = 0)
          (zx_bd (f_U_left_12 G_1) fun r_10 G_9 =>
          f_H_readUnit_50 x1_4 r_10 G_9)
          (zx_bd (f_H_readCount G_1) fun r_13 G_12 =>
          f_H_readUnit_50 x1_4 r_13 G_12))
        (some ((5 : Int32), G_1)))
      (f_H_readUnit_19 G_1))
set_option maxRecDepth 100000 in
set_option maxHeartbeats 4000000 in
theorem z_H_readUnit_19 {κ : zx_K} {ad : Nat → Nat} {r : Int32} {G1 : zx_G} (h : zx_C M_H_readUnit κ ad) (hE : zx_E M_H_readUnit κ ad r G1) (G : zx_G) (hf : f_H_readUnit_19 G = some (r, G1)) : zx_Z κ ad 19 [] [] G := by
  unfold f_H_readUnit_19 at hf
  refine zr_bipush (v := (7 : Int32)) h d_H_readUnit_19 rfl (by decide) ?_
  exact zr_iret h hE d_H_readUnit_21 rfl hf
set_option maxRecDepth 100000 in
set_option maxHeartbeats 4000000 in
theorem z_H_readUnit_123 {κ : zx_K} {ad : Nat → Nat} {r : Int32} {G1 : zx_G} (h : zx_C M_H_readUnit κ ad) (hE : zx_E M_H_readUnit κ ad r G1) (s0 : Int32) (G : zx_G) (hf : f_H_readUnit_123 s0 G = some (r, G1)) : zx_Z κ ad 123 [] [.int s0] G := by
  unfold f_H_readUnit_123 at hf
  exact zr_iret h hE d_H_readUnit_123 rfl hf
set_option maxRecDepth 100000 in
set_option maxHeartbeats 4000000 in
theorem z_H_readUnit_50 {κ : zx_K} {ad : Nat → Nat} {r : Int32} {G1 : zx_G} (h : zx_C M_H_readUnit κ ad) (hE : zx_E M_H_readUnit κ ad r G1) (x1 s0 : Int32) (G : zx_G) (hf : f_H_readUnit_50 x1 s0 G = some (r, G1)) : zx_Z κ ad 50 [(0, .ref (ad 11)), (1, .int x1)] [.int s0] G := by
  unfold f_H_readUnit_50 at hf
  obtain ⟨x2_1, ex2_1, hf⟩ := zx_lt_some hf
  refine zr_istore_n h d_H_readUnit_50 rfl rfl (by decide) ex2_1 rfl ?_
  refine zr_aload_n h d_H_readUnit_51 rfl rfl 1 rfl ?_
  refine zr_getR h d_H_readUnit_52 rfl fl_H_26 sh_11 rfl ?_
  refine zr_getI h d_H_readUnit_55 rfl fl_H_61 sh_12 rfl ?_
  obtain ⟨x3_2, ex3_2, hf⟩ := zx_lt_some hf
  refine zr_istore_n h d_H_readUnit_58 rfl rfl (by decide) ex3_2 rfl ?_
  refine zr_aload_n h d_H_readUnit_59 rfl rfl 2 rfl ?_
  refine zr_getR h d_H_readUnit_60 rfl fl_H_26 sh_11 rfl ?_
  refine zr_iload_n h d_H_readUnit_63 rfl rfl 1 rfl ?_
  obtain ⟨r_4, G_3, hq_5, hf⟩ := zx_bd_some hf
  refine zr_callVI (As := [.int x2_1]) (b := 12) h (c_U_skip_12 _ _ _ _ _ x2_1 G r_4 G_3 hq_5) cc_H_64 d_H_readUnit_64 rfl rfl rfl sh_12 ⟨rfl, rfl, by decide, by decide⟩ (Nat.le_of_ble_eq_true rfl) ?_
  rcases zx_if_some hf with ⟨hc_6, hf⟩ | ⟨hc_6, hf⟩
  · refine zr_if_ne_t (tgt := 73) h d_H_readUnit_67 rfl hc_6 ?_
    refine zr_aload_n h d_H_readUnit_73 rfl rfl 2 rfl ?_
    refine zr_getR h d_H_readUnit_74 rfl fl_H_30 sh_11 rfl ?_
    refine zr_iload_n h d_H_readUnit_77 rfl rfl 0 rfl ?_
    refine zr_iload_n h d_H_readUnit_78 rfl rfl 0 rfl ?_
    refine zr_iload_n h d_H_readUnit_79 rfl rfl 1 rfl ?_
    refine zr_iadd h d_H_readUnit_80 rfl ?_
    obtain ⟨r_8, G_7, hq_9, hf⟩ := zx_bd_some hf
    refine zr_callVV (As := [.int x3_2, .int (x3_2 + x2_1)]) (b := 13) h (c_U_open_13 _ _ _ _ _ x3_2 (x3_2 + x2_1) G_3 r_8 G_7 hq_9) cc_H_44 d_H_readUnit_81 rfl rfl rfl sh_13 ⟨rfl, rfl, by decide, by decide⟩ (Nat.le_of_ble_eq_true rfl) ?_
    refine zr_iload_n h d_H_readUnit_84 rfl rfl 3 rfl ?_
    refine zr_iconst (v := (3 : Int32)) h d_H_readUnit_85 rfl (by decide) ?_
    refine zr_ishr h d_H_readUnit_86 rfl ?_
    obtain ⟨x4_10, ex4_10, hf⟩ := zx_lt_some hf
    refine zr_istore h d_H_readUnit_87 rfl (by decide) ex4_10 rfl ?_
    refine zr_iload h d_H_readUnit_89 rfl 0 rfl ?_
    refine zr_iconst (v := (1 : Int32)) h d_H_readUnit_91 rfl (by decide) ?_
    rcases zx_if_some hf with ⟨hc_11, hf⟩ | ⟨hc_11, hf⟩
    · refine zr_icmp_ne_t (tgt := 100) h d_H_readUnit_92 rfl hc_11 ?_
      refine zr_iload h d_H_readUnit_100 rfl 0 rfl ?_
      refine zr_bipush (v := (6 : Int32)) h d_H_readUnit_102 rfl (by decide) ?_
      rcases zx_if_some hf with ⟨hc_12, hf⟩ | ⟨hc_12, hf⟩
      · refine zr_icmp_ne_t (tgt := 124) h d_H_readUnit_104 rfl hc_12 ?_
        refine zr_iconst (v := (0 : Int32)) h d_H_readUnit_124 rfl (by decide) ?_
        exact zr_iret h hE d_H_readUnit_125 rfl hf
      · refine zr_icmp_ne_f h 124 d_H_readUnit_104 rfl rfl hc_12 ?_
        refine zr_aload_n h d_H_readUnit_107 rfl rfl 3 rfl ?_
        refine zr_getI h d_H_readUnit_108 rfl fl_H_33 sh_11 rfl ?_
        rcases zx_if_some hf with ⟨hc_13, hf⟩ | ⟨hc_13, hf⟩
        · refine zr_if_eq_t (tgt := 121) h d_H_readUnit_111 rfl hc_13 ?_
          refine zr_bipush (v := (7 : Int32)) h d_H_readUnit_121 rfl (by decide) ?_
          refine zr_sub [] rfl ?_
          exact z_H_readUnit_123 h hE (7 : Int32) G_7 hf
        · refine zr_if_eq_f h 121 d_H_readUnit_111 rfl rfl hc_13 ?_
          refine zr_aload_n h d_H_readUnit_114 rfl rfl 3 rfl ?_
          obtain ⟨r_15, G_14, hq_16, hf⟩ := zx_bd_some hf
          refine zr_callVI (As := []) (b := 11) h (c_H_readFrame _ _ _ _ _ G_7 r_15 G_14 hq_16) cc_H_71 d_H_readUnit_115 rfl rfl rfl sh_11 ⟨rfl, rfl, by decide, by decide⟩ (Nat.le_of_ble_eq_true rfl) ?_
          refine zr_goto (tgt := 123) h d_H_readUnit_118 rfl ?_
          refine zr_sub [] rfl ?_
          exact z_H_readUnit_123 h hE r_15 G_14 hf
    · refine zr_icmp_ne_f h 100 d_H_readUnit_92 rfl rfl hc_11 ?_
      refine zr_aload_n h d_H_readUnit_95 rfl rfl 3 rfl ?_
      obtain ⟨r_18, G_17, hq_19, hf⟩ := zx_bd_some hf
      refine zr_callVI (As := []) (b := 11) h (c_H_readSequence _ _ _ _ _ G_7 r_18 G_17 hq_19) cc_H_68 d_H_readUnit_96 rfl rfl rfl sh_11 ⟨rfl, rfl, by decide, by decide⟩ (Nat.le_of_ble_eq_true rfl) ?_
      exact zr_iret h hE d_H_readUnit_99 rfl hf
  · refine zr_if_ne_f h 73 d_H_readUnit_67 rfl rfl hc_6 ?_
    refine zr_bipush (v := (7 : Int32)) h d_H_readUnit_70 rfl (by decide) ?_
    exact zr_iret h hE d_H_readUnit_72 rfl hf
set_option maxRecDepth 100000 in
set_option maxHeartbeats 4000000 in
theorem z_H_readUnit_0 {κ : zx_K} {ad : Nat → Nat} {r : Int32} {G1 : zx_G} (h : zx_C M_H_readUnit κ ad) (hE : zx_E M_H_readUnit κ ad r G1) (G : zx_G) (hf : f_H_readUnit G = some (r, G1)) : zx_Z κ ad 0 [(0, .ref (ad 11))] [] G := by
  unfold f_H_readUnit at hf
  refine zr_aload_n h d_H_readUnit_0 rfl rfl 0 rfl ?_
  refine zr_getR h d_H_readUnit_1 rfl fl_H_26 sh_11 rfl ?_
  obtain ⟨r_2, G_1, hq_3, hf⟩ := zx_bd_some hf
  refine zr_callVI (As := []) (b := 12) h (c_U_nextByte_12 _ _ _ _ _ G r_2 G_1 hq_3) cc_H_52 d_H_readUnit_4 rfl rfl rfl sh_12 ⟨rfl, rfl, by decide, by decide⟩ (Nat.le_of_ble_eq_true rfl) ?_
  obtain ⟨x1_4, ex1_4, hf⟩ := zx_lt_some hf
  refine zr_istore_n h d_H_readUnit_7 rfl rfl (by decide) ex1_4 rfl ?_
  refine zr_iload_n h d_H_readUnit_8 rfl rfl 0 rfl ?_
  rcases zx_if_some hf with ⟨hc_5, hf⟩ | ⟨hc_5, hf⟩
  · refine zr_if_lt_t (tgt := 19) h d_H_readUnit_9 rfl hc_5 ?_
    refine zr_sub [] rfl ?_
    exact z_H_readUnit_19 h hE G_1 hf
  · refine zr_if_lt_f h 19 d_H_readUnit_9 rfl rfl hc_5 ?_
    refine zr_iload_n h d_H_readUnit_12 rfl rfl 0 rfl ?_
    refine zr_sipush (v := (128 : Int32)) h d_H_readUnit_13 rfl (by decide) ?_
    rcases zx_if_some hf with ⟨hc_6, hf⟩ | ⟨hc_6, hf⟩
    · refine zr_icmp_lt_t (tgt := 22) h d_H_readUnit_16 rfl hc_6 ?_
      refine zr_iload_n h d_H_readUnit_22 rfl rfl 0 rfl ?_
      refine zr_iconst (v := (4 : Int32)) h d_H_readUnit_23 rfl (by decide) ?_
      refine zr_iand h d_H_readUnit_24 rfl ?_
      rcases zx_if_some hf with ⟨hc_7, hf⟩ | ⟨hc_7, hf⟩
      · refine zr_if_eq_t (tgt := 30) h d_H_readUnit_25 rfl hc_7 ?_
        refine zr_iload_n h d_H_readUnit_30 rfl rfl 0 rfl ?_
        refine zr_iconst (v := (2 : Int32)) h d_H_readUnit_31 rfl (by decide) ?_
        refine zr_iand h d_H_readUnit_32 rfl ?_
        rcases zx_if_some hf with ⟨hc_8, hf⟩ | ⟨hc_8, hf⟩
        · refine zr_if_eq_t (tgt := 43) h d_H_readUnit_33 rfl hc_8 ?_
          refine zr_aload_n h d_H_readUnit_43 rfl rfl 1 rfl ?_
          refine zr_getR h d_H_readUnit_44 rfl fl_H_26 sh_11 rfl ?_
          obtain ⟨r_10, G_9, hq_11, hf⟩ := zx_bd_some hf
          refine zr_callVI (As := []) (b := 12) h (c_U_left_12 _ _ _ _ _ G_1 r_10 G_9 hq_11) cc_H_58 d_H_readUnit_47 rfl rfl rfl sh_12 ⟨rfl, rfl, by decide, by decide⟩ (Nat.le_of_ble_eq_true rfl) ?_
          refine zr_sub [1, 0] rfl ?_
          exact z_H_readUnit_50 h hE x1_4 r_10 G_9 hf
        · refine zr_if_eq_f h 43 d_H_readUnit_33 rfl rfl hc_8 ?_
          refine zr_aload_n h d_H_readUnit_36 rfl rfl 1 rfl ?_
          obtain ⟨r_13, G_12, hq_14, hf⟩ := zx_bd_some hf
          refine zr_callVI (As := []) (b := 11) h (c_H_readCount _ _ _ _ _ G_1 r_13 G_12 hq_14) cc_H_55 d_H_readUnit_37 rfl rfl rfl sh_11 ⟨rfl, rfl, by decide, by decide⟩ (Nat.le_of_ble_eq_true rfl) ?_
          refine zr_goto (tgt := 50) h d_H_readUnit_40 rfl ?_
          refine zr_sub [1, 0] rfl ?_
          exact z_H_readUnit_50 h hE x1_4 r_13 G_12 hf
      · refine zr_if_eq_f h 30 d_H_readUnit_25 rfl rfl hc_7 ?_
        refine zr_iconst (v := (5 : Int32)) h d_H_readUnit_28 rfl (by decide) ?_
        exact zr_iret h hE d_H_readUnit_29 rfl hf
    · refine zr_icmp_lt_f h 22 d_H_readUnit_16 rfl rfl hc_6 ?_
      refine zr_sub [] rfl ?_
      exact z_H_readUnit_19 h hE G_1 hf
theorem c_H_readUnit (l : Launch) (D : va_G) (cA : ClassId) (ad : Nat → Nat) (A : Nat → Prop) (G : zx_G) (r : Int32) (G1 : zx_G) (hf : f_H_readUnit G = some (r, G1)) : zx_met l y_H_readUnit M_H_readUnit [.ref (ad 11)] D cA ad A G r G1 :=
  zx_toMet (by decide) rfl (Nat.le_of_ble_eq_true rfl) (fun κ h hE => by exact z_H_readUnit_0 h hE G hf)

def f_U_open_12 (x1 x2 : Int32) (G : zx_G) : Option (Int32 × zx_G) :=
  zx_lt (zx_up G 12 1 (zx_mmax x1 (0 : Int32))) fun G_1 =>
  zx_lt (zx_up G_1 12 2 (zx_mmin x2 (200 : Int32))) fun G_2 =>
  zx_lt (zx_up G_2 12 3 (0 : Int32)) fun G_3 =>
  some ((0 : Int32), G_3)
set_option maxRecDepth 100000 in
set_option maxHeartbeats 4000000 in
theorem z_U_open_12_0 {κ : zx_K} {ad : Nat → Nat} {r : Int32} {G1 : zx_G} (h : zx_C M_U_open κ ad) (hE : zx_E M_U_open κ ad r G1) (x1 x2 : Int32) (G : zx_G) (hf : f_U_open_12 x1 x2 G = some (r, G1)) : zx_Z κ ad 0 [(0, .ref (ad 12)), (1, .int x1), (2, .int x2)] [] G := by
  unfold f_U_open_12 at hf
  refine zr_aload_n h d_U_open_0 rfl rfl 0 rfl ?_
  refine zr_iload_n h d_U_open_1 rfl rfl 1 rfl ?_
  refine zr_iconst (v := (0 : Int32)) h d_U_open_2 rfl (by decide) ?_
  refine zr_mmax h d_U_open_3 rfl cc_U_13 (by decide) (Nat.le_of_ble_eq_true rfl) ?_
  obtain ⟨G_1, eG_1, hf⟩ := zx_lt_some hf
  refine zr_putI h d_U_open_6 rfl fl_U_19 pl_U_1 sh_12 rfl rfl rfl eG_1 ?_
  refine zr_aload_n h d_U_open_9 rfl rfl 0 rfl ?_
  refine zr_iload_n h d_U_open_10 rfl rfl 2 rfl ?_
  refine zr_aload_n h d_U_open_11 rfl rfl 0 rfl ?_
  refine zr_getR h d_U_open_12 rfl fl_U_7 sh_12 rfl ?_
  refine zr_alen (v := (200 : Int32)) h d_U_open_15 rfl sh_9 (by decide) ?_
  refine zr_mmin h d_U_open_16 rfl cc_U_23 (by decide) (Nat.le_of_ble_eq_true rfl) ?_
  obtain ⟨G_2, eG_2, hf⟩ := zx_lt_some hf
  refine zr_putI h d_U_open_19 rfl fl_U_26 pl_U_2 sh_12 rfl rfl rfl eG_2 ?_
  refine zr_aload_n h d_U_open_22 rfl rfl 0 rfl ?_
  refine zr_iconst (v := (0 : Int32)) h d_U_open_23 rfl (by decide) ?_
  obtain ⟨G_3, eG_3, hf⟩ := zx_lt_some hf
  refine zr_putI h d_U_open_24 rfl fl_U_29 pl_U_3 sh_12 rfl rfl rfl eG_3 ?_
  exact zr_vret h hE d_U_open_27 rfl hf
theorem c_U_open_12 (l : Launch) (D : va_G) (cA : ClassId) (ad : Nat → Nat) (A : Nat → Prop) (x1 x2 : Int32) (G : zx_G) (r : Int32) (G1 : zx_G) (hf : f_U_open_12 x1 x2 G = some (r, G1)) : zx_met l y_U_open M_U_open [.ref (ad 12), .int x1, .int x2] D cA ad A G r G1 :=
  zx_toMet (by decide) rfl (Nat.le_of_ble_eq_true rfl) (fun κ h hE => by exact z_U_open_12_0 h hE x1 x2 G hf)

def f_H_read_50 (x2 : Int32) (G : zx_G) : Option (Int32 × zx_G) :=
  some (x2, G)
def f_H_read_27 : Nat → Int32 → zx_G → Option (Int32 × zx_G)
  | 0, _, _ => none
  | n + 1, x1, G =>
    zx_if ((200 : Int32) < x1)
      (some ((7 : Int32), G))
      (zx_bd (f_H_readUnit G) fun r_3 G_2 =>
      zx_lt r_3 fun x2_5 =>
      zx_if (¬ x2_5 = 0)
        (f_H_read_50 x2_5 G_2)
        (zx_if ((G_2 11 4) = 0)
          (zx_lt (x1 + (1 : Int32)) fun x1_8 =>
          f_H_read_27 n x1_8 G_2)
          (f_H_read_50 x2_5 G_2)))
def f_H_read (G : zx_G) : Option (Int32 × zx_G) :=
  zx_gd (zx_01 (0 : Int32)) <|
  zx_lt (zx_up G 11 3 (0 : Int32)) fun G_2 =>
  zx_gd (zx_01 (0 : Int32)) <|
  zx_lt (zx_up G_2 11 4 (0 : Int32)) fun G_4 =>
  zx_bd (f_U_open_12 (0 : Int32) (G_4 8 4) G_4) fun r_6 G_5 =>
  zx_lt (0 : Int32) fun x1_8 =>
  f_H_read_27 2048 x1_8 G_5
set_option maxRecDepth 100000 in
set_option maxHeartbeats 4000000 in
theorem z_H_read_50 {κ : zx_K} {ad : Nat → Nat} {r : Int32} {G1 : zx_G} (h : zx_C M_H_read κ ad) (hE : zx_E M_H_read κ ad r G1) (x2 : Int32) (G : zx_G) (hf : f_H_read_50 x2 G = some (r, G1)) : zx_Z κ ad 50 [(2, .int x2)] [] G := by
  unfold f_H_read_50 at hf
  refine zr_iload_n h d_H_read_50 rfl rfl 0 rfl ?_
  exact zr_iret h hE d_H_read_51 rfl hf
set_option maxRecDepth 100000 in
set_option maxHeartbeats 4000000 in
theorem z_H_read_27 {κ : zx_K} {ad : Nat → Nat} {r : Int32} {G1 : zx_G} (h : zx_C M_H_read κ ad) (hE : zx_E M_H_read κ ad r G1) : ∀ (n : Nat) (x1 : Int32) (G : zx_G), f_H_read_27 n x1 G = some (r, G1) → zx_Z κ ad 27 [(0, .ref (ad 11)), (1, .int x1)] [] G := by
  intro n
  induction n with
  | zero => intro x1 G hf; cases hf
  | succ n ih =>
    intro x1 G hf
    unfold f_H_read_27 at hf
    refine zr_iload_n h d_H_read_27 rfl rfl 1 rfl ?_
    refine zr_sipush (v := (200 : Int32)) h d_H_read_28 rfl (by decide) ?_
    rcases zx_if_some hf with ⟨hc_1, hf⟩ | ⟨hc_1, hf⟩
    · refine zr_icmp_gt_t (tgt := 58) h d_H_read_31 rfl hc_1 ?_
      refine zr_bipush (v := (7 : Int32)) h d_H_read_58 rfl (by decide) ?_
      exact zr_iret h hE d_H_read_60 rfl hf
    · refine zr_icmp_gt_f h 58 d_H_read_31 rfl rfl hc_1 ?_
      refine zr_aload_n h d_H_read_34 rfl rfl 0 rfl ?_
      obtain ⟨r_3, G_2, hq_4, hf⟩ := zx_bd_some hf
      refine zr_callVI (As := []) (b := 11) h (c_H_readUnit _ _ _ _ _ G r_3 G_2 hq_4) cc_H_48 d_H_read_35 rfl rfl rfl sh_11 ⟨rfl, rfl, by decide, by decide⟩ (Nat.le_of_ble_eq_true rfl) ?_
      obtain ⟨x2_5, ex2_5, hf⟩ := zx_lt_some hf
      refine zr_istore_n h d_H_read_38 rfl rfl (by decide) ex2_5 rfl ?_
      refine zr_iload_n h d_H_read_39 rfl rfl 0 rfl ?_
      rcases zx_if_some hf with ⟨hc_6, hf⟩ | ⟨hc_6, hf⟩
      · refine zr_if_ne_t (tgt := 50) h d_H_read_40 rfl hc_6 ?_
        refine zr_sub [0] rfl ?_
        exact z_H_read_50 h hE x2_5 G_2 hf
      · refine zr_if_ne_f h 50 d_H_read_40 rfl rfl hc_6 ?_
        refine zr_aload_n h d_H_read_43 rfl rfl 1 rfl ?_
        refine zr_getI h d_H_read_44 rfl fl_H_37 sh_11 rfl ?_
        rcases zx_if_some hf with ⟨hc_7, hf⟩ | ⟨hc_7, hf⟩
        · refine zr_if_eq_t (tgt := 52) h d_H_read_47 rfl hc_7 ?_
          obtain ⟨x1_8, ex1_8, hf⟩ := zx_lt_some hf
          refine zr_iinc (j := 2) h d_H_read_52 rfl rfl (by decide) ex1_8 (by decide) rfl ?_
          refine zr_goto (tgt := 27) h d_H_read_55 rfl ?_
          refine zr_sub [2, 0] rfl ?_
          exact ih x1_8 G_2 hf
        · refine zr_if_eq_f h 52 d_H_read_47 rfl rfl hc_7 ?_
          refine zr_sub [0] rfl ?_
          exact z_H_read_50 h hE x2_5 G_2 hf
set_option maxRecDepth 100000 in
set_option maxHeartbeats 4000000 in
theorem z_H_read_0 {κ : zx_K} {ad : Nat → Nat} {r : Int32} {G1 : zx_G} (h : zx_C M_H_read κ ad) (hE : zx_E M_H_read κ ad r G1) (G : zx_G) (hf : f_H_read G = some (r, G1)) : zx_Z κ ad 0 [(0, .ref (ad 11))] [] G := by
  unfold f_H_read at hf
  refine zr_aload_n h d_H_read_0 rfl rfl 0 rfl ?_
  refine zr_iconst (v := (0 : Int32)) h d_H_read_1 rfl (by decide) ?_
  obtain ⟨hb_1, hf⟩ := zx_gd_some hf
  obtain ⟨G_2, eG_2, hf⟩ := zx_lt_some hf
  refine zr_putI h d_H_read_2 rfl fl_H_33 pl_H_3 sh_11 rfl (zx_01_n hb_1) (zx_01_f hb_1) eG_2 ?_
  refine zr_aload_n h d_H_read_5 rfl rfl 0 rfl ?_
  refine zr_iconst (v := (0 : Int32)) h d_H_read_6 rfl (by decide) ?_
  obtain ⟨hb_3, hf⟩ := zx_gd_some hf
  obtain ⟨G_4, eG_4, hf⟩ := zx_lt_some hf
  refine zr_putI h d_H_read_7 rfl fl_H_37 pl_H_4 sh_11 rfl (zx_01_n hb_3) (zx_01_f hb_3) eG_4 ?_
  refine zr_aload_n h d_H_read_10 rfl rfl 0 rfl ?_
  refine zr_getR h d_H_read_11 rfl fl_H_26 sh_11 rfl ?_
  refine zr_iconst (v := (0 : Int32)) h d_H_read_14 rfl (by decide) ?_
  refine zr_aload_n h d_H_read_15 rfl rfl 0 rfl ?_
  refine zr_getR h d_H_read_16 rfl fl_H_9 sh_11 rfl ?_
  refine zr_getI h d_H_read_19 rfl fl_H_40 sh_8 rfl ?_
  obtain ⟨r_6, G_5, hq_7, hf⟩ := zx_bd_some hf
  refine zr_callVV (As := [.int (0 : Int32), .int (G_4 8 4)]) (b := 12) h (c_U_open_12 _ _ _ _ _ (0 : Int32) (G_4 8 4) G_4 r_6 G_5 hq_7) cc_H_44 d_H_read_22 rfl rfl rfl sh_12 ⟨rfl, rfl, by decide, by decide⟩ (Nat.le_of_ble_eq_true rfl) ?_
  refine zr_iconst (v := (0 : Int32)) h d_H_read_25 rfl (by decide) ?_
  obtain ⟨x1_8, ex1_8, hf⟩ := zx_lt_some hf
  refine zr_istore_n h d_H_read_26 rfl rfl (by decide) ex1_8 rfl ?_
  refine zr_sub [1, 0] rfl ?_
  exact z_H_read_27 h hE 2048 x1_8 G_5 hf
theorem c_H_read (l : Launch) (D : va_G) (cA : ClassId) (ad : Nat → Nat) (A : Nat → Prop) (G : zx_G) (r : Int32) (G1 : zx_G) (hf : f_H_read G = some (r, G1)) : zx_met l y_H_read M_H_read [.ref (ad 11)] D cA ad A G r G1 :=
  zx_toMet (by decide) rfl (Nat.le_of_ble_eq_true rfl) (fun κ h hE => by exact z_H_read_0 h hE G hf)

def f_B_readStretch_61 (G : zx_G) : Option (Int32 × zx_G) :=
  zx_gd (zx_01 (0 : Int32)) <| some ((0 : Int32), G)
def f_B_readStretch_104 (G : zx_G) : Option (Int32 × zx_G) :=
  zx_gd (zx_01 (0 : Int32)) <| some ((0 : Int32), G)
def f_B_readStretch_87 (k25 : Int32 → Int32 → Int32 → Int32 → Int32 → zx_G → Option (Int32 × zx_G)) (x2 x3 x4 x5 x6 s0 : Int32) (G : zx_G) : Option (Int32 × zx_G) :=
  zx_lt s0 fun x7_1 =>
  zx_if (x7_1 < (2 : Int32))
    (f_B_readStretch_104 G)
    (zx_if (x7_1 ≤ (x2 - x5))
      (zx_gd (zx_in (x5 + (1 : Int32)) 240) <|
      zx_gd (zx_in (G 2 6) 16) <|
      zx_lt (zx_up G 3 (Int32.toNatClampNeg (G 2 6)) (G 1 (Int32.toNatClampNeg (x5 + (1 : Int32))))) fun G_6 =>
      zx_gd (zx_in (G_6 2 6) 16) <|
      zx_lt (zx_up G_6 4 (Int32.toNatClampNeg (G_6 2 6)) (x5 + (2 : Int32))) fun G_8 =>
      zx_gd (zx_in (G_8 2 6) 16) <|
      zx_lt (zx_up G_8 5 (Int32.toNatClampNeg (G_8 2 6)) (x5 + x7_1)) fun G_10 =>
      zx_gd (zx_in (G_10 2 6) 16) <|
      zx_lt (zx_up G_10 6 (Int32.toNatClampNeg (G_10 2 6)) x3) fun G_12 =>
      zx_gd (zx_in (G_12 2 6) 16) <|
      zx_lt (zx_up G_12 7 (Int32.toNatClampNeg (G_12 2 6)) x4) fun G_14 =>
      zx_lt (zx_up G_14 2 6 ((G_14 2 6) + (1 : Int32))) fun G_15 =>
      zx_lt (x5 + x7_1) fun x5_16 =>
      zx_lt (x6 + (1 : Int32)) fun x6_17 =>
      k25 x2 x3 x4 x5_16 x6_17 G_15)
      (f_B_readStretch_104 G))
def f_B_readStretch_195 (G : zx_G) : Option (Int32 × zx_G) :=
  zx_gd (zx_01 (1 : Int32)) <| some ((1 : Int32), G)
def f_B_readStretch_25 : Nat → Int32 → Int32 → Int32 → Int32 → Int32 → zx_G → Option (Int32 × zx_G)
  | 0, _, _, _, _, _, _ => none
  | n + 1, x2, x3, x4, x5, x6, G =>
    zx_if ((16 : Int32) < x6)
      (f_B_readStretch_195 G)
      (zx_if (x2 ≤ x5)
        (f_B_readStretch_195 G)
        (zx_if ((x2 - x5) < (2 : Int32))
          (f_B_readStretch_61 G)
          (zx_if ((16 : Int32) ≤ (G 2 6))
            (f_B_readStretch_61 G)
            (zx_if (x4 ≤ (4 : Int32))
              (zx_gd (zx_in x5 240) <|
              zx_if (¬ (G 1 (Int32.toNatClampNeg x5)) = 0)
                (zx_gd (zx_in x5 240) <|
                f_B_readStretch_87 (f_B_readStretch_25 n) x2 x3 x4 x5 x6 (G 1 (Int32.toNatClampNeg x5)) G)
                (f_B_readStretch_87 (f_B_readStretch_25 n) x2 x3 x4 x5 x6 (x2 - x5) G))
              (f_B_readStretch_61 G)))))
def f_B_readStretch_17 (x1 x2 x3 s0 : Int32) (G : zx_G) : Option (Int32 × zx_G) :=
  zx_lt s0 fun x4_1 =>
  zx_lt x1 fun x5_2 =>
  zx_lt (0 : Int32) fun x6_3 =>
  f_B_readStretch_25 2048 x2 x3 x4_1 x5_2 x6_3 G
def f_B_readStretch (x1 x2 x3 : Int32) (G : zx_G) : Option (Int32 × zx_G) :=
  zx_if (¬ x3 = (-1 : Int32))
    (zx_gd (zx_in x3 16) <|
    f_B_readStretch_17 x1 x2 x3 ((G 7 (Int32.toNatClampNeg x3)) + (1 : Int32)) G)
    (f_B_readStretch_17 x1 x2 x3 (1 : Int32) G)
set_option maxRecDepth 100000 in
set_option maxHeartbeats 4000000 in
theorem z_B_readStretch_61 {κ : zx_K} {ad : Nat → Nat} {r : Int32} {G1 : zx_G} (h : zx_C M_B_readStretch κ ad) (hE : zx_E M_B_readStretch κ ad r G1) (G : zx_G) (hf : f_B_readStretch_61 G = some (r, G1)) : zx_Z κ ad 61 [] [] G := by
  unfold f_B_readStretch_61 at hf
  refine zr_iconst (v := (0 : Int32)) h d_B_readStretch_61 rfl (by decide) ?_
  obtain ⟨hb_1, hf⟩ := zx_gd_some hf
  exact zr_zret h hE d_B_readStretch_62 rfl hb_1 hf
set_option maxRecDepth 100000 in
set_option maxHeartbeats 4000000 in
theorem z_B_readStretch_104 {κ : zx_K} {ad : Nat → Nat} {r : Int32} {G1 : zx_G} (h : zx_C M_B_readStretch κ ad) (hE : zx_E M_B_readStretch κ ad r G1) (G : zx_G) (hf : f_B_readStretch_104 G = some (r, G1)) : zx_Z κ ad 104 [] [] G := by
  unfold f_B_readStretch_104 at hf
  refine zr_iconst (v := (0 : Int32)) h d_B_readStretch_104 rfl (by decide) ?_
  obtain ⟨hb_1, hf⟩ := zx_gd_some hf
  exact zr_zret h hE d_B_readStretch_105 rfl hb_1 hf
set_option maxRecDepth 100000 in
set_option maxHeartbeats 4000000 in
theorem z_B_readStretch_87 {κ : zx_K} {ad : Nat → Nat} {r : Int32} {G1 : zx_G} (h : zx_C M_B_readStretch κ ad) (hE : zx_E M_B_readStretch κ ad r G1) {k25 : Int32 → Int32 → Int32 → Int32 → Int32 → zx_G → Option (Int32 × zx_G)} (hk25 : ∀ (x2 x3 x4 x5 x6 : Int32) (G : zx_G), k25 x2 x3 x4 x5 x6 G = some (r, G1) → zx_Z κ ad 25 [(0, .ref (ad 2)), (2, .int x2), (3, .int x3), (4, .int x4), (5, .int x5), (6, .int x6)] [] G) (x2 x3 x4 x5 x6 s0 : Int32) (G : zx_G) (hf : f_B_readStretch_87 k25 x2 x3 x4 x5 x6 s0 G = some (r, G1)) : zx_Z κ ad 87 [(0, .ref (ad 2)), (2, .int x2), (3, .int x3), (4, .int x4), (5, .int x5), (6, .int x6)] [.int s0] G := by
  unfold f_B_readStretch_87 at hf
  obtain ⟨x7_1, ex7_1, hf⟩ := zx_lt_some hf
  refine zr_istore h d_B_readStretch_87 rfl (by decide) ex7_1 rfl ?_
  refine zr_iload h d_B_readStretch_89 rfl 0 rfl ?_
  refine zr_iconst (v := (2 : Int32)) h d_B_readStretch_91 rfl (by decide) ?_
  rcases zx_if_some hf with ⟨hc_2, hf⟩ | ⟨hc_2, hf⟩
  · refine zr_icmp_lt_t (tgt := 104) h d_B_readStretch_92 rfl hc_2 ?_
    refine zr_sub [] rfl ?_
    exact z_B_readStretch_104 h hE G hf
  · refine zr_icmp_lt_f h 104 d_B_readStretch_92 rfl rfl hc_2 ?_
    refine zr_iload h d_B_readStretch_95 rfl 0 rfl ?_
    refine zr_iload_n h d_B_readStretch_97 rfl rfl 2 rfl ?_
    refine zr_iload h d_B_readStretch_98 rfl 5 rfl ?_
    refine zr_isub h d_B_readStretch_100 rfl ?_
    rcases zx_if_some hf with ⟨hc_3, hf⟩ | ⟨hc_3, hf⟩
    · refine zr_icmp_le_t (tgt := 106) h d_B_readStretch_101 rfl hc_3 ?_
      refine zr_aload_n h d_B_readStretch_106 rfl rfl 1 rfl ?_
      refine zr_getR h d_B_readStretch_107 rfl fl_B_11 sh_2 rfl ?_
      refine zr_aload_n h d_B_readStretch_110 rfl rfl 1 rfl ?_
      refine zr_getI h d_B_readStretch_111 rfl fl_B_30 sh_2 rfl ?_
      refine zr_aload_n h d_B_readStretch_114 rfl rfl 1 rfl ?_
      refine zr_getR h d_B_readStretch_115 rfl fl_B_27 sh_2 rfl ?_
      refine zr_iload h d_B_readStretch_118 rfl 5 rfl ?_
      refine zr_iconst (v := (1 : Int32)) h d_B_readStretch_120 rfl (by decide) ?_
      refine zr_iadd h d_B_readStretch_121 rfl ?_
      obtain ⟨hb_4, hf⟩ := zx_gd_some hf
      refine zr_iald h d_B_readStretch_122 rfl sh_1 hb_4 ?_
      obtain ⟨hb_5, hf⟩ := zx_gd_some hf
      obtain ⟨G_6, eG_6, hf⟩ := zx_lt_some hf
      refine zr_iast h d_B_readStretch_123 rfl sh_3 hb_5 eG_6 ?_
      refine zr_aload_n h d_B_readStretch_124 rfl rfl 1 rfl ?_
      refine zr_getR h d_B_readStretch_125 rfl fl_B_15 sh_2 rfl ?_
      refine zr_aload_n h d_B_readStretch_128 rfl rfl 1 rfl ?_
      refine zr_getI h d_B_readStretch_129 rfl fl_B_30 sh_2 rfl ?_
      refine zr_iload h d_B_readStretch_132 rfl 5 rfl ?_
      refine zr_iconst (v := (2 : Int32)) h d_B_readStretch_134 rfl (by decide) ?_
      refine zr_iadd h d_B_readStretch_135 rfl ?_
      obtain ⟨hb_7, hf⟩ := zx_gd_some hf
      obtain ⟨G_8, eG_8, hf⟩ := zx_lt_some hf
      refine zr_iast h d_B_readStretch_136 rfl sh_4 hb_7 eG_8 ?_
      refine zr_aload_n h d_B_readStretch_137 rfl rfl 1 rfl ?_
      refine zr_getR h d_B_readStretch_138 rfl fl_B_18 sh_2 rfl ?_
      refine zr_aload_n h d_B_readStretch_141 rfl rfl 1 rfl ?_
      refine zr_getI h d_B_readStretch_142 rfl fl_B_30 sh_2 rfl ?_
      refine zr_iload h d_B_readStretch_145 rfl 5 rfl ?_
      refine zr_iload h d_B_readStretch_147 rfl 0 rfl ?_
      refine zr_iadd h d_B_readStretch_149 rfl ?_
      obtain ⟨hb_9, hf⟩ := zx_gd_some hf
      obtain ⟨G_10, eG_10, hf⟩ := zx_lt_some hf
      refine zr_iast h d_B_readStretch_150 rfl sh_5 hb_9 eG_10 ?_
      refine zr_aload_n h d_B_readStretch_151 rfl rfl 1 rfl ?_
      refine zr_getR h d_B_readStretch_152 rfl fl_B_21 sh_2 rfl ?_
      refine zr_aload_n h d_B_readStretch_155 rfl rfl 1 rfl ?_
      refine zr_getI h d_B_readStretch_156 rfl fl_B_30 sh_2 rfl ?_
      refine zr_iload_n h d_B_readStretch_159 rfl rfl 3 rfl ?_
      obtain ⟨hb_11, hf⟩ := zx_gd_some hf
      obtain ⟨G_12, eG_12, hf⟩ := zx_lt_some hf
      refine zr_iast h d_B_readStretch_160 rfl sh_6 hb_11 eG_12 ?_
      refine zr_aload_n h d_B_readStretch_161 rfl rfl 1 rfl ?_
      refine zr_getR h d_B_readStretch_162 rfl fl_B_24 sh_2 rfl ?_
      refine zr_aload_n h d_B_readStretch_165 rfl rfl 1 rfl ?_
      refine zr_getI h d_B_readStretch_166 rfl fl_B_30 sh_2 rfl ?_
      refine zr_iload h d_B_readStretch_169 rfl 4 rfl ?_
      obtain ⟨hb_13, hf⟩ := zx_gd_some hf
      obtain ⟨G_14, eG_14, hf⟩ := zx_lt_some hf
      refine zr_iast h d_B_readStretch_171 rfl sh_7 hb_13 eG_14 ?_
      refine zr_aload_n h d_B_readStretch_172 rfl rfl 1 rfl ?_
      refine zr_dup h d_B_readStretch_173 rfl rfl ?_
      refine zr_getI h d_B_readStretch_174 rfl fl_B_30 sh_2 rfl ?_
      refine zr_iconst (v := (1 : Int32)) h d_B_readStretch_177 rfl (by decide) ?_
      refine zr_iadd h d_B_readStretch_178 rfl ?_
      obtain ⟨G_15, eG_15, hf⟩ := zx_lt_some hf
      refine zr_putI h d_B_readStretch_179 rfl fl_B_30 pl_B_6 sh_2 rfl rfl rfl eG_15 ?_
      refine zr_iload h d_B_readStretch_182 rfl 5 rfl ?_
      refine zr_iload h d_B_readStretch_184 rfl 0 rfl ?_
      refine zr_iadd h d_B_readStretch_186 rfl ?_
      obtain ⟨x5_16, ex5_16, hf⟩ := zx_lt_some hf
      refine zr_istore h d_B_readStretch_187 rfl (by decide) ex5_16 rfl ?_
      obtain ⟨x6_17, ex6_17, hf⟩ := zx_lt_some hf
      refine zr_iinc (j := 6) h d_B_readStretch_189 rfl rfl (by decide) ex6_17 (by decide) rfl ?_
      refine zr_goto (tgt := 25) h d_B_readStretch_192 rfl ?_
      refine zr_sub [3, 4, 5, 6, 1, 0] rfl ?_
      exact hk25 x2 x3 x4 x5_16 x6_17 G_15 hf
    · refine zr_icmp_le_f h 106 d_B_readStretch_101 rfl rfl hc_3 ?_
      refine zr_sub [] rfl ?_
      exact z_B_readStretch_104 h hE G hf
set_option maxRecDepth 100000 in
set_option maxHeartbeats 4000000 in
theorem z_B_readStretch_195 {κ : zx_K} {ad : Nat → Nat} {r : Int32} {G1 : zx_G} (h : zx_C M_B_readStretch κ ad) (hE : zx_E M_B_readStretch κ ad r G1) (G : zx_G) (hf : f_B_readStretch_195 G = some (r, G1)) : zx_Z κ ad 195 [] [] G := by
  unfold f_B_readStretch_195 at hf
  refine zr_iconst (v := (1 : Int32)) h d_B_readStretch_195 rfl (by decide) ?_
  obtain ⟨hb_1, hf⟩ := zx_gd_some hf
  exact zr_zret h hE d_B_readStretch_196 rfl hb_1 hf
set_option maxRecDepth 100000 in
set_option maxHeartbeats 4000000 in
theorem z_B_readStretch_25 {κ : zx_K} {ad : Nat → Nat} {r : Int32} {G1 : zx_G} (h : zx_C M_B_readStretch κ ad) (hE : zx_E M_B_readStretch κ ad r G1) : ∀ (n : Nat) (x2 x3 x4 x5 x6 : Int32) (G : zx_G), f_B_readStretch_25 n x2 x3 x4 x5 x6 G = some (r, G1) → zx_Z κ ad 25 [(0, .ref (ad 2)), (2, .int x2), (3, .int x3), (4, .int x4), (5, .int x5), (6, .int x6)] [] G := by
  intro n
  induction n with
  | zero => intro x2 x3 x4 x5 x6 G hf; cases hf
  | succ n ih =>
    intro x2 x3 x4 x5 x6 G hf
    unfold f_B_readStretch_25 at hf
    refine zr_iload h d_B_readStretch_25 rfl 5 rfl ?_
    refine zr_bipush (v := (16 : Int32)) h d_B_readStretch_27 rfl (by decide) ?_
    rcases zx_if_some hf with ⟨hc_1, hf⟩ | ⟨hc_1, hf⟩
    · refine zr_icmp_gt_t (tgt := 195) h d_B_readStretch_29 rfl hc_1 ?_
      refine zr_sub [] rfl ?_
      exact z_B_readStretch_195 h hE G hf
    · refine zr_icmp_gt_f h 195 d_B_readStretch_29 rfl rfl hc_1 ?_
      refine zr_iload h d_B_readStretch_32 rfl 4 rfl ?_
      refine zr_iload_n h d_B_readStretch_34 rfl rfl 1 rfl ?_
      rcases zx_if_some hf with ⟨hc_2, hf⟩ | ⟨hc_2, hf⟩
      · refine zr_icmp_ge_t (tgt := 195) h d_B_readStretch_35 rfl hc_2 ?_
        refine zr_sub [] rfl ?_
        exact z_B_readStretch_195 h hE G hf
      · refine zr_icmp_ge_f h 195 d_B_readStretch_35 rfl rfl hc_2 ?_
        refine zr_iload_n h d_B_readStretch_38 rfl rfl 1 rfl ?_
        refine zr_iload h d_B_readStretch_39 rfl 4 rfl ?_
        refine zr_isub h d_B_readStretch_41 rfl ?_
        refine zr_iconst (v := (2 : Int32)) h d_B_readStretch_42 rfl (by decide) ?_
        rcases zx_if_some hf with ⟨hc_3, hf⟩ | ⟨hc_3, hf⟩
        · refine zr_icmp_lt_t (tgt := 61) h d_B_readStretch_43 rfl hc_3 ?_
          refine zr_sub [] rfl ?_
          exact z_B_readStretch_61 h hE G hf
        · refine zr_icmp_lt_f h 61 d_B_readStretch_43 rfl rfl hc_3 ?_
          refine zr_aload_n h d_B_readStretch_46 rfl rfl 0 rfl ?_
          refine zr_getI h d_B_readStretch_47 rfl fl_B_30 sh_2 rfl ?_
          refine zr_bipush (v := (16 : Int32)) h d_B_readStretch_50 rfl (by decide) ?_
          rcases zx_if_some hf with ⟨hc_4, hf⟩ | ⟨hc_4, hf⟩
          · refine zr_icmp_ge_t (tgt := 61) h d_B_readStretch_52 rfl hc_4 ?_
            refine zr_sub [] rfl ?_
            exact z_B_readStretch_61 h hE G hf
          · refine zr_icmp_ge_f h 61 d_B_readStretch_52 rfl rfl hc_4 ?_
            refine zr_iload h d_B_readStretch_55 rfl 3 rfl ?_
            refine zr_iconst (v := (4 : Int32)) h d_B_readStretch_57 rfl (by decide) ?_
            rcases zx_if_some hf with ⟨hc_5, hf⟩ | ⟨hc_5, hf⟩
            · refine zr_icmp_le_t (tgt := 63) h d_B_readStretch_58 rfl hc_5 ?_
              refine zr_aload_n h d_B_readStretch_63 rfl rfl 0 rfl ?_
              refine zr_getR h d_B_readStretch_64 rfl fl_B_27 sh_2 rfl ?_
              refine zr_iload h d_B_readStretch_67 rfl 4 rfl ?_
              obtain ⟨hb_6, hf⟩ := zx_gd_some hf
              refine zr_iald h d_B_readStretch_69 rfl sh_1 hb_6 ?_
              rcases zx_if_some hf with ⟨hc_7, hf⟩ | ⟨hc_7, hf⟩
              · refine zr_if_ne_t (tgt := 80) h d_B_readStretch_70 rfl hc_7 ?_
                refine zr_aload_n h d_B_readStretch_80 rfl rfl 0 rfl ?_
                refine zr_getR h d_B_readStretch_81 rfl fl_B_27 sh_2 rfl ?_
                refine zr_iload h d_B_readStretch_84 rfl 4 rfl ?_
                obtain ⟨hb_8, hf⟩ := zx_gd_some hf
                refine zr_iald h d_B_readStretch_86 rfl sh_1 hb_8 ?_
                exact z_B_readStretch_87 h hE ih x2 x3 x4 x5 x6 (G 1 (Int32.toNatClampNeg x5)) G hf
              · refine zr_if_ne_f h 80 d_B_readStretch_70 rfl rfl hc_7 ?_
                refine zr_iload_n h d_B_readStretch_73 rfl rfl 1 rfl ?_
                refine zr_iload h d_B_readStretch_74 rfl 4 rfl ?_
                refine zr_isub h d_B_readStretch_76 rfl ?_
                refine zr_goto (tgt := 87) h d_B_readStretch_77 rfl ?_
                exact z_B_readStretch_87 h hE ih x2 x3 x4 x5 x6 (x2 - x5) G hf
            · refine zr_icmp_le_f h 63 d_B_readStretch_58 rfl rfl hc_5 ?_
              refine zr_sub [] rfl ?_
              exact z_B_readStretch_61 h hE G hf
set_option maxRecDepth 100000 in
set_option maxHeartbeats 4000000 in
theorem z_B_readStretch_17 {κ : zx_K} {ad : Nat → Nat} {r : Int32} {G1 : zx_G} (h : zx_C M_B_readStretch κ ad) (hE : zx_E M_B_readStretch κ ad r G1) (x1 x2 x3 s0 : Int32) (G : zx_G) (hf : f_B_readStretch_17 x1 x2 x3 s0 G = some (r, G1)) : zx_Z κ ad 17 [(0, .ref (ad 2)), (1, .int x1), (2, .int x2), (3, .int x3)] [.int s0] G := by
  unfold f_B_readStretch_17 at hf
  obtain ⟨x4_1, ex4_1, hf⟩ := zx_lt_some hf
  refine zr_istore h d_B_readStretch_17 rfl (by decide) ex4_1 rfl ?_
  refine zr_iload_n h d_B_readStretch_19 rfl rfl 2 rfl ?_
  obtain ⟨x5_2, ex5_2, hf⟩ := zx_lt_some hf
  refine zr_istore h d_B_readStretch_20 rfl (by decide) ex5_2 rfl ?_
  refine zr_iconst (v := (0 : Int32)) h d_B_readStretch_22 rfl (by decide) ?_
  obtain ⟨x6_3, ex6_3, hf⟩ := zx_lt_some hf
  refine zr_istore h d_B_readStretch_23 rfl (by decide) ex6_3 rfl ?_
  refine zr_sub [3, 5, 6, 2, 1, 0] rfl ?_
  exact z_B_readStretch_25 h hE 2048 x2 x3 x4_1 x5_2 x6_3 G hf
set_option maxRecDepth 100000 in
set_option maxHeartbeats 4000000 in
theorem z_B_readStretch_0 {κ : zx_K} {ad : Nat → Nat} {r : Int32} {G1 : zx_G} (h : zx_C M_B_readStretch κ ad) (hE : zx_E M_B_readStretch κ ad r G1) (x1 x2 x3 : Int32) (G : zx_G) (hf : f_B_readStretch x1 x2 x3 G = some (r, G1)) : zx_Z κ ad 0 [(0, .ref (ad 2)), (1, .int x1), (2, .int x2), (3, .int x3)] [] G := by
  unfold f_B_readStretch at hf
  refine zr_iload_n h d_B_readStretch_0 rfl rfl 3 rfl ?_
  refine zr_iconst (v := (-1 : Int32)) h d_B_readStretch_1 rfl (by decide) ?_
  rcases zx_if_some hf with ⟨hc_1, hf⟩ | ⟨hc_1, hf⟩
  · refine zr_icmp_ne_t (tgt := 9) h d_B_readStretch_2 rfl hc_1 ?_
    refine zr_aload_n h d_B_readStretch_9 rfl rfl 0 rfl ?_
    refine zr_getR h d_B_readStretch_10 rfl fl_B_24 sh_2 rfl ?_
    refine zr_iload_n h d_B_readStretch_13 rfl rfl 3 rfl ?_
    obtain ⟨hb_2, hf⟩ := zx_gd_some hf
    refine zr_iald h d_B_readStretch_14 rfl sh_7 hb_2 ?_
    refine zr_iconst (v := (1 : Int32)) h d_B_readStretch_15 rfl (by decide) ?_
    refine zr_iadd h d_B_readStretch_16 rfl ?_
    exact z_B_readStretch_17 h hE x1 x2 x3 ((G 7 (Int32.toNatClampNeg x3)) + (1 : Int32)) G hf
  · refine zr_icmp_ne_f h 9 d_B_readStretch_2 rfl rfl hc_1 ?_
    refine zr_iconst (v := (1 : Int32)) h d_B_readStretch_5 rfl (by decide) ?_
    refine zr_goto (tgt := 17) h d_B_readStretch_6 rfl ?_
    exact z_B_readStretch_17 h hE x1 x2 x3 (1 : Int32) G hf
theorem c_B_readStretch (l : Launch) (D : va_G) (cA : ClassId) (ad : Nat → Nat) (A : Nat → Prop) (x1 x2 x3 : Int32) (G : zx_G) (r : Int32) (G1 : zx_G) (hf : f_B_readStretch x1 x2 x3 G = some (r, G1)) : zx_met l y_B_readStretch M_B_readStretch [.ref (ad 2), .int x1, .int x2, .int x3] D cA ad A G r G1 :=
  zx_toMet (by decide) rfl (Nat.le_of_ble_eq_true rfl) (fun κ h hE => by exact z_B_readStretch_0 h hE x1 x2 x3 G hf)

def f_B_read_87 (k19 : Int32 → zx_G → Option (Int32 × zx_G)) (x2 : Int32) (G : zx_G) : Option (Int32 × zx_G) :=
  zx_lt (x2 + (1 : Int32)) fun x2_1 =>
  k19 x2_1 G
def f_B_read_60 (k19 : Int32 → zx_G → Option (Int32 × zx_G)) (x2 s0 : Int32) (G : zx_G) : Option (Int32 × zx_G) :=
  zx_lt s0 fun x3_1 =>
  zx_if (x3_1 = 0)
    (f_B_read_87 k19 x2 G)
    (zx_gd (zx_in x2 16) <|
    zx_gd (zx_in x2 16) <|
    zx_bd (f_B_readStretch (G 4 (Int32.toNatClampNeg x2)) (G 5 (Int32.toNatClampNeg x2)) x2 G) fun r_6 G_5 =>
    zx_if (¬ r_6 = 0)
      (f_B_read_87 k19 x2 G_5)
      (some ((1 : Int32), G_5)))
def f_B_read_55 (k19 : Int32 → zx_G → Option (Int32 × zx_G)) (x2 : Int32) (G : zx_G) : Option (Int32 × zx_G) :=
  f_B_read_60 k19 x2 (1 : Int32) G
def f_B_read_93 (G : zx_G) : Option (Int32 × zx_G) :=
  some ((0 : Int32), G)
def f_B_read_19 : Nat → Int32 → zx_G → Option (Int32 × zx_G)
  | 0, _, _ => none
  | n + 1, x2, G =>
    zx_if ((16 : Int32) ≤ x2)
      (f_B_read_93 G)
      (zx_if ((G 2 6) ≤ x2)
        (f_B_read_93 G)
        (zx_gd (zx_in x2 16) <|
        zx_if ((G 3 (Int32.toNatClampNeg x2)) = (109 : Int32))
          (f_B_read_55 (f_B_read_19 n) x2 G)
          (zx_gd (zx_in x2 16) <|
          zx_if (¬ (G 3 (Int32.toNatClampNeg x2)) = (114 : Int32))
            (f_B_read_60 (f_B_read_19 n) x2 (0 : Int32) G)
            (f_B_read_55 (f_B_read_19 n) x2 G))))
def f_B_read (x1 : Int32) (G : zx_G) : Option (Int32 × zx_G) :=
  zx_lt (zx_up G 2 6 (0 : Int32)) fun G_1 =>
  zx_bd (f_B_readStretch (0 : Int32) x1 (-1 : Int32) G_1) fun r_3 G_2 =>
  zx_if (¬ r_3 = 0)
    (zx_lt (0 : Int32) fun x2_6 =>
    f_B_read_19 2048 x2_6 G_2)
    (some ((1 : Int32), G_2))
set_option maxRecDepth 100000 in
set_option maxHeartbeats 4000000 in
theorem z_B_read_87 {κ : zx_K} {ad : Nat → Nat} {r : Int32} {G1 : zx_G} (h : zx_C M_B_read κ ad) (hE : zx_E M_B_read κ ad r G1) {k19 : Int32 → zx_G → Option (Int32 × zx_G)} (hk19 : ∀ (x2 : Int32) (G : zx_G), k19 x2 G = some (r, G1) → zx_Z κ ad 19 [(0, .ref (ad 2)), (2, .int x2)] [] G) (x2 : Int32) (G : zx_G) (hf : f_B_read_87 k19 x2 G = some (r, G1)) : zx_Z κ ad 87 [(0, .ref (ad 2)), (2, .int x2)] [] G := by
  unfold f_B_read_87 at hf
  obtain ⟨x2_1, ex2_1, hf⟩ := zx_lt_some hf
  refine zr_iinc (j := 1) h d_B_read_87 rfl rfl (by decide) ex2_1 (by decide) rfl ?_
  refine zr_goto (tgt := 19) h d_B_read_90 rfl ?_
  refine zr_sub [1, 0] rfl ?_
  exact hk19 x2_1 G hf
set_option maxRecDepth 100000 in
set_option maxHeartbeats 4000000 in
theorem z_B_read_60 {κ : zx_K} {ad : Nat → Nat} {r : Int32} {G1 : zx_G} (h : zx_C M_B_read κ ad) (hE : zx_E M_B_read κ ad r G1) {k19 : Int32 → zx_G → Option (Int32 × zx_G)} (hk19 : ∀ (x2 : Int32) (G : zx_G), k19 x2 G = some (r, G1) → zx_Z κ ad 19 [(0, .ref (ad 2)), (2, .int x2)] [] G) (x2 s0 : Int32) (G : zx_G) (hf : f_B_read_60 k19 x2 s0 G = some (r, G1)) : zx_Z κ ad 60 [(0, .ref (ad 2)), (2, .int x2)] [.int s0] G := by
  unfold f_B_read_60 at hf
  obtain ⟨x3_1, ex3_1, hf⟩ := zx_lt_some hf
  refine zr_istore_n h d_B_read_60 rfl rfl (by decide) ex3_1 rfl ?_
  refine zr_iload_n h d_B_read_61 rfl rfl 0 rfl ?_
  rcases zx_if_some hf with ⟨hc_2, hf⟩ | ⟨hc_2, hf⟩
  · refine zr_if_eq_t (tgt := 87) h d_B_read_62 rfl hc_2 ?_
    refine zr_sub [1, 2] rfl ?_
    exact z_B_read_87 h hE hk19 x2 G hf
  · refine zr_if_eq_f h 87 d_B_read_62 rfl rfl hc_2 ?_
    refine zr_aload_n h d_B_read_65 rfl rfl 1 rfl ?_
    refine zr_aload_n h d_B_read_66 rfl rfl 1 rfl ?_
    refine zr_getR h d_B_read_67 rfl fl_B_15 sh_2 rfl ?_
    refine zr_iload_n h d_B_read_70 rfl rfl 2 rfl ?_
    obtain ⟨hb_3, hf⟩ := zx_gd_some hf
    refine zr_iald h d_B_read_71 rfl sh_4 hb_3 ?_
    refine zr_aload_n h d_B_read_72 rfl rfl 1 rfl ?_
    refine zr_getR h d_B_read_73 rfl fl_B_18 sh_2 rfl ?_
    refine zr_iload_n h d_B_read_76 rfl rfl 2 rfl ?_
    obtain ⟨hb_4, hf⟩ := zx_gd_some hf
    refine zr_iald h d_B_read_77 rfl sh_5 hb_4 ?_
    refine zr_iload_n h d_B_read_78 rfl rfl 2 rfl ?_
    obtain ⟨r_6, G_5, hq_7, hf⟩ := zx_bd_some hf
    refine zr_callVI (As := [.int (G 4 (Int32.toNatClampNeg x2)), .int (G 5 (Int32.toNatClampNeg x2)), .int x2]) (b := 2) h (c_B_readStretch _ _ _ _ _ (G 4 (Int32.toNatClampNeg x2)) (G 5 (Int32.toNatClampNeg x2)) x2 G r_6 G_5 hq_7) cc_B_34 d_B_read_79 rfl rfl rfl sh_2 ⟨rfl, rfl, by decide, by decide⟩ (Nat.le_of_ble_eq_true rfl) ?_
    rcases zx_if_some hf with ⟨hc_8, hf⟩ | ⟨hc_8, hf⟩
    · refine zr_if_ne_t (tgt := 87) h d_B_read_82 rfl hc_8 ?_
      refine zr_sub [1, 2] rfl ?_
      exact z_B_read_87 h hE hk19 x2 G_5 hf
    · refine zr_if_ne_f h 87 d_B_read_82 rfl rfl hc_8 ?_
      refine zr_iconst (v := (1 : Int32)) h d_B_read_85 rfl (by decide) ?_
      exact zr_iret h hE d_B_read_86 rfl hf
set_option maxRecDepth 100000 in
set_option maxHeartbeats 4000000 in
theorem z_B_read_55 {κ : zx_K} {ad : Nat → Nat} {r : Int32} {G1 : zx_G} (h : zx_C M_B_read κ ad) (hE : zx_E M_B_read κ ad r G1) {k19 : Int32 → zx_G → Option (Int32 × zx_G)} (hk19 : ∀ (x2 : Int32) (G : zx_G), k19 x2 G = some (r, G1) → zx_Z κ ad 19 [(0, .ref (ad 2)), (2, .int x2)] [] G) (x2 : Int32) (G : zx_G) (hf : f_B_read_55 k19 x2 G = some (r, G1)) : zx_Z κ ad 55 [(0, .ref (ad 2)), (2, .int x2)] [] G := by
  unfold f_B_read_55 at hf
  refine zr_iconst (v := (1 : Int32)) h d_B_read_55 rfl (by decide) ?_
  refine zr_goto (tgt := 60) h d_B_read_56 rfl ?_
  exact z_B_read_60 h hE hk19 x2 (1 : Int32) G hf
set_option maxRecDepth 100000 in
set_option maxHeartbeats 4000000 in
theorem z_B_read_93 {κ : zx_K} {ad : Nat → Nat} {r : Int32} {G1 : zx_G} (h : zx_C M_B_read κ ad) (hE : zx_E M_B_read κ ad r G1) (G : zx_G) (hf : f_B_read_93 G = some (r, G1)) : zx_Z κ ad 93 [] [] G := by
  unfold f_B_read_93 at hf
  refine zr_iconst (v := (0 : Int32)) h d_B_read_93 rfl (by decide) ?_
  exact zr_iret h hE d_B_read_94 rfl hf
set_option maxRecDepth 100000 in
set_option maxHeartbeats 4000000 in
theorem z_B_read_19 {κ : zx_K} {ad : Nat → Nat} {r : Int32} {G1 : zx_G} (h : zx_C M_B_read κ ad) (hE : zx_E M_B_read κ ad r G1) : ∀ (n : Nat) (x2 : Int32) (G : zx_G), f_B_read_19 n x2 G = some (r, G1) → zx_Z κ ad 19 [(0, .ref (ad 2)), (2, .int x2)] [] G := by
  intro n
  induction n with
  | zero => intro x2 G hf; cases hf
  | succ n ih =>
    intro x2 G hf
    unfold f_B_read_19 at hf
    refine zr_iload_n h d_B_read_19 rfl rfl 1 rfl ?_
    refine zr_bipush (v := (16 : Int32)) h d_B_read_20 rfl (by decide) ?_
    rcases zx_if_some hf with ⟨hc_1, hf⟩ | ⟨hc_1, hf⟩
    · refine zr_icmp_ge_t (tgt := 93) h d_B_read_22 rfl hc_1 ?_
      refine zr_sub [] rfl ?_
      exact z_B_read_93 h hE G hf
    · refine zr_icmp_ge_f h 93 d_B_read_22 rfl rfl hc_1 ?_
      refine zr_iload_n h d_B_read_25 rfl rfl 1 rfl ?_
      refine zr_aload_n h d_B_read_26 rfl rfl 0 rfl ?_
      refine zr_getI h d_B_read_27 rfl fl_B_30 sh_2 rfl ?_
      rcases zx_if_some hf with ⟨hc_2, hf⟩ | ⟨hc_2, hf⟩
      · refine zr_icmp_ge_t (tgt := 93) h d_B_read_30 rfl hc_2 ?_
        refine zr_sub [] rfl ?_
        exact z_B_read_93 h hE G hf
      · refine zr_icmp_ge_f h 93 d_B_read_30 rfl rfl hc_2 ?_
        refine zr_aload_n h d_B_read_33 rfl rfl 0 rfl ?_
        refine zr_getR h d_B_read_34 rfl fl_B_11 sh_2 rfl ?_
        refine zr_iload_n h d_B_read_37 rfl rfl 1 rfl ?_
        obtain ⟨hb_3, hf⟩ := zx_gd_some hf
        refine zr_iald h d_B_read_38 rfl sh_3 hb_3 ?_
        refine zr_bipush (v := (109 : Int32)) h d_B_read_39 rfl (by decide) ?_
        rcases zx_if_some hf with ⟨hc_4, hf⟩ | ⟨hc_4, hf⟩
        · refine zr_icmp_eq_t (tgt := 55) h d_B_read_41 rfl hc_4 ?_
          exact z_B_read_55 h hE ih x2 G hf
        · refine zr_icmp_eq_f h 55 d_B_read_41 rfl rfl hc_4 ?_
          refine zr_aload_n h d_B_read_44 rfl rfl 0 rfl ?_
          refine zr_getR h d_B_read_45 rfl fl_B_11 sh_2 rfl ?_
          refine zr_iload_n h d_B_read_48 rfl rfl 1 rfl ?_
          obtain ⟨hb_5, hf⟩ := zx_gd_some hf
          refine zr_iald h d_B_read_49 rfl sh_3 hb_5 ?_
          refine zr_bipush (v := (114 : Int32)) h d_B_read_50 rfl (by decide) ?_
          rcases zx_if_some hf with ⟨hc_6, hf⟩ | ⟨hc_6, hf⟩
          · refine zr_icmp_ne_t (tgt := 59) h d_B_read_52 rfl hc_6 ?_
            refine zr_iconst (v := (0 : Int32)) h d_B_read_59 rfl (by decide) ?_
            exact z_B_read_60 h hE ih x2 (0 : Int32) G hf
          · refine zr_icmp_ne_f h 59 d_B_read_52 rfl rfl hc_6 ?_
            exact z_B_read_55 h hE ih x2 G hf
set_option maxRecDepth 100000 in
set_option maxHeartbeats 4000000 in
theorem z_B_read_0 {κ : zx_K} {ad : Nat → Nat} {r : Int32} {G1 : zx_G} (h : zx_C M_B_read κ ad) (hE : zx_E M_B_read κ ad r G1) (x1 : Int32) (G : zx_G) (hf : f_B_read x1 G = some (r, G1)) : zx_Z κ ad 0 [(0, .ref (ad 2)), (1, .int x1)] [] G := by
  unfold f_B_read at hf
  refine zr_aload_n h d_B_read_0 rfl rfl 0 rfl ?_
  refine zr_iconst (v := (0 : Int32)) h d_B_read_1 rfl (by decide) ?_
  obtain ⟨G_1, eG_1, hf⟩ := zx_lt_some hf
  refine zr_putI h d_B_read_2 rfl fl_B_30 pl_B_6 sh_2 rfl rfl rfl eG_1 ?_
  refine zr_aload_n h d_B_read_5 rfl rfl 0 rfl ?_
  refine zr_iconst (v := (0 : Int32)) h d_B_read_6 rfl (by decide) ?_
  refine zr_iload_n h d_B_read_7 rfl rfl 1 rfl ?_
  refine zr_iconst (v := (-1 : Int32)) h d_B_read_8 rfl (by decide) ?_
  obtain ⟨r_3, G_2, hq_4, hf⟩ := zx_bd_some hf
  refine zr_callVI (As := [.int (0 : Int32), .int x1, .int (-1 : Int32)]) (b := 2) h (c_B_readStretch _ _ _ _ _ (0 : Int32) x1 (-1 : Int32) G_1 r_3 G_2 hq_4) cc_B_34 d_B_read_9 rfl rfl rfl sh_2 ⟨rfl, rfl, by decide, by decide⟩ (Nat.le_of_ble_eq_true rfl) ?_
  rcases zx_if_some hf with ⟨hc_5, hf⟩ | ⟨hc_5, hf⟩
  · refine zr_if_ne_t (tgt := 17) h d_B_read_12 rfl hc_5 ?_
    refine zr_iconst (v := (0 : Int32)) h d_B_read_17 rfl (by decide) ?_
    obtain ⟨x2_6, ex2_6, hf⟩ := zx_lt_some hf
    refine zr_istore_n h d_B_read_18 rfl rfl (by decide) ex2_6 rfl ?_
    refine zr_sub [1, 0] rfl ?_
    exact z_B_read_19 h hE 2048 x2_6 G_2 hf
  · refine zr_if_ne_f h 17 d_B_read_12 rfl rfl hc_5 ?_
    refine zr_iconst (v := (1 : Int32)) h d_B_read_15 rfl (by decide) ?_
    exact zr_iret h hE d_B_read_16 rfl hf
theorem c_B_read (l : Launch) (D : va_G) (cA : ClassId) (ad : Nat → Nat) (A : Nat → Prop) (x1 : Int32) (G : zx_G) (r : Int32) (G1 : zx_G) (hf : f_B_read x1 G = some (r, G1)) : zx_met l y_B_read M_B_read [.ref (ad 2), .int x1] D cA ad A G r G1 :=
  zx_toMet (by decide) rfl (Nat.le_of_ble_eq_true rfl) (fun κ h hE => by exact z_B_read_0 h hE x1 G hf)

def f_B_isBranded_18 (G : zx_G) : Option (Int32 × zx_G) :=
  zx_gd (zx_01 (0 : Int32)) <| some ((0 : Int32), G)
def f_B_isBranded_27 : Nat → Int32 → zx_G → Option (Int32 × zx_G)
  | 0, _, _ => none
  | n + 1, x1, G =>
    zx_gd (zx_in (0 : Int32) 16) <|
    zx_if ((G 5 (Int32.toNatClampNeg (0 : Int32))) ≤ x1)
      (zx_gd (zx_01 (0 : Int32)) <| some ((0 : Int32), G))
      (zx_gd (zx_in x1 240) <|
      zx_if (¬ (G 1 (Int32.toNatClampNeg x1)) = (118 : Int32))
        (zx_lt (x1 + (1 : Int32)) fun x1_6 =>
        f_B_isBranded_27 n x1_6 G)
        (zx_gd (zx_01 (1 : Int32)) <| some ((1 : Int32), G)))
def f_B_isBranded (G : zx_G) : Option (Int32 × zx_G) :=
  zx_if ((G 2 6) = 0)
    (f_B_isBranded_18 G)
    (zx_gd (zx_in (0 : Int32) 16) <|
    zx_if ((G 3 (Int32.toNatClampNeg (0 : Int32))) = (102 : Int32))
      (zx_gd (zx_in (0 : Int32) 16) <|
      zx_lt (G 4 (Int32.toNatClampNeg (0 : Int32))) fun x1_5 =>
      f_B_isBranded_27 2048 x1_5 G)
      (f_B_isBranded_18 G))
set_option maxRecDepth 100000 in
set_option maxHeartbeats 4000000 in
theorem z_B_isBranded_18 {κ : zx_K} {ad : Nat → Nat} {r : Int32} {G1 : zx_G} (h : zx_C M_B_isBranded κ ad) (hE : zx_E M_B_isBranded κ ad r G1) (G : zx_G) (hf : f_B_isBranded_18 G = some (r, G1)) : zx_Z κ ad 18 [] [] G := by
  unfold f_B_isBranded_18 at hf
  refine zr_iconst (v := (0 : Int32)) h d_B_isBranded_18 rfl (by decide) ?_
  obtain ⟨hb_1, hf⟩ := zx_gd_some hf
  exact zr_zret h hE d_B_isBranded_19 rfl hb_1 hf
set_option maxRecDepth 100000 in
set_option maxHeartbeats 4000000 in
theorem z_B_isBranded_27 {κ : zx_K} {ad : Nat → Nat} {r : Int32} {G1 : zx_G} (h : zx_C M_B_isBranded κ ad) (hE : zx_E M_B_isBranded κ ad r G1) : ∀ (n : Nat) (x1 : Int32) (G : zx_G), f_B_isBranded_27 n x1 G = some (r, G1) → zx_Z κ ad 27 [(0, .ref (ad 2)), (1, .int x1)] [] G := by
  intro n
  induction n with
  | zero => intro x1 G hf; cases hf
  | succ n ih =>
    intro x1 G hf
    unfold f_B_isBranded_27 at hf
    refine zr_iload_n h d_B_isBranded_27 rfl rfl 1 rfl ?_
    refine zr_aload_n h d_B_isBranded_28 rfl rfl 0 rfl ?_
    refine zr_getR h d_B_isBranded_29 rfl fl_B_18 sh_2 rfl ?_
    refine zr_iconst (v := (0 : Int32)) h d_B_isBranded_32 rfl (by decide) ?_
    obtain ⟨hb_1, hf⟩ := zx_gd_some hf
    refine zr_iald h d_B_isBranded_33 rfl sh_5 hb_1 ?_
    rcases zx_if_some hf with ⟨hc_2, hf⟩ | ⟨hc_2, hf⟩
    · refine zr_icmp_ge_t (tgt := 56) h d_B_isBranded_34 rfl hc_2 ?_
      refine zr_iconst (v := (0 : Int32)) h d_B_isBranded_56 rfl (by decide) ?_
      obtain ⟨hb_3, hf⟩ := zx_gd_some hf
      exact zr_zret h hE d_B_isBranded_57 rfl hb_3 hf
    · refine zr_icmp_ge_f h 56 d_B_isBranded_34 rfl rfl hc_2 ?_
      refine zr_aload_n h d_B_isBranded_37 rfl rfl 0 rfl ?_
      refine zr_getR h d_B_isBranded_38 rfl fl_B_27 sh_2 rfl ?_
      refine zr_iload_n h d_B_isBranded_41 rfl rfl 1 rfl ?_
      obtain ⟨hb_4, hf⟩ := zx_gd_some hf
      refine zr_iald h d_B_isBranded_42 rfl sh_1 hb_4 ?_
      refine zr_bipush (v := (118 : Int32)) h d_B_isBranded_43 rfl (by decide) ?_
      rcases zx_if_some hf with ⟨hc_5, hf⟩ | ⟨hc_5, hf⟩
      · refine zr_icmp_ne_t (tgt := 50) h d_B_isBranded_45 rfl hc_5 ?_
        obtain ⟨x1_6, ex1_6, hf⟩ := zx_lt_some hf
        refine zr_iinc (j := 1) h d_B_isBranded_50 rfl rfl (by decide) ex1_6 (by decide) rfl ?_
        refine zr_goto (tgt := 27) h d_B_isBranded_53 rfl ?_
        refine zr_sub [1, 0] rfl ?_
        exact ih x1_6 G hf
      · refine zr_icmp_ne_f h 50 d_B_isBranded_45 rfl rfl hc_5 ?_
        refine zr_iconst (v := (1 : Int32)) h d_B_isBranded_48 rfl (by decide) ?_
        obtain ⟨hb_7, hf⟩ := zx_gd_some hf
        exact zr_zret h hE d_B_isBranded_49 rfl hb_7 hf
set_option maxRecDepth 100000 in
set_option maxHeartbeats 4000000 in
theorem z_B_isBranded_0 {κ : zx_K} {ad : Nat → Nat} {r : Int32} {G1 : zx_G} (h : zx_C M_B_isBranded κ ad) (hE : zx_E M_B_isBranded κ ad r G1) (G : zx_G) (hf : f_B_isBranded G = some (r, G1)) : zx_Z κ ad 0 [(0, .ref (ad 2))] [] G := by
  unfold f_B_isBranded at hf
  refine zr_aload_n h d_B_isBranded_0 rfl rfl 0 rfl ?_
  refine zr_getI h d_B_isBranded_1 rfl fl_B_30 sh_2 rfl ?_
  rcases zx_if_some hf with ⟨hc_1, hf⟩ | ⟨hc_1, hf⟩
  · refine zr_if_eq_t (tgt := 18) h d_B_isBranded_4 rfl hc_1 ?_
    refine zr_sub [] rfl ?_
    exact z_B_isBranded_18 h hE G hf
  · refine zr_if_eq_f h 18 d_B_isBranded_4 rfl rfl hc_1 ?_
    refine zr_aload_n h d_B_isBranded_7 rfl rfl 0 rfl ?_
    refine zr_getR h d_B_isBranded_8 rfl fl_B_11 sh_2 rfl ?_
    refine zr_iconst (v := (0 : Int32)) h d_B_isBranded_11 rfl (by decide) ?_
    obtain ⟨hb_2, hf⟩ := zx_gd_some hf
    refine zr_iald h d_B_isBranded_12 rfl sh_3 hb_2 ?_
    refine zr_bipush (v := (102 : Int32)) h d_B_isBranded_13 rfl (by decide) ?_
    rcases zx_if_some hf with ⟨hc_3, hf⟩ | ⟨hc_3, hf⟩
    · refine zr_icmp_eq_t (tgt := 20) h d_B_isBranded_15 rfl hc_3 ?_
      refine zr_aload_n h d_B_isBranded_20 rfl rfl 0 rfl ?_
      refine zr_getR h d_B_isBranded_21 rfl fl_B_15 sh_2 rfl ?_
      refine zr_iconst (v := (0 : Int32)) h d_B_isBranded_24 rfl (by decide) ?_
      obtain ⟨hb_4, hf⟩ := zx_gd_some hf
      refine zr_iald h d_B_isBranded_25 rfl sh_4 hb_4 ?_
      obtain ⟨x1_5, ex1_5, hf⟩ := zx_lt_some hf
      refine zr_istore_n h d_B_isBranded_26 rfl rfl (by decide) ex1_5 rfl ?_
      refine zr_sub [1, 0] rfl ?_
      exact z_B_isBranded_27 h hE 2048 x1_5 G hf
    · refine zr_icmp_eq_f h 20 d_B_isBranded_15 rfl rfl hc_3 ?_
      refine zr_sub [] rfl ?_
      exact z_B_isBranded_18 h hE G hf
theorem c_B_isBranded (l : Launch) (D : va_G) (cA : ClassId) (ad : Nat → Nat) (A : Nat → Prop) (G : zx_G) (r : Int32) (G1 : zx_G) (hf : f_B_isBranded G = some (r, G1)) : zx_met l y_B_isBranded M_B_isBranded [.ref (ad 2)] D cA ad A G r G1 :=
  zx_toMet (by decide) rfl (Nat.le_of_ble_eq_true rfl) (fun κ h hE => by exact z_B_isBranded_0 h hE G hf)

def f_B_first_32 (k2 : Int32 → Int32 → Int32 → zx_G → Option (Int32 × zx_G)) (x1 x2 x3 : Int32) (G : zx_G) : Option (Int32 × zx_G) :=
  zx_lt (x3 + (1 : Int32)) fun x3_1 =>
  k2 x1 x2 x3_1 G
def f_B_first_2 : Nat → Int32 → Int32 → Int32 → zx_G → Option (Int32 × zx_G)
  | 0, _, _, _, _ => none
  | n + 1, x1, x2, x3, G =>
    zx_if ((G 2 6) ≤ x3)
      (some ((-1 : Int32), G))
      (zx_gd (zx_in x3 16) <|
      zx_if (¬ (G 6 (Int32.toNatClampNeg x3)) = x1)
        (f_B_first_32 (f_B_first_2 n) x1 x2 x3 G)
        (zx_gd (zx_in x3 16) <|
        zx_if (¬ (G 3 (Int32.toNatClampNeg x3)) = x2)
          (f_B_first_32 (f_B_first_2 n) x1 x2 x3 G)
          (some (x3, G))))
def f_B_first (x1 x2 : Int32) (G : zx_G) : Option (Int32 × zx_G) :=
  zx_lt (0 : Int32) fun x3_1 =>
  f_B_first_2 2048 x1 x2 x3_1 G
set_option maxRecDepth 100000 in
set_option maxHeartbeats 4000000 in
theorem z_B_first_32 {κ : zx_K} {ad : Nat → Nat} {r : Int32} {G1 : zx_G} (h : zx_C M_B_first κ ad) (hE : zx_E M_B_first κ ad r G1) {k2 : Int32 → Int32 → Int32 → zx_G → Option (Int32 × zx_G)} (hk2 : ∀ (x1 x2 x3 : Int32) (G : zx_G), k2 x1 x2 x3 G = some (r, G1) → zx_Z κ ad 2 [(0, .ref (ad 2)), (1, .int x1), (2, .int x2), (3, .int x3)] [] G) (x1 x2 x3 : Int32) (G : zx_G) (hf : f_B_first_32 k2 x1 x2 x3 G = some (r, G1)) : zx_Z κ ad 32 [(0, .ref (ad 2)), (1, .int x1), (2, .int x2), (3, .int x3)] [] G := by
  unfold f_B_first_32 at hf
  obtain ⟨x3_1, ex3_1, hf⟩ := zx_lt_some hf
  refine zr_iinc (j := 3) h d_B_first_32 rfl rfl (by decide) ex3_1 (by decide) rfl ?_
  refine zr_goto (tgt := 2) h d_B_first_35 rfl ?_
  refine zr_sub [1, 2, 3, 0] rfl ?_
  exact hk2 x1 x2 x3_1 G hf
set_option maxRecDepth 100000 in
set_option maxHeartbeats 4000000 in
theorem z_B_first_2 {κ : zx_K} {ad : Nat → Nat} {r : Int32} {G1 : zx_G} (h : zx_C M_B_first κ ad) (hE : zx_E M_B_first κ ad r G1) : ∀ (n : Nat) (x1 x2 x3 : Int32) (G : zx_G), f_B_first_2 n x1 x2 x3 G = some (r, G1) → zx_Z κ ad 2 [(0, .ref (ad 2)), (1, .int x1), (2, .int x2), (3, .int x3)] [] G := by
  intro n
  induction n with
  | zero => intro x1 x2 x3 G hf; cases hf
  | succ n ih =>
    intro x1 x2 x3 G hf
    unfold f_B_first_2 at hf
    refine zr_iload_n h d_B_first_2 rfl rfl 3 rfl ?_
    refine zr_aload_n h d_B_first_3 rfl rfl 0 rfl ?_
    refine zr_getI h d_B_first_4 rfl fl_B_30 sh_2 rfl ?_
    rcases zx_if_some hf with ⟨hc_1, hf⟩ | ⟨hc_1, hf⟩
    · refine zr_icmp_ge_t (tgt := 38) h d_B_first_7 rfl hc_1 ?_
      refine zr_iconst (v := (-1 : Int32)) h d_B_first_38 rfl (by decide) ?_
      exact zr_iret h hE d_B_first_39 rfl hf
    · refine zr_icmp_ge_f h 38 d_B_first_7 rfl rfl hc_1 ?_
      refine zr_aload_n h d_B_first_10 rfl rfl 0 rfl ?_
      refine zr_getR h d_B_first_11 rfl fl_B_21 sh_2 rfl ?_
      refine zr_iload_n h d_B_first_14 rfl rfl 3 rfl ?_
      obtain ⟨hb_2, hf⟩ := zx_gd_some hf
      refine zr_iald h d_B_first_15 rfl sh_6 hb_2 ?_
      refine zr_iload_n h d_B_first_16 rfl rfl 1 rfl ?_
      rcases zx_if_some hf with ⟨hc_3, hf⟩ | ⟨hc_3, hf⟩
      · refine zr_icmp_ne_t (tgt := 32) h d_B_first_17 rfl hc_3 ?_
        exact z_B_first_32 h hE ih x1 x2 x3 G hf
      · refine zr_icmp_ne_f h 32 d_B_first_17 rfl rfl hc_3 ?_
        refine zr_aload_n h d_B_first_20 rfl rfl 0 rfl ?_
        refine zr_getR h d_B_first_21 rfl fl_B_11 sh_2 rfl ?_
        refine zr_iload_n h d_B_first_24 rfl rfl 3 rfl ?_
        obtain ⟨hb_4, hf⟩ := zx_gd_some hf
        refine zr_iald h d_B_first_25 rfl sh_3 hb_4 ?_
        refine zr_iload_n h d_B_first_26 rfl rfl 2 rfl ?_
        rcases zx_if_some hf with ⟨hc_5, hf⟩ | ⟨hc_5, hf⟩
        · refine zr_icmp_ne_t (tgt := 32) h d_B_first_27 rfl hc_5 ?_
          exact z_B_first_32 h hE ih x1 x2 x3 G hf
        · refine zr_icmp_ne_f h 32 d_B_first_27 rfl rfl hc_5 ?_
          refine zr_iload_n h d_B_first_30 rfl rfl 3 rfl ?_
          exact zr_iret h hE d_B_first_31 rfl hf
set_option maxRecDepth 100000 in
set_option maxHeartbeats 4000000 in
theorem z_B_first_0 {κ : zx_K} {ad : Nat → Nat} {r : Int32} {G1 : zx_G} (h : zx_C M_B_first κ ad) (hE : zx_E M_B_first κ ad r G1) (x1 x2 : Int32) (G : zx_G) (hf : f_B_first x1 x2 G = some (r, G1)) : zx_Z κ ad 0 [(0, .ref (ad 2)), (1, .int x1), (2, .int x2)] [] G := by
  unfold f_B_first at hf
  refine zr_iconst (v := (0 : Int32)) h d_B_first_0 rfl (by decide) ?_
  obtain ⟨x3_1, ex3_1, hf⟩ := zx_lt_some hf
  refine zr_istore_n h d_B_first_1 rfl rfl (by decide) ex3_1 rfl ?_
  refine zr_sub [1, 2, 3, 0] rfl ?_
  exact z_B_first_2 h hE 2048 x1 x2 x3_1 G hf
theorem c_B_first (l : Launch) (D : va_G) (cA : ClassId) (ad : Nat → Nat) (A : Nat → Prop) (x1 x2 : Int32) (G : zx_G) (r : Int32) (G1 : zx_G) (hf : f_B_first x1 x2 G = some (r, G1)) : zx_met l y_B_first M_B_first [.ref (ad 2), .int x1, .int x2] D cA ad A G r G1 :=
  zx_toMet (by decide) rfl (Nat.le_of_ble_eq_true rfl) (fun κ h hE => by exact z_B_first_0 h hE x1 x2 G hf)

def f_B_contentLength (x1 : Int32) (G : zx_G) : Option (Int32 × zx_G) :=
  zx_gd (zx_in x1 16) <|
  zx_gd (zx_in x1 16) <|
  some (((G 5 (Int32.toNatClampNeg x1)) - (G 4 (Int32.toNatClampNeg x1))), G)
set_option maxRecDepth 100000 in
set_option maxHeartbeats 4000000 in
theorem z_B_contentLength_0 {κ : zx_K} {ad : Nat → Nat} {r : Int32} {G1 : zx_G} (h : zx_C M_B_contentLength κ ad) (hE : zx_E M_B_contentLength κ ad r G1) (x1 : Int32) (G : zx_G) (hf : f_B_contentLength x1 G = some (r, G1)) : zx_Z κ ad 0 [(0, .ref (ad 2)), (1, .int x1)] [] G := by
  unfold f_B_contentLength at hf
  refine zr_aload_n h d_B_contentLength_0 rfl rfl 0 rfl ?_
  refine zr_getR h d_B_contentLength_1 rfl fl_B_18 sh_2 rfl ?_
  refine zr_iload_n h d_B_contentLength_4 rfl rfl 1 rfl ?_
  obtain ⟨hb_1, hf⟩ := zx_gd_some hf
  refine zr_iald h d_B_contentLength_5 rfl sh_5 hb_1 ?_
  refine zr_aload_n h d_B_contentLength_6 rfl rfl 0 rfl ?_
  refine zr_getR h d_B_contentLength_7 rfl fl_B_15 sh_2 rfl ?_
  refine zr_iload_n h d_B_contentLength_10 rfl rfl 1 rfl ?_
  obtain ⟨hb_2, hf⟩ := zx_gd_some hf
  refine zr_iald h d_B_contentLength_11 rfl sh_4 hb_2 ?_
  refine zr_isub h d_B_contentLength_12 rfl ?_
  exact zr_iret h hE d_B_contentLength_13 rfl hf
theorem c_B_contentLength (l : Launch) (D : va_G) (cA : ClassId) (ad : Nat → Nat) (A : Nat → Prop) (x1 : Int32) (G : zx_G) (r : Int32) (G1 : zx_G) (hf : f_B_contentLength x1 G = some (r, G1)) : zx_met l y_B_contentLength M_B_contentLength [.ref (ad 2), .int x1] D cA ad A G r G1 :=
  zx_toMet (by decide) rfl (Nat.le_of_ble_eq_true rfl) (fun κ h hE => by exact z_B_contentLength_0 h hE x1 G hf)

def f_U_nextByte_10 (G : zx_G) : Option (Int32 × zx_G) :=
  zx_if ((G 10 1) < (G 10 2))
    (zx_gd (zx_in (G 10 1) 240) <|
    zx_lt (G 1 (Int32.toNatClampNeg (G 10 1))) fun x1_3 =>
    zx_lt (zx_up G 10 1 ((G 10 1) + (1 : Int32))) fun G_4 =>
    some (x1_3, G_4))
    (some ((-1 : Int32), G))
set_option maxRecDepth 100000 in
set_option maxHeartbeats 4000000 in
theorem z_U_nextByte_10_0 {κ : zx_K} {ad : Nat → Nat} {r : Int32} {G1 : zx_G} (h : zx_C M_U_nextByte κ ad) (hE : zx_E M_U_nextByte κ ad r G1) (G : zx_G) (hf : f_U_nextByte_10 G = some (r, G1)) : zx_Z κ ad 0 [(0, .ref (ad 10))] [] G := by
  unfold f_U_nextByte_10 at hf
  refine zr_aload_n h d_U_nextByte_0 rfl rfl 0 rfl ?_
  refine zr_getI h d_U_nextByte_1 rfl fl_U_19 sh_10 rfl ?_
  refine zr_aload_n h d_U_nextByte_4 rfl rfl 0 rfl ?_
  refine zr_getI h d_U_nextByte_5 rfl fl_U_26 sh_10 rfl ?_
  rcases zx_if_some hf with ⟨hc_1, hf⟩ | ⟨hc_1, hf⟩
  · refine zr_icmp_lt_t (tgt := 13) h d_U_nextByte_8 rfl hc_1 ?_
    refine zr_aload_n h d_U_nextByte_13 rfl rfl 0 rfl ?_
    refine zr_getR h d_U_nextByte_14 rfl fl_U_7 sh_10 rfl ?_
    refine zr_aload_n h d_U_nextByte_17 rfl rfl 0 rfl ?_
    refine zr_getI h d_U_nextByte_18 rfl fl_U_19 sh_10 rfl ?_
    obtain ⟨hb_2, hf⟩ := zx_gd_some hf
    refine zr_iald h d_U_nextByte_21 rfl sh_1 hb_2 ?_
    obtain ⟨x1_3, ex1_3, hf⟩ := zx_lt_some hf
    refine zr_istore_n h d_U_nextByte_22 rfl rfl (by decide) ex1_3 rfl ?_
    refine zr_aload_n h d_U_nextByte_23 rfl rfl 1 rfl ?_
    refine zr_dup h d_U_nextByte_24 rfl rfl ?_
    refine zr_getI h d_U_nextByte_25 rfl fl_U_19 sh_10 rfl ?_
    refine zr_iconst (v := (1 : Int32)) h d_U_nextByte_28 rfl (by decide) ?_
    refine zr_iadd h d_U_nextByte_29 rfl ?_
    obtain ⟨G_4, eG_4, hf⟩ := zx_lt_some hf
    refine zr_putI h d_U_nextByte_30 rfl fl_U_19 pl_U_1 sh_10 rfl rfl rfl eG_4 ?_
    refine zr_iload_n h d_U_nextByte_33 rfl rfl 0 rfl ?_
    exact zr_iret h hE d_U_nextByte_34 rfl hf
  · refine zr_icmp_lt_f h 13 d_U_nextByte_8 rfl rfl hc_1 ?_
    refine zr_iconst (v := (-1 : Int32)) h d_U_nextByte_11 rfl (by decide) ?_
    exact zr_iret h hE d_U_nextByte_12 rfl hf
theorem c_U_nextByte_10 (l : Launch) (D : va_G) (cA : ClassId) (ad : Nat → Nat) (A : Nat → Prop) (G : zx_G) (r : Int32) (G1 : zx_G) (hf : f_U_nextByte_10 G = some (r, G1)) : zx_met l y_U_nextByte M_U_nextByte [.ref (ad 10)] D cA ad A G r G1 :=
  zx_toMet (by decide) rfl (Nat.le_of_ble_eq_true rfl) (fun κ h hE => by exact z_U_nextByte_10_0 h hE G hf)

def f_U_skip_10_17 (G : zx_G) : Option (Int32 × zx_G) :=
  zx_gd (zx_01 (0 : Int32)) <| some ((0 : Int32), G)
def f_U_skip_10 (x1 : Int32) (G : zx_G) : Option (Int32 × zx_G) :=
  zx_if (x1 < 0)
    (f_U_skip_10_17 G)
    (zx_if (x1 ≤ ((G 10 2) - (G 10 1)))
      (zx_lt (zx_up G 10 1 ((G 10 1) + x1)) fun G_3 =>
      zx_gd (zx_01 (1 : Int32)) <| some ((1 : Int32), G_3))
      (f_U_skip_10_17 G))
set_option maxRecDepth 100000 in
set_option maxHeartbeats 4000000 in
theorem z_U_skip_10_17 {κ : zx_K} {ad : Nat → Nat} {r : Int32} {G1 : zx_G} (h : zx_C M_U_skip κ ad) (hE : zx_E M_U_skip κ ad r G1) (G : zx_G) (hf : f_U_skip_10_17 G = some (r, G1)) : zx_Z κ ad 17 [] [] G := by
  unfold f_U_skip_10_17 at hf
  refine zr_iconst (v := (0 : Int32)) h d_U_skip_17 rfl (by decide) ?_
  obtain ⟨hb_1, hf⟩ := zx_gd_some hf
  exact zr_zret h hE d_U_skip_18 rfl hb_1 hf
set_option maxRecDepth 100000 in
set_option maxHeartbeats 4000000 in
theorem z_U_skip_10_0 {κ : zx_K} {ad : Nat → Nat} {r : Int32} {G1 : zx_G} (h : zx_C M_U_skip κ ad) (hE : zx_E M_U_skip κ ad r G1) (x1 : Int32) (G : zx_G) (hf : f_U_skip_10 x1 G = some (r, G1)) : zx_Z κ ad 0 [(0, .ref (ad 10)), (1, .int x1)] [] G := by
  unfold f_U_skip_10 at hf
  refine zr_iload_n h d_U_skip_0 rfl rfl 1 rfl ?_
  rcases zx_if_some hf with ⟨hc_1, hf⟩ | ⟨hc_1, hf⟩
  · refine zr_if_lt_t (tgt := 17) h d_U_skip_1 rfl hc_1 ?_
    refine zr_sub [] rfl ?_
    exact z_U_skip_10_17 h hE G hf
  · refine zr_if_lt_f h 17 d_U_skip_1 rfl rfl hc_1 ?_
    refine zr_iload_n h d_U_skip_4 rfl rfl 1 rfl ?_
    refine zr_aload_n h d_U_skip_5 rfl rfl 0 rfl ?_
    refine zr_getI h d_U_skip_6 rfl fl_U_26 sh_10 rfl ?_
    refine zr_aload_n h d_U_skip_9 rfl rfl 0 rfl ?_
    refine zr_getI h d_U_skip_10 rfl fl_U_19 sh_10 rfl ?_
    refine zr_isub h d_U_skip_13 rfl ?_
    rcases zx_if_some hf with ⟨hc_2, hf⟩ | ⟨hc_2, hf⟩
    · refine zr_icmp_le_t (tgt := 19) h d_U_skip_14 rfl hc_2 ?_
      refine zr_aload_n h d_U_skip_19 rfl rfl 0 rfl ?_
      refine zr_dup h d_U_skip_20 rfl rfl ?_
      refine zr_getI h d_U_skip_21 rfl fl_U_19 sh_10 rfl ?_
      refine zr_iload_n h d_U_skip_24 rfl rfl 1 rfl ?_
      refine zr_iadd h d_U_skip_25 rfl ?_
      obtain ⟨G_3, eG_3, hf⟩ := zx_lt_some hf
      refine zr_putI h d_U_skip_26 rfl fl_U_19 pl_U_1 sh_10 rfl rfl rfl eG_3 ?_
      refine zr_iconst (v := (1 : Int32)) h d_U_skip_29 rfl (by decide) ?_
      obtain ⟨hb_4, hf⟩ := zx_gd_some hf
      exact zr_zret h hE d_U_skip_30 rfl hb_4 hf
    · refine zr_icmp_le_f h 19 d_U_skip_14 rfl rfl hc_2 ?_
      refine zr_sub [] rfl ?_
      exact z_U_skip_10_17 h hE G hf
theorem c_U_skip_10 (l : Launch) (D : va_G) (cA : ClassId) (ad : Nat → Nat) (A : Nat → Prop) (x1 : Int32) (G : zx_G) (r : Int32) (G1 : zx_G) (hf : f_U_skip_10 x1 G = some (r, G1)) : zx_met l y_U_skip M_U_skip [.ref (ad 10), .int x1] D cA ad A G r G1 :=
  zx_toMet (by decide) rfl (Nat.le_of_ble_eq_true rfl) (fun κ h hE => by exact z_U_skip_10_0 h hE x1 G hf)

def f_I_readPairs_60 (G : zx_G) : Option (Int32 × zx_G) :=
  some ((4 : Int32), G)
def f_I_readPairs_7 : Nat → Int32 → Int32 → zx_G → Option (Int32 × zx_G)
  | 0, _, _, _ => none
  | n + 1, x1, x2, G =>
    zx_if (x1 ≤ x2)
      (some ((0 : Int32), G))
      (zx_bd (f_U_nextByte_10 G) fun r_3 G_2 =>
      zx_lt r_3 fun x3_5 =>
      zx_bd (f_U_nextByte_10 G_2) fun r_7 G_6 =>
      zx_lt r_7 fun x4_9 =>
      zx_if (0 ≤ x4_9)
        (zx_if ((G_6 8 5) < (x3_5 + x4_9))
          (f_I_readPairs_60 G_6)
          (zx_if (((G_6 8 4) + x4_9) ≤ (200 : Int32))
            (zx_gd (zx_cpok x3_5 (G_6 8 4) x4_9 240 200) <|
            zx_lt (zx_copy G_6 1 9 x3_5 (G_6 8 4) x4_9) fun G_14 =>
            zx_lt (zx_up G_14 8 4 ((G_14 8 4) + x4_9)) fun G_15 =>
            zx_lt (x2 + (1 : Int32)) fun x2_16 =>
            f_I_readPairs_7 n x1 x2_16 G_15)
            (f_I_readPairs_60 G_6)))
        (some ((3 : Int32), G_6)))
def f_I_readPairs (x1 : Int32) (G : zx_G) : Option (Int32 × zx_G) :=
  zx_lt (zx_up G 8 4 (0 : Int32)) fun G_1 =>
  zx_lt (0 : Int32) fun x2_2 =>
  f_I_readPairs_7 2048 x1 x2_2 G_1
set_option maxRecDepth 100000 in
set_option maxHeartbeats 4000000 in
theorem z_I_readPairs_60 {κ : zx_K} {ad : Nat → Nat} {r : Int32} {G1 : zx_G} (h : zx_C M_I_readPairs κ ad) (hE : zx_E M_I_readPairs κ ad r G1) (G : zx_G) (hf : f_I_readPairs_60 G = some (r, G1)) : zx_Z κ ad 60 [] [] G := by
  unfold f_I_readPairs_60 at hf
  refine zr_iconst (v := (4 : Int32)) h d_I_readPairs_60 rfl (by decide) ?_
  exact zr_iret h hE d_I_readPairs_61 rfl hf
set_option maxRecDepth 100000 in
set_option maxHeartbeats 4000000 in
theorem z_I_readPairs_7 {κ : zx_K} {ad : Nat → Nat} {r : Int32} {G1 : zx_G} (h : zx_C M_I_readPairs κ ad) (hE : zx_E M_I_readPairs κ ad r G1) : ∀ (n : Nat) (x1 x2 : Int32) (G : zx_G), f_I_readPairs_7 n x1 x2 G = some (r, G1) → zx_Z κ ad 7 [(0, .ref (ad 8)), (1, .int x1), (2, .int x2)] [] G := by
  intro n
  induction n with
  | zero => intro x1 x2 G hf; cases hf
  | succ n ih =>
    intro x1 x2 G hf
    unfold f_I_readPairs_7 at hf
    refine zr_iload_n h d_I_readPairs_7 rfl rfl 2 rfl ?_
    refine zr_iload_n h d_I_readPairs_8 rfl rfl 1 rfl ?_
    rcases zx_if_some hf with ⟨hc_1, hf⟩ | ⟨hc_1, hf⟩
    · refine zr_icmp_ge_t (tgt := 97) h d_I_readPairs_9 rfl hc_1 ?_
      refine zr_iconst (v := (0 : Int32)) h d_I_readPairs_97 rfl (by decide) ?_
      exact zr_iret h hE d_I_readPairs_98 rfl hf
    · refine zr_icmp_ge_f h 97 d_I_readPairs_9 rfl rfl hc_1 ?_
      refine zr_aload_n h d_I_readPairs_12 rfl rfl 0 rfl ?_
      refine zr_getR h d_I_readPairs_13 rfl fl_I_27 sh_8 rfl ?_
      obtain ⟨r_3, G_2, hq_4, hf⟩ := zx_bd_some hf
      refine zr_callVI (As := []) (b := 10) h (c_U_nextByte_10 _ _ _ _ _ G r_3 G_2 hq_4) cc_I_71 d_I_readPairs_16 rfl rfl rfl sh_10 ⟨rfl, rfl, by decide, by decide⟩ (Nat.le_of_ble_eq_true rfl) ?_
      obtain ⟨x3_5, ex3_5, hf⟩ := zx_lt_some hf
      refine zr_istore_n h d_I_readPairs_19 rfl rfl (by decide) ex3_5 rfl ?_
      refine zr_aload_n h d_I_readPairs_20 rfl rfl 1 rfl ?_
      refine zr_getR h d_I_readPairs_21 rfl fl_I_27 sh_8 rfl ?_
      obtain ⟨r_7, G_6, hq_8, hf⟩ := zx_bd_some hf
      refine zr_callVI (As := []) (b := 10) h (c_U_nextByte_10 _ _ _ _ _ G_2 r_7 G_6 hq_8) cc_I_71 d_I_readPairs_24 rfl rfl rfl sh_10 ⟨rfl, rfl, by decide, by decide⟩ (Nat.le_of_ble_eq_true rfl) ?_
      obtain ⟨x4_9, ex4_9, hf⟩ := zx_lt_some hf
      refine zr_istore h d_I_readPairs_27 rfl (by decide) ex4_9 rfl ?_
      refine zr_iload h d_I_readPairs_29 rfl 0 rfl ?_
      rcases zx_if_some hf with ⟨hc_10, hf⟩ | ⟨hc_10, hf⟩
      · refine zr_if_ge_t (tgt := 36) h d_I_readPairs_31 rfl hc_10 ?_
        refine zr_iload_n h d_I_readPairs_36 rfl rfl 1 rfl ?_
        refine zr_iload h d_I_readPairs_37 rfl 0 rfl ?_
        refine zr_iadd h d_I_readPairs_39 rfl ?_
        refine zr_aload_n h d_I_readPairs_40 rfl rfl 2 rfl ?_
        refine zr_getI h d_I_readPairs_41 rfl fl_I_31 sh_8 rfl ?_
        rcases zx_if_some hf with ⟨hc_11, hf⟩ | ⟨hc_11, hf⟩
        · refine zr_icmp_gt_t (tgt := 60) h d_I_readPairs_44 rfl hc_11 ?_
          refine zr_sub [] rfl ?_
          exact z_I_readPairs_60 h hE G_6 hf
        · refine zr_icmp_gt_f h 60 d_I_readPairs_44 rfl rfl hc_11 ?_
          refine zr_aload_n h d_I_readPairs_47 rfl rfl 2 rfl ?_
          refine zr_getI h d_I_readPairs_48 rfl fl_I_82 sh_8 rfl ?_
          refine zr_iload h d_I_readPairs_51 rfl 0 rfl ?_
          refine zr_iadd h d_I_readPairs_53 rfl ?_
          refine zr_sipush (v := (200 : Int32)) h d_I_readPairs_54 rfl (by decide) ?_
          rcases zx_if_some hf with ⟨hc_12, hf⟩ | ⟨hc_12, hf⟩
          · refine zr_icmp_le_t (tgt := 62) h d_I_readPairs_57 rfl hc_12 ?_
            refine zr_aload_n h d_I_readPairs_62 rfl rfl 2 rfl ?_
            refine zr_getR h d_I_readPairs_63 rfl fl_I_15 sh_8 rfl ?_
            refine zr_iload_n h d_I_readPairs_66 rfl rfl 1 rfl ?_
            refine zr_aload_n h d_I_readPairs_67 rfl rfl 2 rfl ?_
            refine zr_getR h d_I_readPairs_68 rfl fl_I_11 sh_8 rfl ?_
            refine zr_aload_n h d_I_readPairs_71 rfl rfl 2 rfl ?_
            refine zr_getI h d_I_readPairs_72 rfl fl_I_82 sh_8 rfl ?_
            refine zr_iload h d_I_readPairs_75 rfl 0 rfl ?_
            obtain ⟨hb_13, hf⟩ := zx_gd_some hf
            obtain ⟨G_14, eG_14, hf⟩ := zx_lt_some hf
            refine zr_copy h d_I_readPairs_77 rfl cc_I_85 sh_1 sh_9 hb_13 (by decide) (Nat.le_of_ble_eq_true rfl) eG_14 ?_
            refine zr_aload_n h d_I_readPairs_80 rfl rfl 2 rfl ?_
            refine zr_dup h d_I_readPairs_81 rfl rfl ?_
            refine zr_getI h d_I_readPairs_82 rfl fl_I_82 sh_8 rfl ?_
            refine zr_iload h d_I_readPairs_85 rfl 0 rfl ?_
            refine zr_iadd h d_I_readPairs_87 rfl ?_
            obtain ⟨G_15, eG_15, hf⟩ := zx_lt_some hf
            refine zr_putI h d_I_readPairs_88 rfl fl_I_82 pl_I_4 sh_8 rfl rfl rfl eG_15 ?_
            obtain ⟨x2_16, ex2_16, hf⟩ := zx_lt_some hf
            refine zr_iinc (j := 4) h d_I_readPairs_91 rfl rfl (by decide) ex2_16 (by decide) rfl ?_
            refine zr_goto (tgt := 7) h d_I_readPairs_94 rfl ?_
            refine zr_sub [3, 4, 0] rfl ?_
            exact ih x1 x2_16 G_15 hf
          · refine zr_icmp_le_f h 62 d_I_readPairs_57 rfl rfl hc_12 ?_
            refine zr_sub [] rfl ?_
            exact z_I_readPairs_60 h hE G_6 hf
      · refine zr_if_ge_f h 36 d_I_readPairs_31 rfl rfl hc_10 ?_
        refine zr_iconst (v := (3 : Int32)) h d_I_readPairs_34 rfl (by decide) ?_
        exact zr_iret h hE d_I_readPairs_35 rfl hf
set_option maxRecDepth 100000 in
set_option maxHeartbeats 4000000 in
theorem z_I_readPairs_0 {κ : zx_K} {ad : Nat → Nat} {r : Int32} {G1 : zx_G} (h : zx_C M_I_readPairs κ ad) (hE : zx_E M_I_readPairs κ ad r G1) (x1 : Int32) (G : zx_G) (hf : f_I_readPairs x1 G = some (r, G1)) : zx_Z κ ad 0 [(0, .ref (ad 8)), (1, .int x1)] [] G := by
  unfold f_I_readPairs at hf
  refine zr_aload_n h d_I_readPairs_0 rfl rfl 0 rfl ?_
  refine zr_iconst (v := (0 : Int32)) h d_I_readPairs_1 rfl (by decide) ?_
  obtain ⟨G_1, eG_1, hf⟩ := zx_lt_some hf
  refine zr_putI h d_I_readPairs_2 rfl fl_I_82 pl_I_4 sh_8 rfl rfl rfl eG_1 ?_
  refine zr_iconst (v := (0 : Int32)) h d_I_readPairs_5 rfl (by decide) ?_
  obtain ⟨x2_2, ex2_2, hf⟩ := zx_lt_some hf
  refine zr_istore_n h d_I_readPairs_6 rfl rfl (by decide) ex2_2 rfl ?_
  refine zr_sub [1, 2, 0] rfl ?_
  exact z_I_readPairs_7 h hE 2048 x1 x2_2 G_1 hf
theorem c_I_readPairs (l : Launch) (D : va_G) (cA : ClassId) (ad : Nat → Nat) (A : Nat → Prop) (x1 : Int32) (G : zx_G) (r : Int32) (G1 : zx_G) (hf : f_I_readPairs x1 G = some (r, G1)) : zx_met l y_I_readPairs M_I_readPairs [.ref (ad 8), .int x1] D cA ad A G r G1 :=
  zx_toMet (by decide) rfl (Nat.le_of_ble_eq_true rfl) (fun κ h hE => by exact z_I_readPairs_0 h hE x1 G hf)

def f_U_open_10 (x1 x2 : Int32) (G : zx_G) : Option (Int32 × zx_G) :=
  zx_lt (zx_up G 10 1 (zx_mmax x1 (0 : Int32))) fun G_1 =>
  zx_lt (zx_up G_1 10 2 (zx_mmin x2 (240 : Int32))) fun G_2 =>
  zx_lt (zx_up G_2 10 3 (0 : Int32)) fun G_3 =>
  some ((0 : Int32), G_3)
set_option maxRecDepth 100000 in
set_option maxHeartbeats 4000000 in
theorem z_U_open_10_0 {κ : zx_K} {ad : Nat → Nat} {r : Int32} {G1 : zx_G} (h : zx_C M_U_open κ ad) (hE : zx_E M_U_open κ ad r G1) (x1 x2 : Int32) (G : zx_G) (hf : f_U_open_10 x1 x2 G = some (r, G1)) : zx_Z κ ad 0 [(0, .ref (ad 10)), (1, .int x1), (2, .int x2)] [] G := by
  unfold f_U_open_10 at hf
  refine zr_aload_n h d_U_open_0 rfl rfl 0 rfl ?_
  refine zr_iload_n h d_U_open_1 rfl rfl 1 rfl ?_
  refine zr_iconst (v := (0 : Int32)) h d_U_open_2 rfl (by decide) ?_
  refine zr_mmax h d_U_open_3 rfl cc_U_13 (by decide) (Nat.le_of_ble_eq_true rfl) ?_
  obtain ⟨G_1, eG_1, hf⟩ := zx_lt_some hf
  refine zr_putI h d_U_open_6 rfl fl_U_19 pl_U_1 sh_10 rfl rfl rfl eG_1 ?_
  refine zr_aload_n h d_U_open_9 rfl rfl 0 rfl ?_
  refine zr_iload_n h d_U_open_10 rfl rfl 2 rfl ?_
  refine zr_aload_n h d_U_open_11 rfl rfl 0 rfl ?_
  refine zr_getR h d_U_open_12 rfl fl_U_7 sh_10 rfl ?_
  refine zr_alen (v := (240 : Int32)) h d_U_open_15 rfl sh_1 (by decide) ?_
  refine zr_mmin h d_U_open_16 rfl cc_U_23 (by decide) (Nat.le_of_ble_eq_true rfl) ?_
  obtain ⟨G_2, eG_2, hf⟩ := zx_lt_some hf
  refine zr_putI h d_U_open_19 rfl fl_U_26 pl_U_2 sh_10 rfl rfl rfl eG_2 ?_
  refine zr_aload_n h d_U_open_22 rfl rfl 0 rfl ?_
  refine zr_iconst (v := (0 : Int32)) h d_U_open_23 rfl (by decide) ?_
  obtain ⟨G_3, eG_3, hf⟩ := zx_lt_some hf
  refine zr_putI h d_U_open_24 rfl fl_U_29 pl_U_3 sh_10 rfl rfl rfl eG_3 ?_
  exact zr_vret h hE d_U_open_27 rfl hf
theorem c_U_open_10 (l : Launch) (D : va_G) (cA : ClassId) (ad : Nat → Nat) (A : Nat → Prop) (x1 x2 : Int32) (G : zx_G) (r : Int32) (G1 : zx_G) (hf : f_U_open_10 x1 x2 G = some (r, G1)) : zx_met l y_U_open M_U_open [.ref (ad 10), .int x1, .int x2] D cA ad A G r G1 :=
  zx_toMet (by decide) rfl (Nat.le_of_ble_eq_true rfl) (fun κ h hE => by exact z_U_open_10_0 h hE x1 x2 G hf)

def f_I_readPlaces_35 : Nat → Int32 → Int32 → zx_G → Option (Int32 × zx_G)
  | 0, _, _, _ => none
  | n + 1, x2, x3, G =>
    zx_if (x2 ≤ x3)
      (some ((3 : Int32), G))
      (zx_bd (f_U_nextByte_10 G) fun r_3 G_2 =>
      zx_lt r_3 fun x4_5 =>
      zx_bd (f_U_nextByte_10 G_2) fun r_7 G_6 =>
      zx_lt r_7 fun x5_9 =>
      zx_if (0 ≤ x5_9)
        (zx_if (¬ x4_5 = (G_6 8 6))
          (zx_bd (f_U_skip_10 ((2 : Int32) * x5_9) G_6) fun r_13 G_12 =>
          zx_if (¬ r_13 = 0)
            (zx_lt (x3 + (1 : Int32)) fun x3_16 =>
            f_I_readPlaces_35 n x2 x3_16 G_12)
            (some ((3 : Int32), G_12)))
          (zx_bd (f_I_readPairs x5_9 G_6) fun r_18 G_17 =>
          some (r_18, G_17)))
        (some ((3 : Int32), G_6)))
def f_I_readPlaces (x1 : Int32) (G : zx_G) : Option (Int32 × zx_G) :=
  zx_gd (zx_in x1 16) <|
  zx_gd (zx_in x1 16) <|
  zx_bd (f_U_open_10 (G 4 (Int32.toNatClampNeg x1)) (G 5 (Int32.toNatClampNeg x1)) G) fun r_4 G_3 =>
  zx_bd (f_U_nextByte_10 G_3) fun r_7 G_6 =>
  zx_lt r_7 fun x2_9 =>
  zx_lt (0 : Int32) fun x3_10 =>
  f_I_readPlaces_35 2048 x2_9 x3_10 G_6
set_option maxRecDepth 100000 in
set_option maxHeartbeats 4000000 in
theorem z_I_readPlaces_35 {κ : zx_K} {ad : Nat → Nat} {r : Int32} {G1 : zx_G} (h : zx_C M_I_readPlaces κ ad) (hE : zx_E M_I_readPlaces κ ad r G1) : ∀ (n : Nat) (x2 x3 : Int32) (G : zx_G), f_I_readPlaces_35 n x2 x3 G = some (r, G1) → zx_Z κ ad 35 [(0, .ref (ad 8)), (2, .int x2), (3, .int x3)] [] G := by
  intro n
  induction n with
  | zero => intro x2 x3 G hf; cases hf
  | succ n ih =>
    intro x2 x3 G hf
    unfold f_I_readPlaces_35 at hf
    refine zr_iload_n h d_I_readPlaces_35 rfl rfl 2 rfl ?_
    refine zr_iload_n h d_I_readPlaces_36 rfl rfl 1 rfl ?_
    rcases zx_if_some hf with ⟨hc_1, hf⟩ | ⟨hc_1, hf⟩
    · refine zr_icmp_ge_t (tgt := 103) h d_I_readPlaces_37 rfl hc_1 ?_
      refine zr_iconst (v := (3 : Int32)) h d_I_readPlaces_103 rfl (by decide) ?_
      exact zr_iret h hE d_I_readPlaces_104 rfl hf
    · refine zr_icmp_ge_f h 103 d_I_readPlaces_37 rfl rfl hc_1 ?_
      refine zr_aload_n h d_I_readPlaces_40 rfl rfl 0 rfl ?_
      refine zr_getR h d_I_readPlaces_41 rfl fl_I_27 sh_8 rfl ?_
      obtain ⟨r_3, G_2, hq_4, hf⟩ := zx_bd_some hf
      refine zr_callVI (As := []) (b := 10) h (c_U_nextByte_10 _ _ _ _ _ G r_3 G_2 hq_4) cc_I_71 d_I_readPlaces_44 rfl rfl rfl sh_10 ⟨rfl, rfl, by decide, by decide⟩ (Nat.le_of_ble_eq_true rfl) ?_
      obtain ⟨x4_5, ex4_5, hf⟩ := zx_lt_some hf
      refine zr_istore h d_I_readPlaces_47 rfl (by decide) ex4_5 rfl ?_
      refine zr_aload_n h d_I_readPlaces_49 rfl rfl 1 rfl ?_
      refine zr_getR h d_I_readPlaces_50 rfl fl_I_27 sh_8 rfl ?_
      obtain ⟨r_7, G_6, hq_8, hf⟩ := zx_bd_some hf
      refine zr_callVI (As := []) (b := 10) h (c_U_nextByte_10 _ _ _ _ _ G_2 r_7 G_6 hq_8) cc_I_71 d_I_readPlaces_53 rfl rfl rfl sh_10 ⟨rfl, rfl, by decide, by decide⟩ (Nat.le_of_ble_eq_true rfl) ?_
      obtain ⟨x5_9, ex5_9, hf⟩ := zx_lt_some hf
      refine zr_istore h d_I_readPlaces_56 rfl (by decide) ex5_9 rfl ?_
      refine zr_iload h d_I_readPlaces_58 rfl 0 rfl ?_
      rcases zx_if_some hf with ⟨hc_10, hf⟩ | ⟨hc_10, hf⟩
      · refine zr_if_ge_t (tgt := 65) h d_I_readPlaces_60 rfl hc_10 ?_
        refine zr_iload h d_I_readPlaces_65 rfl 1 rfl ?_
        refine zr_aload_n h d_I_readPlaces_67 rfl rfl 2 rfl ?_
        refine zr_getI h d_I_readPlaces_68 rfl fl_I_55 sh_8 rfl ?_
        rcases zx_if_some hf with ⟨hc_11, hf⟩ | ⟨hc_11, hf⟩
        · refine zr_icmp_ne_t (tgt := 81) h d_I_readPlaces_71 rfl hc_11 ?_
          refine zr_aload_n h d_I_readPlaces_81 rfl rfl 2 rfl ?_
          refine zr_getR h d_I_readPlaces_82 rfl fl_I_27 sh_8 rfl ?_
          refine zr_iconst (v := (2 : Int32)) h d_I_readPlaces_85 rfl (by decide) ?_
          refine zr_iload h d_I_readPlaces_86 rfl 0 rfl ?_
          refine zr_imul h d_I_readPlaces_88 rfl ?_
          obtain ⟨r_13, G_12, hq_14, hf⟩ := zx_bd_some hf
          refine zr_callVI (As := [.int ((2 : Int32) * x5_9)]) (b := 10) h (c_U_skip_10 _ _ _ _ _ ((2 : Int32) * x5_9) G_6 r_13 G_12 hq_14) cc_I_78 d_I_readPlaces_89 rfl rfl rfl sh_10 ⟨rfl, rfl, by decide, by decide⟩ (Nat.le_of_ble_eq_true rfl) ?_
          rcases zx_if_some hf with ⟨hc_15, hf⟩ | ⟨hc_15, hf⟩
          · refine zr_if_ne_t (tgt := 97) h d_I_readPlaces_92 rfl hc_15 ?_
            obtain ⟨x3_16, ex3_16, hf⟩ := zx_lt_some hf
            refine zr_iinc (j := 4) h d_I_readPlaces_97 rfl rfl (by decide) ex3_16 (by decide) rfl ?_
            refine zr_goto (tgt := 35) h d_I_readPlaces_100 rfl ?_
            refine zr_sub [3, 4, 0] rfl ?_
            exact ih x2 x3_16 G_12 hf
          · refine zr_if_ne_f h 97 d_I_readPlaces_92 rfl rfl hc_15 ?_
            refine zr_iconst (v := (3 : Int32)) h d_I_readPlaces_95 rfl (by decide) ?_
            exact zr_iret h hE d_I_readPlaces_96 rfl hf
        · refine zr_icmp_ne_f h 81 d_I_readPlaces_71 rfl rfl hc_11 ?_
          refine zr_aload_n h d_I_readPlaces_74 rfl rfl 2 rfl ?_
          refine zr_iload h d_I_readPlaces_75 rfl 0 rfl ?_
          obtain ⟨r_18, G_17, hq_19, hf⟩ := zx_bd_some hf
          refine zr_callVI (As := [.int x5_9]) (b := 8) h (c_I_readPairs _ _ _ _ _ x5_9 G_6 r_18 G_17 hq_19) cc_I_75 d_I_readPlaces_77 rfl rfl rfl sh_8 ⟨rfl, rfl, by decide, by decide⟩ (Nat.le_of_ble_eq_true rfl) ?_
          exact zr_iret h hE d_I_readPlaces_80 rfl hf
      · refine zr_if_ge_f h 65 d_I_readPlaces_60 rfl rfl hc_10 ?_
        refine zr_iconst (v := (3 : Int32)) h d_I_readPlaces_63 rfl (by decide) ?_
        exact zr_iret h hE d_I_readPlaces_64 rfl hf
set_option maxRecDepth 100000 in
set_option maxHeartbeats 4000000 in
theorem z_I_readPlaces_0 {κ : zx_K} {ad : Nat → Nat} {r : Int32} {G1 : zx_G} (h : zx_C M_I_readPlaces κ ad) (hE : zx_E M_I_readPlaces κ ad r G1) (x1 : Int32) (G : zx_G) (hf : f_I_readPlaces x1 G = some (r, G1)) : zx_Z κ ad 0 [(0, .ref (ad 8)), (1, .int x1)] [] G := by
  unfold f_I_readPlaces at hf
  refine zr_aload_n h d_I_readPlaces_0 rfl rfl 0 rfl ?_
  refine zr_getR h d_I_readPlaces_1 rfl fl_I_27 sh_8 rfl ?_
  refine zr_aload_n h d_I_readPlaces_4 rfl rfl 0 rfl ?_
  refine zr_getR h d_I_readPlaces_5 rfl fl_I_18 sh_8 rfl ?_
  refine zr_getR h d_I_readPlaces_8 rfl fl_I_52 sh_2 rfl ?_
  refine zr_iload_n h d_I_readPlaces_11 rfl rfl 1 rfl ?_
  obtain ⟨hb_1, hf⟩ := zx_gd_some hf
  refine zr_iald h d_I_readPlaces_12 rfl sh_4 hb_1 ?_
  refine zr_aload_n h d_I_readPlaces_13 rfl rfl 0 rfl ?_
  refine zr_getR h d_I_readPlaces_14 rfl fl_I_18 sh_8 rfl ?_
  refine zr_getR h d_I_readPlaces_17 rfl fl_I_64 sh_2 rfl ?_
  refine zr_iload_n h d_I_readPlaces_20 rfl rfl 1 rfl ?_
  obtain ⟨hb_2, hf⟩ := zx_gd_some hf
  refine zr_iald h d_I_readPlaces_21 rfl sh_5 hb_2 ?_
  obtain ⟨r_4, G_3, hq_5, hf⟩ := zx_bd_some hf
  refine zr_callVV (As := [.int (G 4 (Int32.toNatClampNeg x1)), .int (G 5 (Int32.toNatClampNeg x1))]) (b := 10) h (c_U_open_10 _ _ _ _ _ (G 4 (Int32.toNatClampNeg x1)) (G 5 (Int32.toNatClampNeg x1)) G r_4 G_3 hq_5) cc_I_67 d_I_readPlaces_22 rfl rfl rfl sh_10 ⟨rfl, rfl, by decide, by decide⟩ (Nat.le_of_ble_eq_true rfl) ?_
  refine zr_aload_n h d_I_readPlaces_25 rfl rfl 0 rfl ?_
  refine zr_getR h d_I_readPlaces_26 rfl fl_I_27 sh_8 rfl ?_
  obtain ⟨r_7, G_6, hq_8, hf⟩ := zx_bd_some hf
  refine zr_callVI (As := []) (b := 10) h (c_U_nextByte_10 _ _ _ _ _ G_3 r_7 G_6 hq_8) cc_I_71 d_I_readPlaces_29 rfl rfl rfl sh_10 ⟨rfl, rfl, by decide, by decide⟩ (Nat.le_of_ble_eq_true rfl) ?_
  obtain ⟨x2_9, ex2_9, hf⟩ := zx_lt_some hf
  refine zr_istore_n h d_I_readPlaces_32 rfl rfl (by decide) ex2_9 rfl ?_
  refine zr_iconst (v := (0 : Int32)) h d_I_readPlaces_33 rfl (by decide) ?_
  obtain ⟨x3_10, ex3_10, hf⟩ := zx_lt_some hf
  refine zr_istore_n h d_I_readPlaces_34 rfl rfl (by decide) ex3_10 rfl ?_
  refine zr_sub [2, 1, 0] rfl ?_
  exact z_I_readPlaces_35 h hE 2048 x2_9 x3_10 G_6 hf
theorem c_I_readPlaces (l : Launch) (D : va_G) (cA : ClassId) (ad : Nat → Nat) (A : Nat → Prop) (x1 : Int32) (G : zx_G) (r : Int32) (G1 : zx_G) (hf : f_I_readPlaces x1 G = some (r, G1)) : zx_met l y_I_readPlaces M_I_readPlaces [.ref (ad 8), .int x1] D cA ad A G r G1 :=
  zx_toMet (by decide) rfl (Nat.le_of_ble_eq_true rfl) (fun κ h hE => by exact z_I_readPlaces_0 h hE x1 G hf)
