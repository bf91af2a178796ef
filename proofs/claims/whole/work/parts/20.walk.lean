/-! the methods as functions, and the rows that tie them to the machine; written by a program -/
def f_S_isByte_16 (s0 : Int32) (G : zx_G) : Option (Int32 × zx_G) :=
  zx_gd (zx_01 s0) <| some (s0, G)
def f_S_isByte_15 (G : zx_G) : Option (Int32 × zx_G) :=
  f_S_isByte_16 (0 : Int32) G
def f_S_isByte (x0 : Int32) (G : zx_G) : Option (Int32 × zx_G) :=
  zx_if (x0 < 0)
    (f_S_isByte_15 G)
    (zx_if ((255 : Int32) < x0)
      (f_S_isByte_15 G)
      (f_S_isByte_16 (1 : Int32) G))
set_option maxRecDepth 100000 in
set_option maxHeartbeats 4000000 in
theorem z_S_isByte_16 {κ : zx_K} {ad : Nat → Nat} {r : Int32} {G1 : zx_G} (h : zx_C M_S_isByte κ ad) (hE : zx_E M_S_isByte κ ad r G1) (s0 : Int32) (G : zx_G) (hf : f_S_isByte_16 s0 G = some (r, G1)) : zx_Z κ ad 16 [] [.int s0] G := by
  unfold f_S_isByte_16 at hf
  obtain ⟨hb_1, hf⟩ := zx_gd_some hf
  exact zr_zret h hE d_S_isByte_16 rfl hb_1 hf
set_option maxRecDepth 100000 in
set_option maxHeartbeats 4000000 in
theorem z_S_isByte_15 {κ : zx_K} {ad : Nat → Nat} {r : Int32} {G1 : zx_G} (h : zx_C M_S_isByte κ ad) (hE : zx_E M_S_isByte κ ad r G1) (G : zx_G) (hf : f_S_isByte_15 G = some (r, G1)) : zx_Z κ ad 15 [] [] G := by
  unfold f_S_isByte_15 at hf
  refine zr_iconst (v := (0 : Int32)) h d_S_isByte_15 rfl (by decide) ?_
  exact z_S_isByte_16 h hE (0 : Int32) G hf
set_option maxRecDepth 100000 in
set_option maxHeartbeats 4000000 in
theorem z_S_isByte_0 {κ : zx_K} {ad : Nat → Nat} {r : Int32} {G1 : zx_G} (h : zx_C M_S_isByte κ ad) (hE : zx_E M_S_isByte κ ad r G1) (x0 : Int32) (G : zx_G) (hf : f_S_isByte x0 G = some (r, G1)) : zx_Z κ ad 0 [(0, .int x0)] [] G := by
  unfold f_S_isByte at hf
  refine zr_iload_n h d_S_isByte_0 rfl rfl 0 rfl ?_
  rcases zx_if_some hf with ⟨hc_1, hf⟩ | ⟨hc_1, hf⟩
  · refine zr_if_lt_t (tgt := 15) h d_S_isByte_1 rfl hc_1 ?_
    refine zr_sub [] rfl ?_
    exact z_S_isByte_15 h hE G hf
  · refine zr_if_lt_f h 15 d_S_isByte_1 rfl rfl hc_1 ?_
    refine zr_iload_n h d_S_isByte_4 rfl rfl 0 rfl ?_
    refine zr_sipush (v := (255 : Int32)) h d_S_isByte_5 rfl (by decide) ?_
    rcases zx_if_some hf with ⟨hc_2, hf⟩ | ⟨hc_2, hf⟩
    · refine zr_icmp_gt_t (tgt := 15) h d_S_isByte_8 rfl hc_2 ?_
      refine zr_sub [] rfl ?_
      exact z_S_isByte_15 h hE G hf
    · refine zr_icmp_gt_f h 15 d_S_isByte_8 rfl rfl hc_2 ?_
      refine zr_iconst (v := (1 : Int32)) h d_S_isByte_11 rfl (by decide) ?_
      refine zr_goto (tgt := 16) h d_S_isByte_12 rfl ?_
      refine zr_sub [] rfl ?_
      exact z_S_isByte_16 h hE (1 : Int32) G hf
theorem c_S_isByte (l : Launch) (D : va_G) (cA : ClassId) (ad : Nat → Nat) (A : Nat → Prop) (x0 : Int32) (G : zx_G) (r : Int32) (G1 : zx_G) (hf : f_S_isByte x0 G = some (r, G1)) : zx_met l y_S_isByte M_S_isByte [.int x0] D cA ad A G r G1 :=
  zx_toMet (by decide) rfl (Nat.le_of_ble_eq_true rfl) (fun κ h hE => by exact z_S_isByte_0 h hE x0 G hf)

def f_S_add_17 (G : zx_G) : Option (Int32 × zx_G) :=
  zx_gd (zx_01 (0 : Int32)) <| some ((0 : Int32), G)
def f_S_add (x1 : Int32) (G : zx_G) : Option (Int32 × zx_G) :=
  zx_bd (f_S_isByte x1 G) fun r_2 G_1 =>
  zx_if (r_2 = 0)
    (f_S_add_17 G_1)
    (zx_if ((G_1 0 8) < (240 : Int32))
      (zx_gd (zx_in (G_1 0 8) 240) <|
      zx_lt (zx_up G_1 1 (Int32.toNatClampNeg (G_1 0 8)) x1) fun G_7 =>
      zx_lt (zx_up G_7 0 8 ((G_7 0 8) + (1 : Int32))) fun G_8 =>
      zx_gd (zx_01 (1 : Int32)) <| some ((1 : Int32), G_8))
      (f_S_add_17 G_1))
set_option maxRecDepth 100000 in
set_option maxHeartbeats 4000000 in
theorem z_S_add_17 {κ : zx_K} {ad : Nat → Nat} {r : Int32} {G1 : zx_G} (h : zx_C M_S_add κ ad) (hE : zx_E M_S_add κ ad r G1) (G : zx_G) (hf : f_S_add_17 G = some (r, G1)) : zx_Z κ ad 17 [] [] G := by
  unfold f_S_add_17 at hf
  refine zr_iconst (v := (0 : Int32)) h d_S_add_17 rfl (by decide) ?_
  obtain ⟨hb_1, hf⟩ := zx_gd_some hf
  exact zr_zret h hE d_S_add_18 rfl hb_1 hf
set_option maxRecDepth 100000 in
set_option maxHeartbeats 4000000 in
theorem z_S_add_0 {κ : zx_K} {ad : Nat → Nat} {r : Int32} {G1 : zx_G} (h : zx_C M_S_add κ ad) (hE : zx_E M_S_add κ ad r G1) (x1 : Int32) (G : zx_G) (hf : f_S_add x1 G = some (r, G1)) : zx_Z κ ad 0 [(0, .ref (ad 0)), (1, .int x1)] [] G := by
  unfold f_S_add at hf
  refine zr_iload_n h d_S_add_0 rfl rfl 1 rfl ?_
  obtain ⟨r_2, G_1, hq_3, hf⟩ := zx_bd_some hf
  refine zr_callSI (As := [.int x1]) h (c_S_isByte _ _ _ _ _ x1 G r_2 G_1 hq_3) cc_S_83 d_S_add_1 rfl rfl rfl ⟨rfl, by decide, by decide⟩ (Nat.le_of_ble_eq_true rfl) ?_
  rcases zx_if_some hf with ⟨hc_4, hf⟩ | ⟨hc_4, hf⟩
  · refine zr_if_eq_t (tgt := 17) h d_S_add_4 rfl hc_4 ?_
    refine zr_sub [] rfl ?_
    exact z_S_add_17 h hE G_1 hf
  · refine zr_if_eq_f h 17 d_S_add_4 rfl rfl hc_4 ?_
    refine zr_aload_n h d_S_add_7 rfl rfl 0 rfl ?_
    refine zr_getI h d_S_add_8 rfl fl_S_75 sh_0 rfl ?_
    refine zr_sipush (v := (240 : Int32)) h d_S_add_11 rfl (by decide) ?_
    rcases zx_if_some hf with ⟨hc_5, hf⟩ | ⟨hc_5, hf⟩
    · refine zr_icmp_lt_t (tgt := 19) h d_S_add_14 rfl hc_5 ?_
      refine zr_aload_n h d_S_add_19 rfl rfl 0 rfl ?_
      refine zr_getR h d_S_add_20 rfl fl_S_9 sh_0 rfl ?_
      refine zr_aload_n h d_S_add_23 rfl rfl 0 rfl ?_
      refine zr_getI h d_S_add_24 rfl fl_S_75 sh_0 rfl ?_
      refine zr_iload_n h d_S_add_27 rfl rfl 1 rfl ?_
      obtain ⟨hb_6, hf⟩ := zx_gd_some hf
      obtain ⟨G_7, eG_7, hf⟩ := zx_lt_some hf
      refine zr_iast h d_S_add_28 rfl sh_1 hb_6 eG_7 ?_
      refine zr_aload_n h d_S_add_29 rfl rfl 0 rfl ?_
      refine zr_dup h d_S_add_30 rfl rfl ?_
      refine zr_getI h d_S_add_31 rfl fl_S_75 sh_0 rfl ?_
      refine zr_iconst (v := (1 : Int32)) h d_S_add_34 rfl (by decide) ?_
      refine zr_iadd h d_S_add_35 rfl ?_
      obtain ⟨G_8, eG_8, hf⟩ := zx_lt_some hf
      refine zr_putI h d_S_add_36 rfl fl_S_75 pl_S_8 sh_0 rfl rfl rfl eG_8 ?_
      refine zr_iconst (v := (1 : Int32)) h d_S_add_39 rfl (by decide) ?_
      obtain ⟨hb_9, hf⟩ := zx_gd_some hf
      exact zr_zret h hE d_S_add_40 rfl hb_9 hf
    · refine zr_icmp_lt_f h 19 d_S_add_14 rfl rfl hc_5 ?_
      refine zr_sub [] rfl ?_
      exact z_S_add_17 h hE G_1 hf
theorem c_S_add (l : Launch) (D : va_G) (cA : ClassId) (ad : Nat → Nat) (A : Nat → Prop) (x1 : Int32) (G : zx_G) (r : Int32) (G1 : zx_G) (hf : f_S_add x1 G = some (r, G1)) : zx_met l y_S_add M_S_add [.ref (ad 0), .int x1] D cA ad A G r G1 :=
  zx_toMet (by decide) rfl (Nat.le_of_ble_eq_true rfl) (fun κ h hE => by exact z_S_add_0 h hE x1 G hf)

def f_S_word_14 : Nat → Int32 → Int32 → zx_G → Option (Int32 × zx_G)
  | 0, _, _, _ => none
  | n + 1, x1, x2, G =>
    zx_if ((4 : Int32) ≤ x2)
      (zx_lt (zx_up G 0 8 ((G 0 8) + (4 : Int32))) fun G_2 =>
      zx_gd (zx_01 (1 : Int32)) <| some ((1 : Int32), G_2))
      (zx_gd (zx_in ((G 0 8) + x2) 240) <|
      zx_lt (zx_up G 1 (Int32.toNatClampNeg ((G 0 8) + x2)) ((x1 >>> (((24 : Int32) - ((8 : Int32) * x2)) &&& 31)) &&& (255 : Int32))) fun G_5 =>
      zx_lt (x2 + (1 : Int32)) fun x2_6 =>
      f_S_word_14 n x1 x2_6 G_5)
def f_S_word (x1 : Int32) (G : zx_G) : Option (Int32 × zx_G) :=
  zx_if ((G 0 8) ≤ (236 : Int32))
    (zx_lt (0 : Int32) fun x2_2 =>
    f_S_word_14 2048 x1 x2_2 G)
    (zx_gd (zx_01 (0 : Int32)) <| some ((0 : Int32), G))
set_option maxRecDepth 100000 in
set_option maxHeartbeats 4000000 in
theorem z_S_word_14 {κ : zx_K} {ad : Nat → Nat} {r : Int32} {G1 : zx_G} (h : zx_C M_S_word κ ad) (hE : zx_E M_S_word κ ad r G1) : ∀ (n : Nat) (x1 x2 : Int32) (G : zx_G), f_S_word_14 n x1 x2 G = some (r, G1) → zx_Z κ ad 14 [(0, .ref (ad 0)), (1, .int x1), (2, .int x2)] [] G := by
  intro n
  induction n with
  | zero => intro x1 x2 G hf; cases hf
  | succ n ih =>
    intro x1 x2 G hf
    unfold f_S_word_14 at hf
    refine zr_iload_n h d_S_word_14 rfl rfl 2 rfl ?_
    refine zr_iconst (v := (4 : Int32)) h d_S_word_15 rfl (by decide) ?_
    rcases zx_if_some hf with ⟨hc_1, hf⟩ | ⟨hc_1, hf⟩
    · refine zr_icmp_ge_t (tgt := 49) h d_S_word_16 rfl hc_1 ?_
      refine zr_aload_n h d_S_word_49 rfl rfl 0 rfl ?_
      refine zr_dup h d_S_word_50 rfl rfl ?_
      refine zr_getI h d_S_word_51 rfl fl_S_75 sh_0 rfl ?_
      refine zr_iconst (v := (4 : Int32)) h d_S_word_54 rfl (by decide) ?_
      refine zr_iadd h d_S_word_55 rfl ?_
      obtain ⟨G_2, eG_2, hf⟩ := zx_lt_some hf
      refine zr_putI h d_S_word_56 rfl fl_S_75 pl_S_8 sh_0 rfl rfl rfl eG_2 ?_
      refine zr_iconst (v := (1 : Int32)) h d_S_word_59 rfl (by decide) ?_
      obtain ⟨hb_3, hf⟩ := zx_gd_some hf
      exact zr_zret h hE d_S_word_60 rfl hb_3 hf
    · refine zr_icmp_ge_f h 49 d_S_word_16 rfl rfl hc_1 ?_
      refine zr_aload_n h d_S_word_19 rfl rfl 0 rfl ?_
      refine zr_getR h d_S_word_20 rfl fl_S_9 sh_0 rfl ?_
      refine zr_aload_n h d_S_word_23 rfl rfl 0 rfl ?_
      refine zr_getI h d_S_word_24 rfl fl_S_75 sh_0 rfl ?_
      refine zr_iload_n h d_S_word_27 rfl rfl 2 rfl ?_
      refine zr_iadd h d_S_word_28 rfl ?_
      refine zr_iload_n h d_S_word_29 rfl rfl 1 rfl ?_
      refine zr_bipush (v := (24 : Int32)) h d_S_word_30 rfl (by decide) ?_
      refine zr_bipush (v := (8 : Int32)) h d_S_word_32 rfl (by decide) ?_
      refine zr_iload_n h d_S_word_34 rfl rfl 2 rfl ?_
      refine zr_imul h d_S_word_35 rfl ?_
      refine zr_isub h d_S_word_36 rfl ?_
      refine zr_ishr h d_S_word_37 rfl ?_
      refine zr_sipush (v := (255 : Int32)) h d_S_word_38 rfl (by decide) ?_
      refine zr_iand h d_S_word_41 rfl ?_
      obtain ⟨hb_4, hf⟩ := zx_gd_some hf
      obtain ⟨G_5, eG_5, hf⟩ := zx_lt_some hf
      refine zr_iast h d_S_word_42 rfl sh_1 hb_4 eG_5 ?_
      obtain ⟨x2_6, ex2_6, hf⟩ := zx_lt_some hf
      refine zr_iinc (j := 2) h d_S_word_43 rfl rfl (by decide) ex2_6 (by decide) rfl ?_
      refine zr_goto (tgt := 14) h d_S_word_46 rfl ?_
      refine zr_sub [1, 2, 0] rfl ?_
      exact ih x1 x2_6 G_5 hf
set_option maxRecDepth 100000 in
set_option maxHeartbeats 4000000 in
theorem z_S_word_0 {κ : zx_K} {ad : Nat → Nat} {r : Int32} {G1 : zx_G} (h : zx_C M_S_word κ ad) (hE : zx_E M_S_word κ ad r G1) (x1 : Int32) (G : zx_G) (hf : f_S_word x1 G = some (r, G1)) : zx_Z κ ad 0 [(0, .ref (ad 0)), (1, .int x1)] [] G := by
  unfold f_S_word at hf
  refine zr_aload_n h d_S_word_0 rfl rfl 0 rfl ?_
  refine zr_getI h d_S_word_1 rfl fl_S_75 sh_0 rfl ?_
  refine zr_sipush (v := (236 : Int32)) h d_S_word_4 rfl (by decide) ?_
  rcases zx_if_some hf with ⟨hc_1, hf⟩ | ⟨hc_1, hf⟩
  · refine zr_icmp_le_t (tgt := 12) h d_S_word_7 rfl hc_1 ?_
    refine zr_iconst (v := (0 : Int32)) h d_S_word_12 rfl (by decide) ?_
    obtain ⟨x2_2, ex2_2, hf⟩ := zx_lt_some hf
    refine zr_istore_n h d_S_word_13 rfl rfl (by decide) ex2_2 rfl ?_
    refine zr_sub [1, 2, 0] rfl ?_
    exact z_S_word_14 h hE 2048 x1 x2_2 G hf
  · refine zr_icmp_le_f h 12 d_S_word_7 rfl rfl hc_1 ?_
    refine zr_iconst (v := (0 : Int32)) h d_S_word_10 rfl (by decide) ?_
    obtain ⟨hb_3, hf⟩ := zx_gd_some hf
    exact zr_zret h hE d_S_word_11 rfl hb_3 hf
theorem c_S_word (l : Launch) (D : va_G) (cA : ClassId) (ad : Nat → Nat) (A : Nat → Prop) (x1 : Int32) (G : zx_G) (r : Int32) (G1 : zx_G) (hf : f_S_word x1 G = some (r, G1)) : zx_met l y_S_word M_S_word [.ref (ad 0), .int x1] D cA ad A G r G1 :=
  zx_toMet (by decide) rfl (Nat.le_of_ble_eq_true rfl) (fun κ h hE => by exact z_S_word_0 h hE x1 G hf)

def f_S_patch_19 (G : zx_G) : Option (Int32 × zx_G) :=
  some ((-1 : Int32), G)
def f_S_patch (x1 x2 : Int32) (G : zx_G) : Option (Int32 × zx_G) :=
  zx_if (x1 < 0)
    (f_S_patch_19 G)
    (zx_if ((G 0 8) ≤ x1)
      (f_S_patch_19 G)
      (zx_bd (f_S_isByte x2 G) fun r_4 G_3 =>
      zx_if (¬ r_4 = 0)
        (zx_gd (zx_in x1 240) <|
        zx_lt (G_3 1 (Int32.toNatClampNeg x1)) fun x3_8 =>
        zx_gd (zx_in x1 240) <|
        zx_lt (zx_up G_3 1 (Int32.toNatClampNeg x1) x2) fun G_10 =>
        some (x3_8, G_10))
        (f_S_patch_19 G_3)))
set_option maxRecDepth 100000 in
set_option maxHeartbeats 4000000 in
theorem z_S_patch_19 {κ : zx_K} {ad : Nat → Nat} {r : Int32} {G1 : zx_G} (h : zx_C M_S_patch κ ad) (hE : zx_E M_S_patch κ ad r G1) (G : zx_G) (hf : f_S_patch_19 G = some (r, G1)) : zx_Z κ ad 19 [] [] G := by
  unfold f_S_patch_19 at hf
  refine zr_iconst (v := (-1 : Int32)) h d_S_patch_19 rfl (by decide) ?_
  exact zr_iret h hE d_S_patch_20 rfl hf
set_option maxRecDepth 100000 in
set_option maxHeartbeats 4000000 in
theorem z_S_patch_0 {κ : zx_K} {ad : Nat → Nat} {r : Int32} {G1 : zx_G} (h : zx_C M_S_patch κ ad) (hE : zx_E M_S_patch κ ad r G1) (x1 x2 : Int32) (G : zx_G) (hf : f_S_patch x1 x2 G = some (r, G1)) : zx_Z κ ad 0 [(0, .ref (ad 0)), (1, .int x1), (2, .int x2)] [] G := by
  unfold f_S_patch at hf
  refine zr_iload_n h d_S_patch_0 rfl rfl 1 rfl ?_
  rcases zx_if_some hf with ⟨hc_1, hf⟩ | ⟨hc_1, hf⟩
  · refine zr_if_lt_t (tgt := 19) h d_S_patch_1 rfl hc_1 ?_
    refine zr_sub [] rfl ?_
    exact z_S_patch_19 h hE G hf
  · refine zr_if_lt_f h 19 d_S_patch_1 rfl rfl hc_1 ?_
    refine zr_iload_n h d_S_patch_4 rfl rfl 1 rfl ?_
    refine zr_aload_n h d_S_patch_5 rfl rfl 0 rfl ?_
    refine zr_getI h d_S_patch_6 rfl fl_S_75 sh_0 rfl ?_
    rcases zx_if_some hf with ⟨hc_2, hf⟩ | ⟨hc_2, hf⟩
    · refine zr_icmp_ge_t (tgt := 19) h d_S_patch_9 rfl hc_2 ?_
      refine zr_sub [] rfl ?_
      exact z_S_patch_19 h hE G hf
    · refine zr_icmp_ge_f h 19 d_S_patch_9 rfl rfl hc_2 ?_
      refine zr_iload_n h d_S_patch_12 rfl rfl 2 rfl ?_
      obtain ⟨r_4, G_3, hq_5, hf⟩ := zx_bd_some hf
      refine zr_callSI (As := [.int x2]) h (c_S_isByte _ _ _ _ _ x2 G r_4 G_3 hq_5) cc_S_83 d_S_patch_13 rfl rfl rfl ⟨rfl, by decide, by decide⟩ (Nat.le_of_ble_eq_true rfl) ?_
      rcases zx_if_some hf with ⟨hc_6, hf⟩ | ⟨hc_6, hf⟩
      · refine zr_if_ne_t (tgt := 21) h d_S_patch_16 rfl hc_6 ?_
        refine zr_aload_n h d_S_patch_21 rfl rfl 0 rfl ?_
        refine zr_getR h d_S_patch_22 rfl fl_S_9 sh_0 rfl ?_
        refine zr_iload_n h d_S_patch_25 rfl rfl 1 rfl ?_
        obtain ⟨hb_7, hf⟩ := zx_gd_some hf
        refine zr_iald h d_S_patch_26 rfl sh_1 hb_7 ?_
        obtain ⟨x3_8, ex3_8, hf⟩ := zx_lt_some hf
        refine zr_istore_n h d_S_patch_27 rfl rfl (by decide) ex3_8 rfl ?_
        refine zr_aload_n h d_S_patch_28 rfl rfl 1 rfl ?_
        refine zr_getR h d_S_patch_29 rfl fl_S_9 sh_0 rfl ?_
        refine zr_iload_n h d_S_patch_32 rfl rfl 2 rfl ?_
        refine zr_iload_n h d_S_patch_33 rfl rfl 3 rfl ?_
        obtain ⟨hb_9, hf⟩ := zx_gd_some hf
        obtain ⟨G_10, eG_10, hf⟩ := zx_lt_some hf
        refine zr_iast h d_S_patch_34 rfl sh_1 hb_9 eG_10 ?_
        refine zr_iload_n h d_S_patch_35 rfl rfl 0 rfl ?_
        exact zr_iret h hE d_S_patch_36 rfl hf
      · refine zr_if_ne_f h 21 d_S_patch_16 rfl rfl hc_6 ?_
        refine zr_sub [] rfl ?_
        exact z_S_patch_19 h hE G_3 hf
theorem c_S_patch (l : Launch) (D : va_G) (cA : ClassId) (ad : Nat → Nat) (A : Nat → Prop) (x1 x2 : Int32) (G : zx_G) (r : Int32) (G1 : zx_G) (hf : f_S_patch x1 x2 G = some (r, G1)) : zx_met l y_S_patch M_S_patch [.ref (ad 0), .int x1, .int x2] D cA ad A G r G1 :=
  zx_toMet (by decide) rfl (Nat.le_of_ble_eq_true rfl) (fun κ h hE => by exact z_S_patch_0 h hE x1 x2 G hf)

def f_S_clear (G : zx_G) : Option (Int32 × zx_G) :=
  zx_lt (zx_up G 0 8 (0 : Int32)) fun G_1 =>
  some ((0 : Int32), G_1)
set_option maxRecDepth 100000 in
set_option maxHeartbeats 4000000 in
theorem z_S_clear_0 {κ : zx_K} {ad : Nat → Nat} {r : Int32} {G1 : zx_G} (h : zx_C M_S_clear κ ad) (hE : zx_E M_S_clear κ ad r G1) (G : zx_G) (hf : f_S_clear G = some (r, G1)) : zx_Z κ ad 0 [(0, .ref (ad 0))] [] G := by
  unfold f_S_clear at hf
  refine zr_aload_n h d_S_clear_0 rfl rfl 0 rfl ?_
  refine zr_iconst (v := (0 : Int32)) h d_S_clear_1 rfl (by decide) ?_
  obtain ⟨G_1, eG_1, hf⟩ := zx_lt_some hf
  refine zr_putI h d_S_clear_2 rfl fl_S_75 pl_S_8 sh_0 rfl rfl rfl eG_1 ?_
  exact zr_vret h hE d_S_clear_5 rfl hf
theorem c_S_clear (l : Launch) (D : va_G) (cA : ClassId) (ad : Nat → Nat) (A : Nat → Prop) (G : zx_G) (r : Int32) (G1 : zx_G) (hf : f_S_clear G = some (r, G1)) : zx_met l y_S_clear M_S_clear [.ref (ad 0)] D cA ad A G r G1 :=
  zx_toMet (by decide) rfl (Nat.le_of_ble_eq_true rfl) (fun κ h hE => by exact z_S_clear_0 h hE G hf)

def f_S_size (G : zx_G) : Option (Int32 × zx_G) :=
  some ((G 0 8), G)
set_option maxRecDepth 100000 in
set_option maxHeartbeats 4000000 in
theorem z_S_size_0 {κ : zx_K} {ad : Nat → Nat} {r : Int32} {G1 : zx_G} (h : zx_C M_S_size κ ad) (hE : zx_E M_S_size κ ad r G1) (G : zx_G) (hf : f_S_size G = some (r, G1)) : zx_Z κ ad 0 [(0, .ref (ad 0))] [] G := by
  unfold f_S_size at hf
  refine zr_aload_n h d_S_size_0 rfl rfl 0 rfl ?_
  refine zr_getI h d_S_size_1 rfl fl_S_75 sh_0 rfl ?_
  exact zr_iret h hE d_S_size_4 rfl hf
theorem c_S_size (l : Launch) (D : va_G) (cA : ClassId) (ad : Nat → Nat) (A : Nat → Prop) (G : zx_G) (r : Int32) (G1 : zx_G) (hf : f_S_size G = some (r, G1)) : zx_met l y_S_size M_S_size [.ref (ad 0)] D cA ad A G r G1 :=
  zx_toMet (by decide) rfl (Nat.le_of_ble_eq_true rfl) (fun κ h hE => by exact z_S_size_0 h hE G hf)

def f_F_pull_36 (s0 : Int32) (G : zx_G) : Option (Int32 × zx_G) :=
  some (s0, G)
def f_F_pull (x0 x1 : Int32) (G : zx_G) : Option (Int32 × zx_G) :=
  zx_lt (zx_mabs x0) fun x2_1 =>
  zx_lt (zx_mmax (0 : Int32) (((4 : Int32) * x1) - (x2_1 >>> ((1 : Int32) &&& 31)))) fun x3_2 =>
  zx_lt (zx_mmin x2_1 x3_2) fun x4_3 =>
  zx_if (0 ≤ x0)
    (f_F_pull_36 x4_3 G)
    (f_F_pull_36 (-x4_3) G)
set_option maxRecDepth 100000 in
set_option maxHeartbeats 4000000 in
theorem z_F_pull_36 {κ : zx_K} {ad : Nat → Nat} {r : Int32} {G1 : zx_G} (h : zx_C M_F_pull κ ad) (hE : zx_E M_F_pull κ ad r G1) (s0 : Int32) (G : zx_G) (hf : f_F_pull_36 s0 G = some (r, G1)) : zx_Z κ ad 36 [] [.int s0] G := by
  unfold f_F_pull_36 at hf
  exact zr_iret h hE d_F_pull_36 rfl hf
set_option maxRecDepth 100000 in
set_option maxHeartbeats 4000000 in
theorem z_F_pull_0 {κ : zx_K} {ad : Nat → Nat} {r : Int32} {G1 : zx_G} (h : zx_C M_F_pull κ ad) (hE : zx_E M_F_pull κ ad r G1) (x0 x1 : Int32) (G : zx_G) (hf : f_F_pull x0 x1 G = some (r, G1)) : zx_Z κ ad 0 [(0, .int x0), (1, .int x1)] [] G := by
  unfold f_F_pull at hf
  refine zr_iload_n h d_F_pull_0 rfl rfl 0 rfl ?_
  refine zr_mabs h d_F_pull_1 rfl cc_F_69 (by decide) (Nat.le_of_ble_eq_true rfl) ?_
  obtain ⟨x2_1, ex2_1, hf⟩ := zx_lt_some hf
  refine zr_istore_n h d_F_pull_4 rfl rfl (by decide) ex2_1 rfl ?_
  refine zr_iconst (v := (0 : Int32)) h d_F_pull_5 rfl (by decide) ?_
  refine zr_iconst (v := (4 : Int32)) h d_F_pull_6 rfl (by decide) ?_
  refine zr_iload_n h d_F_pull_7 rfl rfl 2 rfl ?_
  refine zr_imul h d_F_pull_8 rfl ?_
  refine zr_iload_n h d_F_pull_9 rfl rfl 0 rfl ?_
  refine zr_iconst (v := (1 : Int32)) h d_F_pull_10 rfl (by decide) ?_
  refine zr_ishr h d_F_pull_11 rfl ?_
  refine zr_isub h d_F_pull_12 rfl ?_
  refine zr_mmax h d_F_pull_13 rfl cc_F_78 (by decide) (Nat.le_of_ble_eq_true rfl) ?_
  obtain ⟨x3_2, ex3_2, hf⟩ := zx_lt_some hf
  refine zr_istore_n h d_F_pull_16 rfl rfl (by decide) ex3_2 rfl ?_
  refine zr_iload_n h d_F_pull_17 rfl rfl 1 rfl ?_
  refine zr_iload_n h d_F_pull_18 rfl rfl 0 rfl ?_
  refine zr_mmin h d_F_pull_19 rfl cc_F_75 (by decide) (Nat.le_of_ble_eq_true rfl) ?_
  obtain ⟨x4_3, ex4_3, hf⟩ := zx_lt_some hf
  refine zr_istore h d_F_pull_22 rfl (by decide) ex4_3 rfl ?_
  refine zr_iload_n h d_F_pull_24 rfl rfl 3 rfl ?_
  rcases zx_if_some hf with ⟨hc_4, hf⟩ | ⟨hc_4, hf⟩
  · refine zr_if_ge_t (tgt := 34) h d_F_pull_25 rfl hc_4 ?_
    refine zr_iload h d_F_pull_34 rfl 0 rfl ?_
    refine zr_sub [] rfl ?_
    exact z_F_pull_36 h hE x4_3 G hf
  · refine zr_if_ge_f h 34 d_F_pull_25 rfl rfl hc_4 ?_
    refine zr_iload h d_F_pull_28 rfl 0 rfl ?_
    refine zr_ineg h d_F_pull_30 rfl ?_
    refine zr_goto (tgt := 36) h d_F_pull_31 rfl ?_
    refine zr_sub [] rfl ?_
    exact z_F_pull_36 h hE (-x4_3) G hf
theorem c_F_pull (l : Launch) (D : va_G) (cA : ClassId) (ad : Nat → Nat) (A : Nat → Prop) (x0 x1 : Int32) (G : zx_G) (r : Int32) (G1 : zx_G) (hf : f_F_pull x0 x1 G = some (r, G1)) : zx_met l y_F_pull M_F_pull [.int x0, .int x1] D cA ad A G r G1 :=
  zx_toMet (by decide) rfl (Nat.le_of_ble_eq_true rfl) (fun κ h hE => by exact z_F_pull_0 h hE x0 x1 G hf)

def f_P_placeOf (x0 x1 x2 : Int32) (G : zx_G) : Option (Int32 × zx_G) :=
  some ((((x0 * (256 : Int32)) + (x2 * (16 : Int32))) + x1), G)
set_option maxRecDepth 100000 in
set_option maxHeartbeats 4000000 in
theorem z_P_placeOf_0 {κ : zx_K} {ad : Nat → Nat} {r : Int32} {G1 : zx_G} (h : zx_C M_P_placeOf κ ad) (hE : zx_E M_P_placeOf κ ad r G1) (x0 x1 x2 : Int32) (G : zx_G) (hf : f_P_placeOf x0 x1 x2 G = some (r, G1)) : zx_Z κ ad 0 [(0, .int x0), (1, .int x1), (2, .int x2)] [] G := by
  unfold f_P_placeOf at hf
  refine zr_iload_n h d_P_placeOf_0 rfl rfl 0 rfl ?_
  refine zr_sipush (v := (256 : Int32)) h d_P_placeOf_1 rfl (by decide) ?_
  refine zr_imul h d_P_placeOf_4 rfl ?_
  refine zr_iload_n h d_P_placeOf_5 rfl rfl 2 rfl ?_
  refine zr_bipush (v := (16 : Int32)) h d_P_placeOf_6 rfl (by decide) ?_
  refine zr_imul h d_P_placeOf_8 rfl ?_
  refine zr_iadd h d_P_placeOf_9 rfl ?_
  refine zr_iload_n h d_P_placeOf_10 rfl rfl 1 rfl ?_
  refine zr_iadd h d_P_placeOf_11 rfl ?_
  exact zr_iret h hE d_P_placeOf_12 rfl hf
theorem c_P_placeOf (l : Launch) (D : va_G) (cA : ClassId) (ad : Nat → Nat) (A : Nat → Prop) (x0 x1 x2 : Int32) (G : zx_G) (r : Int32) (G1 : zx_G) (hf : f_P_placeOf x0 x1 x2 G = some (r, G1)) : zx_met l y_P_placeOf M_P_placeOf [.int x0, .int x1, .int x2] D cA ad A G r G1 :=
  zx_toMet (by decide) rfl (Nat.le_of_ble_eq_true rfl) (fun κ h hE => by exact z_P_placeOf_0 h hE x0 x1 x2 G hf)

def f_F_soften_176 (k11 : Int32 → Int32 → Int32 → zx_G → Option (Int32 × zx_G)) (k26 : Int32 → Int32 → Int32 → Int32 → zx_G → Option (Int32 × zx_G)) (x1 x2 x4 x5 x7 s0 s1 : Int32) (G : zx_G) : Option (Int32 × zx_G) :=
  zx_lt (s0 + s1) fun x8_1 =>
  zx_gd (zx_in ((x4 * (16 : Int32)) + x5) 256) <|
  zx_lt (zx_up G 31 (Int32.toNatClampNeg ((x4 * (16 : Int32)) + x5)) (x7 + ((x8_1 + (2 : Int32)) >>> ((2 : Int32) &&& 31)))) fun G_3 =>
  zx_lt (x5 + (1 : Int32)) fun x5_4 =>
  k26 x1 x2 x4 x5_4 G_3
def f_F_soften_139 (k11 : Int32 → Int32 → Int32 → zx_G → Option (Int32 × zx_G)) (k26 : Int32 → Int32 → Int32 → Int32 → zx_G → Option (Int32 × zx_G)) (x1 x2 x4 x5 x6 x7 s0 s1 : Int32) (G : zx_G) : Option (Int32 × zx_G) :=
  zx_lt (s0 + s1) fun x8_1 =>
  zx_if ((G 11 8) ≤ (x4 + (1 : Int32)))
    (f_F_soften_176 k11 k26 x1 x2 x4 x5 x7 x8_1 (0 : Int32) G)
    (zx_gd (zx_in (x6 + (16 : Int32)) 768) <|
    zx_bd (f_F_pull ((G 18 (Int32.toNatClampNeg (x6 + (16 : Int32)))) - x7) x2 G) fun r_5 G_4 =>
    f_F_soften_176 k11 k26 x1 x2 x4 x5 x7 x8_1 r_5 G_4)
def f_F_soften_111 (k11 : Int32 → Int32 → Int32 → zx_G → Option (Int32 × zx_G)) (k26 : Int32 → Int32 → Int32 → Int32 → zx_G → Option (Int32 × zx_G)) (x1 x2 x4 x5 x6 x7 s0 s1 : Int32) (G : zx_G) : Option (Int32 × zx_G) :=
  zx_lt (s0 + s1) fun x8_1 =>
  zx_if (x4 ≤ 0)
    (f_F_soften_139 k11 k26 x1 x2 x4 x5 x6 x7 x8_1 (0 : Int32) G)
    (zx_gd (zx_in (x6 - (16 : Int32)) 768) <|
    zx_bd (f_F_pull ((G 18 (Int32.toNatClampNeg (x6 - (16 : Int32)))) - x7) x2 G) fun r_5 G_4 =>
    f_F_soften_139 k11 k26 x1 x2 x4 x5 x6 x7 x8_1 r_5 G_4)
def f_F_soften_76 (k11 : Int32 → Int32 → Int32 → zx_G → Option (Int32 × zx_G)) (k26 : Int32 → Int32 → Int32 → Int32 → zx_G → Option (Int32 × zx_G)) (x1 x2 x4 x5 x6 x7 s0 : Int32) (G : zx_G) : Option (Int32 × zx_G) :=
  zx_lt s0 fun x8_1 =>
  zx_if ((G 11 7) ≤ (x5 + (1 : Int32)))
    (f_F_soften_111 k11 k26 x1 x2 x4 x5 x6 x7 x8_1 (0 : Int32) G)
    (zx_gd (zx_in (x6 + (1 : Int32)) 768) <|
    zx_bd (f_F_pull ((G 18 (Int32.toNatClampNeg (x6 + (1 : Int32)))) - x7) x2 G) fun r_5 G_4 =>
    f_F_soften_111 k11 k26 x1 x2 x4 x5 x6 x7 x8_1 r_5 G_4)
def f_F_soften_26 (k11 : Int32 → Int32 → Int32 → zx_G → Option (Int32 × zx_G)) : Nat → Int32 → Int32 → Int32 → Int32 → zx_G → Option (Int32 × zx_G)
  | 0, _, _, _, _, _ => none
  | n + 1, x1, x2, x4, x5, G =>
    zx_if ((G 11 7) ≤ x5)
      (zx_lt (x4 + (1 : Int32)) fun x4_2 =>
      k11 x1 x2 x4_2 G)
      (zx_bd (f_P_placeOf x1 x5 x4 G) fun r_4 G_3 =>
      zx_lt r_4 fun x6_6 =>
      zx_gd (zx_in x6_6 768) <|
      zx_lt (G_3 18 (Int32.toNatClampNeg x6_6)) fun x7_8 =>
      zx_if (x5 ≤ 0)
        (f_F_soften_76 k11 (f_F_soften_26 k11 n) x1 x2 x4 x5 x6_6 x7_8 (0 : Int32) G_3)
        (zx_gd (zx_in (x6_6 - (1 : Int32)) 768) <|
        zx_bd (f_F_pull ((G_3 18 (Int32.toNatClampNeg (x6_6 - (1 : Int32)))) - x7_8) x2 G_3) fun r_12 G_11 =>
        f_F_soften_76 k11 (f_F_soften_26 k11 n) x1 x2 x4 x5 x6_6 x7_8 r_12 G_11))
def f_F_soften_216 : Nat → Int32 → Int32 → zx_G → Option (Int32 × zx_G)
  | 0, _, _, _ => none
  | n + 1, x1, x4, G =>
    zx_if ((G 11 8) ≤ x4)
      (some ((0 : Int32), G))
      (zx_bd (f_P_placeOf x1 (0 : Int32) x4 G) fun r_3 G_2 =>
      zx_gd (zx_cpok (x4 * (16 : Int32)) r_3 (G_2 11 7) 256 768) <|
      zx_lt (zx_copy G_2 31 18 (x4 * (16 : Int32)) r_3 (G_2 11 7)) fun G_6 =>
      zx_lt (x4 + (1 : Int32)) fun x4_7 =>
      f_F_soften_216 n x1 x4_7 G_6)
def f_F_soften_11 : Nat → Int32 → Int32 → Int32 → zx_G → Option (Int32 × zx_G)
  | 0, _, _, _, _ => none
  | n + 1, x1, x2, x4, G =>
    zx_if ((G 11 8) ≤ x4)
      (zx_lt (0 : Int32) fun x4_2 =>
      f_F_soften_216 2048 x1 x4_2 G)
      (zx_lt (0 : Int32) fun x5_3 =>
      f_F_soften_26 (f_F_soften_11 n) 2048 x1 x2 x4 x5_3 G)
def f_F_soften (x1 x2 : Int32) (G : zx_G) : Option (Int32 × zx_G) :=
  zx_lt (0 : Int32) fun x4_1 =>
  f_F_soften_11 2048 x1 x2 x4_1 G
set_option maxRecDepth 100000 in
set_option maxHeartbeats 4000000 in
theorem z_F_soften_176 {κ : zx_K} {ad : Nat → Nat} {r : Int32} {G1 : zx_G} (h : zx_C M_F_soften κ ad) (hE : zx_E M_F_soften κ ad r G1) {k11 : Int32 → Int32 → Int32 → zx_G → Option (Int32 × zx_G)} {k26 : Int32 → Int32 → Int32 → Int32 → zx_G → Option (Int32 × zx_G)} (hk11 : ∀ (x1 x2 x4 : Int32) (G : zx_G), k11 x1 x2 x4 G = some (r, G1) → zx_Z κ ad 11 [(0, .ref (ad 30)), (1, .int x1), (2, .int x2), (3, .ref (ad 18)), (4, .int x4)] [] G) (hk26 : ∀ (x1 x2 x4 x5 : Int32) (G : zx_G), k26 x1 x2 x4 x5 G = some (r, G1) → zx_Z κ ad 26 [(0, .ref (ad 30)), (1, .int x1), (2, .int x2), (3, .ref (ad 18)), (4, .int x4), (5, .int x5)] [] G) (x1 x2 x4 x5 x7 s0 s1 : Int32) (G : zx_G) (hf : f_F_soften_176 k11 k26 x1 x2 x4 x5 x7 s0 s1 G = some (r, G1)) : zx_Z κ ad 176 [(0, .ref (ad 30)), (1, .int x1), (2, .int x2), (3, .ref (ad 18)), (4, .int x4), (5, .int x5), (7, .int x7)] [.int s1, .int s0] G := by
  unfold f_F_soften_176 at hf
  refine zr_iadd h d_F_soften_176 rfl ?_
  obtain ⟨x8_1, ex8_1, hf⟩ := zx_lt_some hf
  refine zr_istore h d_F_soften_177 rfl (by decide) ex8_1 rfl ?_
  refine zr_aload_n h d_F_soften_179 rfl rfl 1 rfl ?_
  refine zr_getR h d_F_soften_180 rfl fl_F_9 sh_30 rfl ?_
  refine zr_iload h d_F_soften_183 rfl 5 rfl ?_
  refine zr_bipush (v := (16 : Int32)) h d_F_soften_185 rfl (by decide) ?_
  refine zr_imul h d_F_soften_187 rfl ?_
  refine zr_iload h d_F_soften_188 rfl 6 rfl ?_
  refine zr_iadd h d_F_soften_190 rfl ?_
  refine zr_iload h d_F_soften_191 rfl 7 rfl ?_
  refine zr_iload h d_F_soften_193 rfl 0 rfl ?_
  refine zr_iconst (v := (2 : Int32)) h d_F_soften_195 rfl (by decide) ?_
  refine zr_iadd h d_F_soften_196 rfl ?_
  refine zr_iconst (v := (2 : Int32)) h d_F_soften_197 rfl (by decide) ?_
  refine zr_ishr h d_F_soften_198 rfl ?_
  refine zr_iadd h d_F_soften_199 rfl ?_
  obtain ⟨hb_2, hf⟩ := zx_gd_some hf
  obtain ⟨G_3, eG_3, hf⟩ := zx_lt_some hf
  refine zr_iast h d_F_soften_200 rfl sh_31 hb_2 eG_3 ?_
  obtain ⟨x5_4, ex5_4, hf⟩ := zx_lt_some hf
  refine zr_iinc (j := 6) h d_F_soften_201 rfl rfl (by decide) ex5_4 (by decide) rfl ?_
  refine zr_goto (tgt := 26) h d_F_soften_204 rfl ?_
  refine zr_sub [2, 3, 4, 5, 6, 0] rfl ?_
  exact hk26 x1 x2 x4 x5_4 G_3 hf
set_option maxRecDepth 100000 in
set_option maxHeartbeats 4000000 in
theorem z_F_soften_139 {κ : zx_K} {ad : Nat → Nat} {r : Int32} {G1 : zx_G} (h : zx_C M_F_soften κ ad) (hE : zx_E M_F_soften κ ad r G1) {k11 : Int32 → Int32 → Int32 → zx_G → Option (Int32 × zx_G)} {k26 : Int32 → Int32 → Int32 → Int32 → zx_G → Option (Int32 × zx_G)} (hk11 : ∀ (x1 x2 x4 : Int32) (G : zx_G), k11 x1 x2 x4 G = some (r, G1) → zx_Z κ ad 11 [(0, .ref (ad 30)), (1, .int x1), (2, .int x2), (3, .ref (ad 18)), (4, .int x4)] [] G) (hk26 : ∀ (x1 x2 x4 x5 : Int32) (G : zx_G), k26 x1 x2 x4 x5 G = some (r, G1) → zx_Z κ ad 26 [(0, .ref (ad 30)), (1, .int x1), (2, .int x2), (3, .ref (ad 18)), (4, .int x4), (5, .int x5)] [] G) (x1 x2 x4 x5 x6 x7 s0 s1 : Int32) (G : zx_G) (hf : f_F_soften_139 k11 k26 x1 x2 x4 x5 x6 x7 s0 s1 G = some (r, G1)) : zx_Z κ ad 139 [(0, .ref (ad 30)), (1, .int x1), (2, .int x2), (3, .ref (ad 18)), (4, .int x4), (5, .int x5), (6, .int x6), (7, .int x7)] [.int s1, .int s0] G := by
  unfold f_F_soften_139 at hf
  refine zr_iadd h d_F_soften_139 rfl ?_
  obtain ⟨x8_1, ex8_1, hf⟩ := zx_lt_some hf
  refine zr_istore h d_F_soften_140 rfl (by decide) ex8_1 rfl ?_
  refine zr_iload h d_F_soften_142 rfl 0 rfl ?_
  refine zr_iload h d_F_soften_144 rfl 5 rfl ?_
  refine zr_iconst (v := (1 : Int32)) h d_F_soften_146 rfl (by decide) ?_
  refine zr_iadd h d_F_soften_147 rfl ?_
  refine zr_aload_n h d_F_soften_148 rfl rfl 1 rfl ?_
  refine zr_getR h d_F_soften_149 rfl fl_F_15 sh_30 rfl ?_
  refine zr_getI h d_F_soften_152 rfl fl_F_51 sh_11 rfl ?_
  rcases zx_if_some hf with ⟨hc_2, hf⟩ | ⟨hc_2, hf⟩
  · refine zr_icmp_ge_t (tgt := 175) h d_F_soften_155 rfl hc_2 ?_
    refine zr_iconst (v := (0 : Int32)) h d_F_soften_175 rfl (by decide) ?_
    refine zr_sub [1, 2, 3, 4, 5, 6, 8] rfl ?_
    exact z_F_soften_176 h hE hk11 hk26 x1 x2 x4 x5 x7 x8_1 (0 : Int32) G hf
  · refine zr_icmp_ge_f h 175 d_F_soften_155 rfl rfl hc_2 ?_
    refine zr_aload_n h d_F_soften_158 rfl rfl 4 rfl ?_
    refine zr_iload h d_F_soften_159 rfl 7 rfl ?_
    refine zr_bipush (v := (16 : Int32)) h d_F_soften_161 rfl (by decide) ?_
    refine zr_iadd h d_F_soften_163 rfl ?_
    obtain ⟨hb_3, hf⟩ := zx_gd_some hf
    refine zr_iald h d_F_soften_164 rfl sh_18 hb_3 ?_
    refine zr_iload h d_F_soften_165 rfl 8 rfl ?_
    refine zr_isub h d_F_soften_167 rfl ?_
    refine zr_iload_n h d_F_soften_168 rfl rfl 3 rfl ?_
    obtain ⟨r_5, G_4, hq_6, hf⟩ := zx_bd_some hf
    refine zr_callSI (As := [.int ((G 18 (Int32.toNatClampNeg (x6 + (16 : Int32)))) - x7), .int x2]) h (c_F_pull _ _ _ _ _ ((G 18 (Int32.toNatClampNeg (x6 + (16 : Int32)))) - x7) x2 G r_5 G_4 hq_6) cc_F_84 d_F_soften_169 rfl rfl rfl ⟨rfl, by decide, by decide⟩ (Nat.le_of_ble_eq_true rfl) ?_
    refine zr_goto (tgt := 176) h d_F_soften_172 rfl ?_
    refine zr_sub [1, 2, 3, 4, 5, 6, 8] rfl ?_
    exact z_F_soften_176 h hE hk11 hk26 x1 x2 x4 x5 x7 x8_1 r_5 G_4 hf
set_option maxRecDepth 100000 in
set_option maxHeartbeats 4000000 in
theorem z_F_soften_111 {κ : zx_K} {ad : Nat → Nat} {r : Int32} {G1 : zx_G} (h : zx_C M_F_soften κ ad) (hE : zx_E M_F_soften κ ad r G1) {k11 : Int32 → Int32 → Int32 → zx_G → Option (Int32 × zx_G)} {k26 : Int32 → Int32 → Int32 → Int32 → zx_G → Option (Int32 × zx_G)} (hk11 : ∀ (x1 x2 x4 : Int32) (G : zx_G), k11 x1 x2 x4 G = some (r, G1) → zx_Z κ ad 11 [(0, .ref (ad 30)), (1, .int x1), (2, .int x2), (3, .ref (ad 18)), (4, .int x4)] [] G) (hk26 : ∀ (x1 x2 x4 x5 : Int32) (G : zx_G), k26 x1 x2 x4 x5 G = some (r, G1) → zx_Z κ ad 26 [(0, .ref (ad 30)), (1, .int x1), (2, .int x2), (3, .ref (ad 18)), (4, .int x4), (5, .int x5)] [] G) (x1 x2 x4 x5 x6 x7 s0 s1 : Int32) (G : zx_G) (hf : f_F_soften_111 k11 k26 x1 x2 x4 x5 x6 x7 s0 s1 G = some (r, G1)) : zx_Z κ ad 111 [(0, .ref (ad 30)), (1, .int x1), (2, .int x2), (3, .ref (ad 18)), (4, .int x4), (5, .int x5), (6, .int x6), (7, .int x7)] [.int s1, .int s0] G := by
  unfold f_F_soften_111 at hf
  refine zr_iadd h d_F_soften_111 rfl ?_
  obtain ⟨x8_1, ex8_1, hf⟩ := zx_lt_some hf
  refine zr_istore h d_F_soften_112 rfl (by decide) ex8_1 rfl ?_
  refine zr_iload h d_F_soften_114 rfl 0 rfl ?_
  refine zr_iload h d_F_soften_116 rfl 5 rfl ?_
  rcases zx_if_some hf with ⟨hc_2, hf⟩ | ⟨hc_2, hf⟩
  · refine zr_if_le_t (tgt := 138) h d_F_soften_118 rfl hc_2 ?_
    refine zr_iconst (v := (0 : Int32)) h d_F_soften_138 rfl (by decide) ?_
    refine zr_sub [1, 2, 3, 4, 5, 6, 7, 8] rfl ?_
    exact z_F_soften_139 h hE hk11 hk26 x1 x2 x4 x5 x6 x7 x8_1 (0 : Int32) G hf
  · refine zr_if_le_f h 138 d_F_soften_118 rfl rfl hc_2 ?_
    refine zr_aload_n h d_F_soften_121 rfl rfl 4 rfl ?_
    refine zr_iload h d_F_soften_122 rfl 7 rfl ?_
    refine zr_bipush (v := (16 : Int32)) h d_F_soften_124 rfl (by decide) ?_
    refine zr_isub h d_F_soften_126 rfl ?_
    obtain ⟨hb_3, hf⟩ := zx_gd_some hf
    refine zr_iald h d_F_soften_127 rfl sh_18 hb_3 ?_
    refine zr_iload h d_F_soften_128 rfl 8 rfl ?_
    refine zr_isub h d_F_soften_130 rfl ?_
    refine zr_iload_n h d_F_soften_131 rfl rfl 3 rfl ?_
    obtain ⟨r_5, G_4, hq_6, hf⟩ := zx_bd_some hf
    refine zr_callSI (As := [.int ((G 18 (Int32.toNatClampNeg (x6 - (16 : Int32)))) - x7), .int x2]) h (c_F_pull _ _ _ _ _ ((G 18 (Int32.toNatClampNeg (x6 - (16 : Int32)))) - x7) x2 G r_5 G_4 hq_6) cc_F_84 d_F_soften_132 rfl rfl rfl ⟨rfl, by decide, by decide⟩ (Nat.le_of_ble_eq_true rfl) ?_
    refine zr_goto (tgt := 139) h d_F_soften_135 rfl ?_
    refine zr_sub [1, 2, 3, 4, 5, 6, 7, 8] rfl ?_
    exact z_F_soften_139 h hE hk11 hk26 x1 x2 x4 x5 x6 x7 x8_1 r_5 G_4 hf
set_option maxRecDepth 100000 in
set_option maxHeartbeats 4000000 in
theorem z_F_soften_76 {κ : zx_K} {ad : Nat → Nat} {r : Int32} {G1 : zx_G} (h : zx_C M_F_soften κ ad) (hE : zx_E M_F_soften κ ad r G1) {k11 : Int32 → Int32 → Int32 → zx_G → Option (Int32 × zx_G)} {k26 : Int32 → Int32 → Int32 → Int32 → zx_G → Option (Int32 × zx_G)} (hk11 : ∀ (x1 x2 x4 : Int32) (G : zx_G), k11 x1 x2 x4 G = some (r, G1) → zx_Z κ ad 11 [(0, .ref (ad 30)), (1, .int x1), (2, .int x2), (3, .ref (ad 18)), (4, .int x4)] [] G) (hk26 : ∀ (x1 x2 x4 x5 : Int32) (G : zx_G), k26 x1 x2 x4 x5 G = some (r, G1) → zx_Z κ ad 26 [(0, .ref (ad 30)), (1, .int x1), (2, .int x2), (3, .ref (ad 18)), (4, .int x4), (5, .int x5)] [] G) (x1 x2 x4 x5 x6 x7 s0 : Int32) (G : zx_G) (hf : f_F_soften_76 k11 k26 x1 x2 x4 x5 x6 x7 s0 G = some (r, G1)) : zx_Z κ ad 76 [(0, .ref (ad 30)), (1, .int x1), (2, .int x2), (3, .ref (ad 18)), (4, .int x4), (5, .int x5), (6, .int x6), (7, .int x7)] [.int s0] G := by
  unfold f_F_soften_76 at hf
  obtain ⟨x8_1, ex8_1, hf⟩ := zx_lt_some hf
  refine zr_istore h d_F_soften_76 rfl (by decide) ex8_1 rfl ?_
  refine zr_iload h d_F_soften_78 rfl 0 rfl ?_
  refine zr_iload h d_F_soften_80 rfl 6 rfl ?_
  refine zr_iconst (v := (1 : Int32)) h d_F_soften_82 rfl (by decide) ?_
  refine zr_iadd h d_F_soften_83 rfl ?_
  refine zr_aload_n h d_F_soften_84 rfl rfl 1 rfl ?_
  refine zr_getR h d_F_soften_85 rfl fl_F_15 sh_30 rfl ?_
  refine zr_getI h d_F_soften_88 rfl fl_F_48 sh_11 rfl ?_
  rcases zx_if_some hf with ⟨hc_2, hf⟩ | ⟨hc_2, hf⟩
  · refine zr_icmp_ge_t (tgt := 110) h d_F_soften_91 rfl hc_2 ?_
    refine zr_iconst (v := (0 : Int32)) h d_F_soften_110 rfl (by decide) ?_
    refine zr_sub [1, 2, 3, 4, 5, 6, 7, 8] rfl ?_
    exact z_F_soften_111 h hE hk11 hk26 x1 x2 x4 x5 x6 x7 x8_1 (0 : Int32) G hf
  · refine zr_icmp_ge_f h 110 d_F_soften_91 rfl rfl hc_2 ?_
    refine zr_aload_n h d_F_soften_94 rfl rfl 4 rfl ?_
    refine zr_iload h d_F_soften_95 rfl 7 rfl ?_
    refine zr_iconst (v := (1 : Int32)) h d_F_soften_97 rfl (by decide) ?_
    refine zr_iadd h d_F_soften_98 rfl ?_
    obtain ⟨hb_3, hf⟩ := zx_gd_some hf
    refine zr_iald h d_F_soften_99 rfl sh_18 hb_3 ?_
    refine zr_iload h d_F_soften_100 rfl 8 rfl ?_
    refine zr_isub h d_F_soften_102 rfl ?_
    refine zr_iload_n h d_F_soften_103 rfl rfl 3 rfl ?_
    obtain ⟨r_5, G_4, hq_6, hf⟩ := zx_bd_some hf
    refine zr_callSI (As := [.int ((G 18 (Int32.toNatClampNeg (x6 + (1 : Int32)))) - x7), .int x2]) h (c_F_pull _ _ _ _ _ ((G 18 (Int32.toNatClampNeg (x6 + (1 : Int32)))) - x7) x2 G r_5 G_4 hq_6) cc_F_84 d_F_soften_104 rfl rfl rfl ⟨rfl, by decide, by decide⟩ (Nat.le_of_ble_eq_true rfl) ?_
    refine zr_goto (tgt := 111) h d_F_soften_107 rfl ?_
    refine zr_sub [1, 2, 3, 4, 5, 6, 7, 8] rfl ?_
    exact z_F_soften_111 h hE hk11 hk26 x1 x2 x4 x5 x6 x7 x8_1 r_5 G_4 hf
set_option maxRecDepth 100000 in
set_option maxHeartbeats 4000000 in
theorem z_F_soften_26 {κ : zx_K} {ad : Nat → Nat} {r : Int32} {G1 : zx_G} (h : zx_C M_F_soften κ ad) (hE : zx_E M_F_soften κ ad r G1) {k11 : Int32 → Int32 → Int32 → zx_G → Option (Int32 × zx_G)} (hk11 : ∀ (x1 x2 x4 : Int32) (G : zx_G), k11 x1 x2 x4 G = some (r, G1) → zx_Z κ ad 11 [(0, .ref (ad 30)), (1, .int x1), (2, .int x2), (3, .ref (ad 18)), (4, .int x4)] [] G) : ∀ (n : Nat) (x1 x2 x4 x5 : Int32) (G : zx_G), f_F_soften_26 k11 n x1 x2 x4 x5 G = some (r, G1) → zx_Z κ ad 26 [(0, .ref (ad 30)), (1, .int x1), (2, .int x2), (3, .ref (ad 18)), (4, .int x4), (5, .int x5)] [] G := by
  intro n
  induction n with
  | zero => intro x1 x2 x4 x5 G hf; cases hf
  | succ n ih =>
    intro x1 x2 x4 x5 G hf
    unfold f_F_soften_26 at hf
    refine zr_iload h d_F_soften_26 rfl 5 rfl ?_
    refine zr_aload_n h d_F_soften_28 rfl rfl 0 rfl ?_
    refine zr_getR h d_F_soften_29 rfl fl_F_15 sh_30 rfl ?_
    refine zr_getI h d_F_soften_32 rfl fl_F_48 sh_11 rfl ?_
    rcases zx_if_some hf with ⟨hc_1, hf⟩ | ⟨hc_1, hf⟩
    · refine zr_icmp_ge_t (tgt := 207) h d_F_soften_35 rfl hc_1 ?_
      obtain ⟨x4_2, ex4_2, hf⟩ := zx_lt_some hf
      refine zr_iinc (j := 4) h d_F_soften_207 rfl rfl (by decide) ex4_2 (by decide) rfl ?_
      refine zr_goto (tgt := 11) h d_F_soften_210 rfl ?_
      refine zr_sub [1, 2, 3, 4, 0] rfl ?_
      exact hk11 x1 x2 x4_2 G hf
    · refine zr_icmp_ge_f h 207 d_F_soften_35 rfl rfl hc_1 ?_
      refine zr_iload_n h d_F_soften_38 rfl rfl 1 rfl ?_
      refine zr_iload h d_F_soften_39 rfl 5 rfl ?_
      refine zr_iload h d_F_soften_41 rfl 4 rfl ?_
      obtain ⟨r_4, G_3, hq_5, hf⟩ := zx_bd_some hf
      refine zr_callSI (As := [.int x1, .int x5, .int x4]) h (c_P_placeOf _ _ _ _ _ x1 x5 x4 G r_4 G_3 hq_5) cc_F_58 d_F_soften_43 rfl rfl rfl ⟨rfl, by decide, by decide⟩ (Nat.le_of_ble_eq_true rfl) ?_
      obtain ⟨x6_6, ex6_6, hf⟩ := zx_lt_some hf
      refine zr_istore h d_F_soften_46 rfl (by decide) ex6_6 rfl ?_
      refine zr_aload_n h d_F_soften_48 rfl rfl 4 rfl ?_
      refine zr_iload h d_F_soften_49 rfl 0 rfl ?_
      obtain ⟨hb_7, hf⟩ := zx_gd_some hf
      refine zr_iald h d_F_soften_51 rfl sh_18 hb_7 ?_
      obtain ⟨x7_8, ex7_8, hf⟩ := zx_lt_some hf
      refine zr_istore h d_F_soften_52 rfl (by decide) ex7_8 rfl ?_
      refine zr_iload h d_F_soften_54 rfl 7 rfl ?_
      rcases zx_if_some hf with ⟨hc_9, hf⟩ | ⟨hc_9, hf⟩
      · refine zr_if_le_t (tgt := 75) h d_F_soften_56 rfl hc_9 ?_
        refine zr_iconst (v := (0 : Int32)) h d_F_soften_75 rfl (by decide) ?_
        refine zr_sub [2, 3, 4, 5, 6, 7, 1, 0] rfl ?_
        exact z_F_soften_76 h hE hk11 ih x1 x2 x4 x5 x6_6 x7_8 (0 : Int32) G_3 hf
      · refine zr_if_le_f h 75 d_F_soften_56 rfl rfl hc_9 ?_
        refine zr_aload_n h d_F_soften_59 rfl rfl 5 rfl ?_
        refine zr_iload h d_F_soften_60 rfl 1 rfl ?_
        refine zr_iconst (v := (1 : Int32)) h d_F_soften_62 rfl (by decide) ?_
        refine zr_isub h d_F_soften_63 rfl ?_
        obtain ⟨hb_10, hf⟩ := zx_gd_some hf
        refine zr_iald h d_F_soften_64 rfl sh_18 hb_10 ?_
        refine zr_iload h d_F_soften_65 rfl 0 rfl ?_
        refine zr_isub h d_F_soften_67 rfl ?_
        refine zr_iload_n h d_F_soften_68 rfl rfl 4 rfl ?_
        obtain ⟨r_12, G_11, hq_13, hf⟩ := zx_bd_some hf
        refine zr_callSI (As := [.int ((G_3 18 (Int32.toNatClampNeg (x6_6 - (1 : Int32)))) - x7_8), .int x2]) h (c_F_pull _ _ _ _ _ ((G_3 18 (Int32.toNatClampNeg (x6_6 - (1 : Int32)))) - x7_8) x2 G_3 r_12 G_11 hq_13) cc_F_84 d_F_soften_69 rfl rfl rfl ⟨rfl, by decide, by decide⟩ (Nat.le_of_ble_eq_true rfl) ?_
        refine zr_goto (tgt := 76) h d_F_soften_72 rfl ?_
        refine zr_sub [2, 3, 4, 5, 6, 7, 1, 0] rfl ?_
        exact z_F_soften_76 h hE hk11 ih x1 x2 x4 x5 x6_6 x7_8 r_12 G_11 hf
set_option maxRecDepth 100000 in
set_option maxHeartbeats 4000000 in
theorem z_F_soften_216 {κ : zx_K} {ad : Nat → Nat} {r : Int32} {G1 : zx_G} (h : zx_C M_F_soften κ ad) (hE : zx_E M_F_soften κ ad r G1) : ∀ (n : Nat) (x1 x4 : Int32) (G : zx_G), f_F_soften_216 n x1 x4 G = some (r, G1) → zx_Z κ ad 216 [(0, .ref (ad 30)), (1, .int x1), (3, .ref (ad 18)), (4, .int x4)] [] G := by
  intro n
  induction n with
  | zero => intro x1 x4 G hf; cases hf
  | succ n ih =>
    intro x1 x4 G hf
    unfold f_F_soften_216 at hf
    refine zr_iload h d_F_soften_216 rfl 3 rfl ?_
    refine zr_aload_n h d_F_soften_218 rfl rfl 0 rfl ?_
    refine zr_getR h d_F_soften_219 rfl fl_F_15 sh_30 rfl ?_
    refine zr_getI h d_F_soften_222 rfl fl_F_51 sh_11 rfl ?_
    rcases zx_if_some hf with ⟨hc_1, hf⟩ | ⟨hc_1, hf⟩
    · refine zr_icmp_ge_t (tgt := 261) h d_F_soften_225 rfl hc_1 ?_
      exact zr_vret h hE d_F_soften_261 rfl hf
    · refine zr_icmp_ge_f h 261 d_F_soften_225 rfl rfl hc_1 ?_
      refine zr_aload_n h d_F_soften_228 rfl rfl 0 rfl ?_
      refine zr_getR h d_F_soften_229 rfl fl_F_9 sh_30 rfl ?_
      refine zr_iload h d_F_soften_232 rfl 3 rfl ?_
      refine zr_bipush (v := (16 : Int32)) h d_F_soften_234 rfl (by decide) ?_
      refine zr_imul h d_F_soften_236 rfl ?_
      refine zr_aload_n h d_F_soften_237 rfl rfl 2 rfl ?_
      refine zr_iload_n h d_F_soften_238 rfl rfl 1 rfl ?_
      refine zr_iconst (v := (0 : Int32)) h d_F_soften_239 rfl (by decide) ?_
      refine zr_iload h d_F_soften_240 rfl 3 rfl ?_
      obtain ⟨r_3, G_2, hq_4, hf⟩ := zx_bd_some hf
      refine zr_callSI (As := [.int x1, .int (0 : Int32), .int x4]) h (c_P_placeOf _ _ _ _ _ x1 (0 : Int32) x4 G r_3 G_2 hq_4) cc_F_58 d_F_soften_242 rfl rfl rfl ⟨rfl, by decide, by decide⟩ (Nat.le_of_ble_eq_true rfl) ?_
      refine zr_aload_n h d_F_soften_245 rfl rfl 0 rfl ?_
      refine zr_getR h d_F_soften_246 rfl fl_F_15 sh_30 rfl ?_
      refine zr_getI h d_F_soften_249 rfl fl_F_48 sh_11 rfl ?_
      obtain ⟨hb_5, hf⟩ := zx_gd_some hf
      obtain ⟨G_6, eG_6, hf⟩ := zx_lt_some hf
      refine zr_copy h d_F_soften_252 rfl cc_F_87 sh_31 sh_18 hb_5 (by decide) (Nat.le_of_ble_eq_true rfl) eG_6 ?_
      obtain ⟨x4_7, ex4_7, hf⟩ := zx_lt_some hf
      refine zr_iinc (j := 3) h d_F_soften_255 rfl rfl (by decide) ex4_7 (by decide) rfl ?_
      refine zr_goto (tgt := 216) h d_F_soften_258 rfl ?_
      refine zr_sub [1, 2, 3, 0] rfl ?_
      exact ih x1 x4_7 G_6 hf
set_option maxRecDepth 100000 in
set_option maxHeartbeats 4000000 in
theorem z_F_soften_11 {κ : zx_K} {ad : Nat → Nat} {r : Int32} {G1 : zx_G} (h : zx_C M_F_soften κ ad) (hE : zx_E M_F_soften κ ad r G1) : ∀ (n : Nat) (x1 x2 x4 : Int32) (G : zx_G), f_F_soften_11 n x1 x2 x4 G = some (r, G1) → zx_Z κ ad 11 [(0, .ref (ad 30)), (1, .int x1), (2, .int x2), (3, .ref (ad 18)), (4, .int x4)] [] G := by
  intro n
  induction n with
  | zero => intro x1 x2 x4 G hf; cases hf
  | succ n ih =>
    intro x1 x2 x4 G hf
    unfold f_F_soften_11 at hf
    refine zr_iload h d_F_soften_11 rfl 4 rfl ?_
    refine zr_aload_n h d_F_soften_13 rfl rfl 0 rfl ?_
    refine zr_getR h d_F_soften_14 rfl fl_F_15 sh_30 rfl ?_
    refine zr_getI h d_F_soften_17 rfl fl_F_51 sh_11 rfl ?_
    rcases zx_if_some hf with ⟨hc_1, hf⟩ | ⟨hc_1, hf⟩
    · refine zr_icmp_ge_t (tgt := 213) h d_F_soften_20 rfl hc_1 ?_
      refine zr_iconst (v := (0 : Int32)) h d_F_soften_213 rfl (by decide) ?_
      obtain ⟨x4_2, ex4_2, hf⟩ := zx_lt_some hf
      refine zr_istore h d_F_soften_214 rfl (by decide) ex4_2 rfl ?_
      refine zr_sub [1, 2, 4, 0] rfl ?_
      exact z_F_soften_216 h hE 2048 x1 x4_2 G hf
    · refine zr_icmp_ge_f h 213 d_F_soften_20 rfl rfl hc_1 ?_
      refine zr_iconst (v := (0 : Int32)) h d_F_soften_23 rfl (by decide) ?_
      obtain ⟨x5_3, ex5_3, hf⟩ := zx_lt_some hf
      refine zr_istore h d_F_soften_24 rfl (by decide) ex5_3 rfl ?_
      refine zr_sub [1, 2, 3, 4, 5, 0] rfl ?_
      exact z_F_soften_26 h hE ih 2048 x1 x2 x4 x5_3 G hf
set_option maxRecDepth 100000 in
set_option maxHeartbeats 4000000 in
theorem z_F_soften_0 {κ : zx_K} {ad : Nat → Nat} {r : Int32} {G1 : zx_G} (h : zx_C M_F_soften κ ad) (hE : zx_E M_F_soften κ ad r G1) (x1 x2 : Int32) (G : zx_G) (hf : f_F_soften x1 x2 G = some (r, G1)) : zx_Z κ ad 0 [(0, .ref (ad 30)), (1, .int x1), (2, .int x2)] [] G := by
  unfold f_F_soften at hf
  refine zr_aload_n h d_F_soften_0 rfl rfl 0 rfl ?_
  refine zr_getR h d_F_soften_1 rfl fl_F_19 sh_30 rfl ?_
  refine zr_getR h d_F_soften_4 rfl fl_F_66 sh_17 rfl ?_
  refine zr_astore_n h d_F_soften_7 rfl rfl (by decide) rfl ?_
  refine zr_iconst (v := (0 : Int32)) h d_F_soften_8 rfl (by decide) ?_
  obtain ⟨x4_1, ex4_1, hf⟩ := zx_lt_some hf
  refine zr_istore h d_F_soften_9 rfl (by decide) ex4_1 rfl ?_
  refine zr_sub [2, 3, 4, 1, 0] rfl ?_
  exact z_F_soften_11 h hE 2048 x1 x2 x4_1 G hf
theorem c_F_soften (l : Launch) (D : va_G) (cA : ClassId) (ad : Nat → Nat) (A : Nat → Prop) (x1 x2 : Int32) (G : zx_G) (r : Int32) (G1 : zx_G) (hf : f_F_soften x1 x2 G = some (r, G1)) : zx_met l y_F_soften M_F_soften [.ref (ad 30), .int x1, .int x2] D cA ad A G r G1 :=
  zx_toMet (by decide) rfl (Nat.le_of_ble_eq_true rfl) (fun κ h hE => by exact z_F_soften_0 h hE x1 x2 G hf)

def f_P_ownerAt (x1 x2 : Int32) (G : zx_G) : Option (Int32 × zx_G) :=
  zx_gd (zx_in (((x2 >>> ((2 : Int32) &&& 31)) * (4 : Int32)) + (x1 >>> ((2 : Int32) &&& 31))) 16) <|
  some ((G 19 (Int32.toNatClampNeg (((x2 >>> ((2 : Int32) &&& 31)) * (4 : Int32)) + (x1 >>> ((2 : Int32) &&& 31))))), G)
set_option maxRecDepth 100000 in
set_option maxHeartbeats 4000000 in
theorem z_P_ownerAt_0 {κ : zx_K} {ad : Nat → Nat} {r : Int32} {G1 : zx_G} (h : zx_C M_P_ownerAt κ ad) (hE : zx_E M_P_ownerAt κ ad r G1) (x1 x2 : Int32) (G : zx_G) (hf : f_P_ownerAt x1 x2 G = some (r, G1)) : zx_Z κ ad 0 [(0, .ref (ad 17)), (1, .int x1), (2, .int x2)] [] G := by
  unfold f_P_ownerAt at hf
  refine zr_aload_n h d_P_ownerAt_0 rfl rfl 0 rfl ?_
  refine zr_getR h d_P_ownerAt_1 rfl fl_P_13 sh_17 rfl ?_
  refine zr_iload_n h d_P_ownerAt_4 rfl rfl 2 rfl ?_
  refine zr_iconst (v := (2 : Int32)) h d_P_ownerAt_5 rfl (by decide) ?_
  refine zr_ishr h d_P_ownerAt_6 rfl ?_
  refine zr_iconst (v := (4 : Int32)) h d_P_ownerAt_7 rfl (by decide) ?_
  refine zr_imul h d_P_ownerAt_8 rfl ?_
  refine zr_iload_n h d_P_ownerAt_9 rfl rfl 1 rfl ?_
  refine zr_iconst (v := (2 : Int32)) h d_P_ownerAt_10 rfl (by decide) ?_
  refine zr_ishr h d_P_ownerAt_11 rfl ?_
  refine zr_iadd h d_P_ownerAt_12 rfl ?_
  obtain ⟨hb_1, hf⟩ := zx_gd_some hf
  refine zr_iald h d_P_ownerAt_13 rfl sh_19 hb_1 ?_
  exact zr_iret h hE d_P_ownerAt_14 rfl hf
theorem c_P_ownerAt (l : Launch) (D : va_G) (cA : ClassId) (ad : Nat → Nat) (A : Nat → Prop) (x1 x2 : Int32) (G : zx_G) (r : Int32) (G1 : zx_G) (hf : f_P_ownerAt x1 x2 G = some (r, G1)) : zx_met l y_P_ownerAt M_P_ownerAt [.ref (ad 17), .int x1, .int x2] D cA ad A G r G1 :=
  zx_toMet (by decide) rfl (Nat.le_of_ble_eq_true rfl) (fun κ h hE => by exact z_P_ownerAt_0 h hE x1 x2 G hf)

def f_P_limited (x1 : Int32) (G : zx_G) : Option (Int32 × zx_G) :=
  some ((zx_mmax (0 : Int32) (zx_mmin (G 17 4) x1)), G)
set_option maxRecDepth 100000 in
set_option maxHeartbeats 4000000 in
theorem z_P_limited_0 {κ : zx_K} {ad : Nat → Nat} {r : Int32} {G1 : zx_G} (h : zx_C M_P_limited κ ad) (hE : zx_E M_P_limited κ ad r G1) (x1 : Int32) (G : zx_G) (hf : f_P_limited x1 G = some (r, G1)) : zx_Z κ ad 0 [(0, .ref (ad 17)), (1, .int x1)] [] G := by
  unfold f_P_limited at hf
  refine zr_iconst (v := (0 : Int32)) h d_P_limited_0 rfl (by decide) ?_
  refine zr_aload_n h d_P_limited_1 rfl rfl 0 rfl ?_
  refine zr_getI h d_P_limited_2 rfl fl_P_23 sh_17 rfl ?_
  refine zr_iload_n h d_P_limited_5 rfl rfl 1 rfl ?_
  refine zr_mmin h d_P_limited_6 rfl cc_P_26 (by decide) (Nat.le_of_ble_eq_true rfl) ?_
  refine zr_mmax h d_P_limited_9 rfl cc_P_32 (by decide) (Nat.le_of_ble_eq_true rfl) ?_
  exact zr_iret h hE d_P_limited_12 rfl hf
theorem c_P_limited (l : Launch) (D : va_G) (cA : ClassId) (ad : Nat → Nat) (A : Nat → Prop) (x1 : Int32) (G : zx_G) (r : Int32) (G1 : zx_G) (hf : f_P_limited x1 G = some (r, G1)) : zx_met l y_P_limited M_P_limited [.ref (ad 17), .int x1] D cA ad A G r G1 :=
  zx_toMet (by decide) rfl (Nat.le_of_ble_eq_true rfl) (fun κ h hE => by exact z_P_limited_0 h hE x1 G hf)

def f_F_smooth (x1 x2 x3 : Int32) (G : zx_G) : Option (Int32 × zx_G) :=
  zx_gd (zx_in (x1 - ((2 : Int32) * x2)) 768) <|
  zx_lt (G 18 (Int32.toNatClampNeg (x1 - ((2 : Int32) * x2)))) fun x5_2 =>
  zx_gd (zx_in (x1 - x2) 768) <|
  zx_lt (G 18 (Int32.toNatClampNeg (x1 - x2))) fun x6_4 =>
  zx_gd (zx_in x1 768) <|
  zx_lt (G 18 (Int32.toNatClampNeg x1)) fun x7_6 =>
  zx_gd (zx_in (x1 + x2) 768) <|
  zx_lt (G 18 (Int32.toNatClampNeg (x1 + x2))) fun x8_8 =>
  zx_if ((zx_mabs (x7_6 - x6_4)) ≤ ((4 : Int32) * x3))
    (zx_lt ((((((3 : Int32) * (x7_6 - x6_4)) + x5_2) - x8_8) + (4 : Int32)) >>> ((3 : Int32) &&& 31)) fun x9_10 =>
    zx_lt (zx_mmax (-x3) (zx_mmin x3 x9_10)) fun x9_11 =>
    zx_bd (f_P_limited (x6_4 + x9_11) G) fun r_13 G_12 =>
    zx_gd (zx_in (x1 - x2) 768) <|
    zx_lt (zx_up G_12 18 (Int32.toNatClampNeg (x1 - x2)) r_13) fun G_16 =>
    zx_bd (f_P_limited (x7_6 - x9_11) G_16) fun r_18 G_17 =>
    zx_gd (zx_in x1 768) <|
    zx_lt (zx_up G_17 18 (Int32.toNatClampNeg x1) r_18) fun G_21 =>
    some ((0 : Int32), G_21))
    (some ((0 : Int32), G))
set_option maxRecDepth 100000 in
set_option maxHeartbeats 4000000 in
theorem z_F_smooth_0 {κ : zx_K} {ad : Nat → Nat} {r : Int32} {G1 : zx_G} (h : zx_C M_F_smooth κ ad) (hE : zx_E M_F_smooth κ ad r G1) (x1 x2 x3 : Int32) (G : zx_G) (hf : f_F_smooth x1 x2 x3 G = some (r, G1)) : zx_Z κ ad 0 [(0, .ref (ad 30)), (1, .int x1), (2, .int x2), (3, .int x3)] [] G := by
  unfold f_F_smooth at hf
  refine zr_aload_n h d_F_smooth_0 rfl rfl 0 rfl ?_
  refine zr_getR h d_F_smooth_1 rfl fl_F_19 sh_30 rfl ?_
  refine zr_getR h d_F_smooth_4 rfl fl_F_66 sh_17 rfl ?_
  refine zr_astore h d_F_smooth_7 rfl (by decide) rfl ?_
  refine zr_aload h d_F_smooth_9 rfl 0 rfl ?_
  refine zr_iload_n h d_F_smooth_11 rfl rfl 2 rfl ?_
  refine zr_iconst (v := (2 : Int32)) h d_F_smooth_12 rfl (by decide) ?_
  refine zr_iload_n h d_F_smooth_13 rfl rfl 3 rfl ?_
  refine zr_imul h d_F_smooth_14 rfl ?_
  refine zr_isub h d_F_smooth_15 rfl ?_
  obtain ⟨hb_1, hf⟩ := zx_gd_some hf
  refine zr_iald h d_F_smooth_16 rfl sh_18 hb_1 ?_
  obtain ⟨x5_2, ex5_2, hf⟩ := zx_lt_some hf
  refine zr_istore h d_F_smooth_17 rfl (by decide) ex5_2 rfl ?_
  refine zr_aload h d_F_smooth_19 rfl 1 rfl ?_
  refine zr_iload_n h d_F_smooth_21 rfl rfl 3 rfl ?_
  refine zr_iload_n h d_F_smooth_22 rfl rfl 4 rfl ?_
  refine zr_isub h d_F_smooth_23 rfl ?_
  obtain ⟨hb_3, hf⟩ := zx_gd_some hf
  refine zr_iald h d_F_smooth_24 rfl sh_18 hb_3 ?_
  obtain ⟨x6_4, ex6_4, hf⟩ := zx_lt_some hf
  refine zr_istore h d_F_smooth_25 rfl (by decide) ex6_4 rfl ?_
  refine zr_aload h d_F_smooth_27 rfl 2 rfl ?_
  refine zr_iload_n h d_F_smooth_29 rfl rfl 4 rfl ?_
  obtain ⟨hb_5, hf⟩ := zx_gd_some hf
  refine zr_iald h d_F_smooth_30 rfl sh_18 hb_5 ?_
  obtain ⟨x7_6, ex7_6, hf⟩ := zx_lt_some hf
  refine zr_istore h d_F_smooth_31 rfl (by decide) ex7_6 rfl ?_
  refine zr_aload h d_F_smooth_33 rfl 3 rfl ?_
  refine zr_iload_n h d_F_smooth_35 rfl rfl 5 rfl ?_
  refine zr_iload_n h d_F_smooth_36 rfl rfl 6 rfl ?_
  refine zr_iadd h d_F_smooth_37 rfl ?_
  obtain ⟨hb_7, hf⟩ := zx_gd_some hf
  refine zr_iald h d_F_smooth_38 rfl sh_18 hb_7 ?_
  obtain ⟨x8_8, ex8_8, hf⟩ := zx_lt_some hf
  refine zr_istore h d_F_smooth_39 rfl (by decide) ex8_8 rfl ?_
  refine zr_iload h d_F_smooth_41 rfl 1 rfl ?_
  refine zr_iload h d_F_smooth_43 rfl 2 rfl ?_
  refine zr_isub h d_F_smooth_45 rfl ?_
  refine zr_mabs h d_F_smooth_46 rfl cc_F_69 (by decide) (Nat.le_of_ble_eq_true rfl) ?_
  refine zr_iconst (v := (4 : Int32)) h d_F_smooth_49 rfl (by decide) ?_
  refine zr_iload_n h d_F_smooth_50 rfl rfl 8 rfl ?_
  refine zr_imul h d_F_smooth_51 rfl ?_
  rcases zx_if_some hf with ⟨hc_9, hf⟩ | ⟨hc_9, hf⟩
  · refine zr_icmp_le_t (tgt := 56) h d_F_smooth_52 rfl hc_9 ?_
    refine zr_iconst (v := (3 : Int32)) h d_F_smooth_56 rfl (by decide) ?_
    refine zr_iload h d_F_smooth_57 rfl 1 rfl ?_
    refine zr_iload h d_F_smooth_59 rfl 2 rfl ?_
    refine zr_isub h d_F_smooth_61 rfl ?_
    refine zr_imul h d_F_smooth_62 rfl ?_
    refine zr_iload h d_F_smooth_63 rfl 3 rfl ?_
    refine zr_iadd h d_F_smooth_65 rfl ?_
    refine zr_iload h d_F_smooth_66 rfl 0 rfl ?_
    refine zr_isub h d_F_smooth_68 rfl ?_
    refine zr_iconst (v := (4 : Int32)) h d_F_smooth_69 rfl (by decide) ?_
    refine zr_iadd h d_F_smooth_70 rfl ?_
    refine zr_iconst (v := (3 : Int32)) h d_F_smooth_71 rfl (by decide) ?_
    refine zr_ishr h d_F_smooth_72 rfl ?_
    obtain ⟨x9_10, ex9_10, hf⟩ := zx_lt_some hf
    refine zr_istore h d_F_smooth_73 rfl (by decide) ex9_10 rfl ?_
    refine zr_iload_n h d_F_smooth_75 rfl rfl 9 rfl ?_
    refine zr_ineg h d_F_smooth_76 rfl ?_
    refine zr_iload_n h d_F_smooth_77 rfl rfl 9 rfl ?_
    refine zr_iload h d_F_smooth_78 rfl 0 rfl ?_
    refine zr_mmin h d_F_smooth_80 rfl cc_F_75 (by decide) (Nat.le_of_ble_eq_true rfl) ?_
    refine zr_mmax h d_F_smooth_83 rfl cc_F_78 (by decide) (Nat.le_of_ble_eq_true rfl) ?_
    obtain ⟨x9_11, ex9_11, hf⟩ := zx_lt_some hf
    refine zr_istore h d_F_smooth_86 rfl (by decide) ex9_11 rfl ?_
    refine zr_aload h d_F_smooth_88 rfl 5 rfl ?_
    refine zr_iload_n h d_F_smooth_90 rfl rfl 7 rfl ?_
    refine zr_iload_n h d_F_smooth_91 rfl rfl 8 rfl ?_
    refine zr_isub h d_F_smooth_92 rfl ?_
    refine zr_aload_n h d_F_smooth_93 rfl rfl 6 rfl ?_
    refine zr_getR h d_F_smooth_94 rfl fl_F_19 sh_30 rfl ?_
    refine zr_iload h d_F_smooth_97 rfl 3 rfl ?_
    refine zr_iload h d_F_smooth_99 rfl 0 rfl ?_
    refine zr_iadd h d_F_smooth_101 rfl ?_
    obtain ⟨r_13, G_12, hq_14, hf⟩ := zx_bd_some hf
    refine zr_callVI (As := [.int (x6_4 + x9_11)]) (b := 17) h (c_P_limited _ _ _ _ _ (x6_4 + x9_11) G r_13 G_12 hq_14) cc_F_81 d_F_smooth_102 rfl rfl rfl sh_17 ⟨rfl, rfl, by decide, by decide⟩ (Nat.le_of_ble_eq_true rfl) ?_
    obtain ⟨hb_15, hf⟩ := zx_gd_some hf
    obtain ⟨G_16, eG_16, hf⟩ := zx_lt_some hf
    refine zr_iast h d_F_smooth_105 rfl sh_18 hb_15 eG_16 ?_
    refine zr_aload h d_F_smooth_106 rfl 5 rfl ?_
    refine zr_iload_n h d_F_smooth_108 rfl rfl 7 rfl ?_
    refine zr_aload_n h d_F_smooth_109 rfl rfl 6 rfl ?_
    refine zr_getR h d_F_smooth_110 rfl fl_F_19 sh_30 rfl ?_
    refine zr_iload h d_F_smooth_113 rfl 2 rfl ?_
    refine zr_iload h d_F_smooth_115 rfl 0 rfl ?_
    refine zr_isub h d_F_smooth_117 rfl ?_
    obtain ⟨r_18, G_17, hq_19, hf⟩ := zx_bd_some hf
    refine zr_callVI (As := [.int (x7_6 - x9_11)]) (b := 17) h (c_P_limited _ _ _ _ _ (x7_6 - x9_11) G_16 r_18 G_17 hq_19) cc_F_81 d_F_smooth_118 rfl rfl rfl sh_17 ⟨rfl, rfl, by decide, by decide⟩ (Nat.le_of_ble_eq_true rfl) ?_
    obtain ⟨hb_20, hf⟩ := zx_gd_some hf
    obtain ⟨G_21, eG_21, hf⟩ := zx_lt_some hf
    refine zr_iast h d_F_smooth_121 rfl sh_18 hb_20 eG_21 ?_
    exact zr_vret h hE d_F_smooth_122 rfl hf
  · refine zr_icmp_le_f h 56 d_F_smooth_52 rfl rfl hc_9 ?_
    exact zr_vret h hE d_F_smooth_55 rfl hf
theorem c_F_smooth (l : Launch) (D : va_G) (cA : ClassId) (ad : Nat → Nat) (A : Nat → Prop) (x1 x2 x3 : Int32) (G : zx_G) (r : Int32) (G1 : zx_G) (hf : f_F_smooth x1 x2 x3 G = some (r, G1)) : zx_met l y_F_smooth M_F_smooth [.ref (ad 30), .int x1, .int x2, .int x3] D cA ad A G r G1 :=
  zx_toMet (by decide) rfl (Nat.le_of_ble_eq_true rfl) (fun κ h hE => by exact z_F_smooth_0 h hE x1 x2 x3 G hf)

def f_F_smoothColumns_66 (k2 : Int32 → Int32 → Int32 → zx_G → Option (Int32 × zx_G)) (k16 : Int32 → Int32 → Int32 → Int32 → zx_G → Option (Int32 × zx_G)) (x1 x2 x3 x4 : Int32) (G : zx_G) : Option (Int32 × zx_G) :=
  zx_lt (x4 + (1 : Int32)) fun x4_1 =>
  k16 x1 x2 x3 x4_1 G
def f_F_smoothColumns_16 (k2 : Int32 → Int32 → Int32 → zx_G → Option (Int32 × zx_G)) : Nat → Int32 → Int32 → Int32 → Int32 → zx_G → Option (Int32 × zx_G)
  | 0, _, _, _, _, _ => none
  | n + 1, x1, x2, x3, x4, G =>
    zx_if ((G 11 8) ≤ x4)
      (zx_lt (x3 + (4 : Int32)) fun x3_2 =>
      k2 x1 x2 x3_2 G)
      (zx_bd (f_P_ownerAt (x3 - (1 : Int32)) x4 G) fun r_4 G_3 =>
      zx_bd (f_P_ownerAt x3 x4 G_3) fun r_7 G_6 =>
      zx_if (r_4 = r_7)
        (f_F_smoothColumns_66 k2 (f_F_smoothColumns_16 k2 n) x1 x2 x3 x4 G_6)
        (zx_bd (f_P_placeOf x1 x3 x4 G_6) fun r_11 G_10 =>
        zx_bd (f_F_smooth r_11 (1 : Int32) x2 G_10) fun r_14 G_13 =>
        f_F_smoothColumns_66 k2 (f_F_smoothColumns_16 k2 n) x1 x2 x3 x4 G_13))
def f_F_smoothColumns_2 : Nat → Int32 → Int32 → Int32 → zx_G → Option (Int32 × zx_G)
  | 0, _, _, _, _ => none
  | n + 1, x1, x2, x3, G =>
    zx_if ((G 11 7) ≤ x3)
      (some ((0 : Int32), G))
      (zx_lt (0 : Int32) fun x4_2 =>
      f_F_smoothColumns_16 (f_F_smoothColumns_2 n) 2048 x1 x2 x3 x4_2 G)
def f_F_smoothColumns (x1 x2 : Int32) (G : zx_G) : Option (Int32 × zx_G) :=
  zx_lt (4 : Int32) fun x3_1 =>
  f_F_smoothColumns_2 2048 x1 x2 x3_1 G
set_option maxRecDepth 100000 in
set_option maxHeartbeats 4000000 in
theorem z_F_smoothColumns_66 {κ : zx_K} {ad : Nat → Nat} {r : Int32} {G1 : zx_G} (h : zx_C M_F_smoothColumns κ ad) (hE : zx_E M_F_smoothColumns κ ad r G1) {k2 : Int32 → Int32 → Int32 → zx_G → Option (Int32 × zx_G)} {k16 : Int32 → Int32 → Int32 → Int32 → zx_G → Option (Int32 × zx_G)} (hk2 : ∀ (x1 x2 x3 : Int32) (G : zx_G), k2 x1 x2 x3 G = some (r, G1) → zx_Z κ ad 2 [(0, .ref (ad 30)), (1, .int x1), (2, .int x2), (3, .int x3)] [] G) (hk16 : ∀ (x1 x2 x3 x4 : Int32) (G : zx_G), k16 x1 x2 x3 x4 G = some (r, G1) → zx_Z κ ad 16 [(0, .ref (ad 30)), (1, .int x1), (2, .int x2), (3, .int x3), (4, .int x4)] [] G) (x1 x2 x3 x4 : Int32) (G : zx_G) (hf : f_F_smoothColumns_66 k2 k16 x1 x2 x3 x4 G = some (r, G1)) : zx_Z κ ad 66 [(0, .ref (ad 30)), (1, .int x1), (2, .int x2), (3, .int x3), (4, .int x4)] [] G := by
  unfold f_F_smoothColumns_66 at hf
  obtain ⟨x4_1, ex4_1, hf⟩ := zx_lt_some hf
  refine zr_iinc (j := 4) h d_F_smoothColumns_66 rfl rfl (by decide) ex4_1 (by decide) rfl ?_
  refine zr_goto (tgt := 16) h d_F_smoothColumns_69 rfl ?_
  refine zr_sub [1, 2, 3, 4, 0] rfl ?_
  exact hk16 x1 x2 x3 x4_1 G hf
set_option maxRecDepth 100000 in
set_option maxHeartbeats 4000000 in
theorem z_F_smoothColumns_16 {κ : zx_K} {ad : Nat → Nat} {r : Int32} {G1 : zx_G} (h : zx_C M_F_smoothColumns κ ad) (hE : zx_E M_F_smoothColumns κ ad r G1) {k2 : Int32 → Int32 → Int32 → zx_G → Option (Int32 × zx_G)} (hk2 : ∀ (x1 x2 x3 : Int32) (G : zx_G), k2 x1 x2 x3 G = some (r, G1) → zx_Z κ ad 2 [(0, .ref (ad 30)), (1, .int x1), (2, .int x2), (3, .int x3)] [] G) : ∀ (n : Nat) (x1 x2 x3 x4 : Int32) (G : zx_G), f_F_smoothColumns_16 k2 n x1 x2 x3 x4 G = some (r, G1) → zx_Z κ ad 16 [(0, .ref (ad 30)), (1, .int x1), (2, .int x2), (3, .int x3), (4, .int x4)] [] G := by
  intro n
  induction n with
  | zero => intro x1 x2 x3 x4 G hf; cases hf
  | succ n ih =>
    intro x1 x2 x3 x4 G hf
    unfold f_F_smoothColumns_16 at hf
    refine zr_iload h d_F_smoothColumns_16 rfl 4 rfl ?_
    refine zr_aload_n h d_F_smoothColumns_18 rfl rfl 0 rfl ?_
    refine zr_getR h d_F_smoothColumns_19 rfl fl_F_15 sh_30 rfl ?_
    refine zr_getI h d_F_smoothColumns_22 rfl fl_F_51 sh_11 rfl ?_
    rcases zx_if_some hf with ⟨hc_1, hf⟩ | ⟨hc_1, hf⟩
    · refine zr_icmp_ge_t (tgt := 72) h d_F_smoothColumns_25 rfl hc_1 ?_
      obtain ⟨x3_2, ex3_2, hf⟩ := zx_lt_some hf
      refine zr_iinc (j := 3) h d_F_smoothColumns_72 rfl rfl (by decide) ex3_2 (by decide) rfl ?_
      refine zr_goto (tgt := 2) h d_F_smoothColumns_75 rfl ?_
      refine zr_sub [1, 2, 3, 0] rfl ?_
      exact hk2 x1 x2 x3_2 G hf
    · refine zr_icmp_ge_f h 72 d_F_smoothColumns_25 rfl rfl hc_1 ?_
      refine zr_aload_n h d_F_smoothColumns_28 rfl rfl 0 rfl ?_
      refine zr_getR h d_F_smoothColumns_29 rfl fl_F_19 sh_30 rfl ?_
      refine zr_iload_n h d_F_smoothColumns_32 rfl rfl 3 rfl ?_
      refine zr_iconst (v := (1 : Int32)) h d_F_smoothColumns_33 rfl (by decide) ?_
      refine zr_isub h d_F_smoothColumns_34 rfl ?_
      refine zr_iload h d_F_smoothColumns_35 rfl 4 rfl ?_
      obtain ⟨r_4, G_3, hq_5, hf⟩ := zx_bd_some hf
      refine zr_callVI (As := [.int (x3 - (1 : Int32)), .int x4]) (b := 17) h (c_P_ownerAt _ _ _ _ _ (x3 - (1 : Int32)) x4 G r_4 G_3 hq_5) cc_F_54 d_F_smoothColumns_37 rfl rfl rfl sh_17 ⟨rfl, rfl, by decide, by decide⟩ (Nat.le_of_ble_eq_true rfl) ?_
      refine zr_aload_n h d_F_smoothColumns_40 rfl rfl 0 rfl ?_
      refine zr_getR h d_F_smoothColumns_41 rfl fl_F_19 sh_30 rfl ?_
      refine zr_iload_n h d_F_smoothColumns_44 rfl rfl 3 rfl ?_
      refine zr_iload h d_F_smoothColumns_45 rfl 4 rfl ?_
      obtain ⟨r_7, G_6, hq_8, hf⟩ := zx_bd_some hf
      refine zr_callVI (As := [.int x3, .int x4]) (b := 17) h (c_P_ownerAt _ _ _ _ _ x3 x4 G_3 r_7 G_6 hq_8) cc_F_54 d_F_smoothColumns_47 rfl rfl rfl sh_17 ⟨rfl, rfl, by decide, by decide⟩ (Nat.le_of_ble_eq_true rfl) ?_
      rcases zx_if_some hf with ⟨hc_9, hf⟩ | ⟨hc_9, hf⟩
      · refine zr_icmp_eq_t (tgt := 66) h d_F_smoothColumns_50 rfl hc_9 ?_
        exact z_F_smoothColumns_66 h hE hk2 ih x1 x2 x3 x4 G_6 hf
      · refine zr_icmp_eq_f h 66 d_F_smoothColumns_50 rfl rfl hc_9 ?_
        refine zr_aload_n h d_F_smoothColumns_53 rfl rfl 0 rfl ?_
        refine zr_iload_n h d_F_smoothColumns_54 rfl rfl 1 rfl ?_
        refine zr_iload_n h d_F_smoothColumns_55 rfl rfl 3 rfl ?_
        refine zr_iload h d_F_smoothColumns_56 rfl 4 rfl ?_
        obtain ⟨r_11, G_10, hq_12, hf⟩ := zx_bd_some hf
        refine zr_callSI (As := [.int x1, .int x3, .int x4]) h (c_P_placeOf _ _ _ _ _ x1 x3 x4 G_6 r_11 G_10 hq_12) cc_F_58 d_F_smoothColumns_58 rfl rfl rfl ⟨rfl, by decide, by decide⟩ (Nat.le_of_ble_eq_true rfl) ?_
        refine zr_iconst (v := (1 : Int32)) h d_F_smoothColumns_61 rfl (by decide) ?_
        refine zr_iload_n h d_F_smoothColumns_62 rfl rfl 2 rfl ?_
        obtain ⟨r_14, G_13, hq_15, hf⟩ := zx_bd_some hf
        refine zr_callVV (As := [.int r_11, .int (1 : Int32), .int x2]) (b := 30) h (c_F_smooth _ _ _ _ _ r_11 (1 : Int32) x2 G_10 r_14 G_13 hq_15) cc_F_62 d_F_smoothColumns_63 rfl rfl rfl sh_30 ⟨rfl, rfl, by decide, by decide⟩ (Nat.le_of_ble_eq_true rfl) ?_
        exact z_F_smoothColumns_66 h hE hk2 ih x1 x2 x3 x4 G_13 hf
set_option maxRecDepth 100000 in
set_option maxHeartbeats 4000000 in
theorem z_F_smoothColumns_2 {κ : zx_K} {ad : Nat → Nat} {r : Int32} {G1 : zx_G} (h : zx_C M_F_smoothColumns κ ad) (hE : zx_E M_F_smoothColumns κ ad r G1) : ∀ (n : Nat) (x1 x2 x3 : Int32) (G : zx_G), f_F_smoothColumns_2 n x1 x2 x3 G = some (r, G1) → zx_Z κ ad 2 [(0, .ref (ad 30)), (1, .int x1), (2, .int x2), (3, .int x3)] [] G := by
  intro n
  induction n with
  | zero => intro x1 x2 x3 G hf; cases hf
  | succ n ih =>
    intro x1 x2 x3 G hf
    unfold f_F_smoothColumns_2 at hf
    refine zr_iload_n h d_F_smoothColumns_2 rfl rfl 3 rfl ?_
    refine zr_aload_n h d_F_smoothColumns_3 rfl rfl 0 rfl ?_
    refine zr_getR h d_F_smoothColumns_4 rfl fl_F_15 sh_30 rfl ?_
    refine zr_getI h d_F_smoothColumns_7 rfl fl_F_48 sh_11 rfl ?_
    rcases zx_if_some hf with ⟨hc_1, hf⟩ | ⟨hc_1, hf⟩
    · refine zr_icmp_ge_t (tgt := 78) h d_F_smoothColumns_10 rfl hc_1 ?_
      exact zr_vret h hE d_F_smoothColumns_78 rfl hf
    · refine zr_icmp_ge_f h 78 d_F_smoothColumns_10 rfl rfl hc_1 ?_
      refine zr_iconst (v := (0 : Int32)) h d_F_smoothColumns_13 rfl (by decide) ?_
      obtain ⟨x4_2, ex4_2, hf⟩ := zx_lt_some hf
      refine zr_istore h d_F_smoothColumns_14 rfl (by decide) ex4_2 rfl ?_
      refine zr_sub [1, 2, 3, 4, 0] rfl ?_
      exact z_F_smoothColumns_16 h hE ih 2048 x1 x2 x3 x4_2 G hf
set_option maxRecDepth 100000 in
set_option maxHeartbeats 4000000 in
theorem z_F_smoothColumns_0 {κ : zx_K} {ad : Nat → Nat} {r : Int32} {G1 : zx_G} (h : zx_C M_F_smoothColumns κ ad) (hE : zx_E M_F_smoothColumns κ ad r G1) (x1 x2 : Int32) (G : zx_G) (hf : f_F_smoothColumns x1 x2 G = some (r, G1)) : zx_Z κ ad 0 [(0, .ref (ad 30)), (1, .int x1), (2, .int x2)] [] G := by
  unfold f_F_smoothColumns at hf
  refine zr_iconst (v := (4 : Int32)) h d_F_smoothColumns_0 rfl (by decide) ?_
  obtain ⟨x3_1, ex3_1, hf⟩ := zx_lt_some hf
  refine zr_istore_n h d_F_smoothColumns_1 rfl rfl (by decide) ex3_1 rfl ?_
  refine zr_sub [1, 2, 3, 0] rfl ?_
  exact z_F_smoothColumns_2 h hE 2048 x1 x2 x3_1 G hf
theorem c_F_smoothColumns (l : Launch) (D : va_G) (cA : ClassId) (ad : Nat → Nat) (A : Nat → Prop) (x1 x2 : Int32) (G : zx_G) (r : Int32) (G1 : zx_G) (hf : f_F_smoothColumns x1 x2 G = some (r, G1)) : zx_met l y_F_smoothColumns M_F_smoothColumns [.ref (ad 30), .int x1, .int x2] D cA ad A G r G1 :=
  zx_toMet (by decide) rfl (Nat.le_of_ble_eq_true rfl) (fun κ h hE => by exact z_F_smoothColumns_0 h hE x1 x2 G hf)

def f_F_smoothRows_67 (k2 : Int32 → Int32 → Int32 → zx_G → Option (Int32 × zx_G)) (k16 : Int32 → Int32 → Int32 → Int32 → zx_G → Option (Int32 × zx_G)) (x1 x2 x3 x4 : Int32) (G : zx_G) : Option (Int32 × zx_G) :=
  zx_lt (x4 + (1 : Int32)) fun x4_1 =>
  k16 x1 x2 x3 x4_1 G
def f_F_smoothRows_16 (k2 : Int32 → Int32 → Int32 → zx_G → Option (Int32 × zx_G)) : Nat → Int32 → Int32 → Int32 → Int32 → zx_G → Option (Int32 × zx_G)
  | 0, _, _, _, _, _ => none
  | n + 1, x1, x2, x3, x4, G =>
    zx_if ((G 11 7) ≤ x4)
      (zx_lt (x3 + (4 : Int32)) fun x3_2 =>
      k2 x1 x2 x3_2 G)
      (zx_bd (f_P_ownerAt x4 (x3 - (1 : Int32)) G) fun r_4 G_3 =>
      zx_bd (f_P_ownerAt x4 x3 G_3) fun r_7 G_6 =>
      zx_if (r_4 = r_7)
        (f_F_smoothRows_67 k2 (f_F_smoothRows_16 k2 n) x1 x2 x3 x4 G_6)
        (zx_bd (f_P_placeOf x1 x4 x3 G_6) fun r_11 G_10 =>
        zx_bd (f_F_smooth r_11 (16 : Int32) x2 G_10) fun r_14 G_13 =>
        f_F_smoothRows_67 k2 (f_F_smoothRows_16 k2 n) x1 x2 x3 x4 G_13))
def f_F_smoothRows_2 : Nat → Int32 → Int32 → Int32 → zx_G → Option (Int32 × zx_G)
  | 0, _, _, _, _ => none
  | n + 1, x1, x2, x3, G =>
    zx_if ((G 11 8) ≤ x3)
      (some ((0 : Int32), G))
      (zx_lt (0 : Int32) fun x4_2 =>
      f_F_smoothRows_16 (f_F_smoothRows_2 n) 2048 x1 x2 x3 x4_2 G)
def f_F_smoothRows (x1 x2 : Int32) (G : zx_G) : Option (Int32 × zx_G) :=
  zx_lt (4 : Int32) fun x3_1 =>
  f_F_smoothRows_2 2048 x1 x2 x3_1 G
set_option maxRecDepth 100000 in
set_option maxHeartbeats 4000000 in
theorem z_F_smoothRows_67 {κ : zx_K} {ad : Nat → Nat} {r : Int32} {G1 : zx_G} (h : zx_C M_F_smoothRows κ ad) (hE : zx_E M_F_smoothRows κ ad r G1) {k2 : Int32 → Int32 → Int32 → zx_G → Option (Int32 × zx_G)} {k16 : Int32 → Int32 → Int32 → Int32 → zx_G → Option (Int32 × zx_G)} (hk2 : ∀ (x1 x2 x3 : Int32) (G : zx_G), k2 x1 x2 x3 G = some (r, G1) → zx_Z κ ad 2 [(0, .ref (ad 30)), (1, .int x1), (2, .int x2), (3, .int x3)] [] G) (hk16 : ∀ (x1 x2 x3 x4 : Int32) (G : zx_G), k16 x1 x2 x3 x4 G = some (r, G1) → zx_Z κ ad 16 [(0, .ref (ad 30)), (1, .int x1), (2, .int x2), (3, .int x3), (4, .int x4)] [] G) (x1 x2 x3 x4 : Int32) (G : zx_G) (hf : f_F_smoothRows_67 k2 k16 x1 x2 x3 x4 G = some (r, G1)) : zx_Z κ ad 67 [(0, .ref (ad 30)), (1, .int x1), (2, .int x2), (3, .int x3), (4, .int x4)] [] G := by
  unfold f_F_smoothRows_67 at hf
  obtain ⟨x4_1, ex4_1, hf⟩ := zx_lt_some hf
  refine zr_iinc (j := 4) h d_F_smoothRows_67 rfl rfl (by decide) ex4_1 (by decide) rfl ?_
  refine zr_goto (tgt := 16) h d_F_smoothRows_70 rfl ?_
  refine zr_sub [1, 2, 3, 4, 0] rfl ?_
  exact hk16 x1 x2 x3 x4_1 G hf
set_option maxRecDepth 100000 in
set_option maxHeartbeats 4000000 in
theorem z_F_smoothRows_16 {κ : zx_K} {ad : Nat → Nat} {r : Int32} {G1 : zx_G} (h : zx_C M_F_smoothRows κ ad) (hE : zx_E M_F_smoothRows κ ad r G1) {k2 : Int32 → Int32 → Int32 → zx_G → Option (Int32 × zx_G)} (hk2 : ∀ (x1 x2 x3 : Int32) (G : zx_G), k2 x1 x2 x3 G = some (r, G1) → zx_Z κ ad 2 [(0, .ref (ad 30)), (1, .int x1), (2, .int x2), (3, .int x3)] [] G) : ∀ (n : Nat) (x1 x2 x3 x4 : Int32) (G : zx_G), f_F_smoothRows_16 k2 n x1 x2 x3 x4 G = some (r, G1) → zx_Z κ ad 16 [(0, .ref (ad 30)), (1, .int x1), (2, .int x2), (3, .int x3), (4, .int x4)] [] G := by
  intro n
  induction n with
  | zero => intro x1 x2 x3 x4 G hf; cases hf
  | succ n ih =>
    intro x1 x2 x3 x4 G hf
    unfold f_F_smoothRows_16 at hf
    refine zr_iload h d_F_smoothRows_16 rfl 4 rfl ?_
    refine zr_aload_n h d_F_smoothRows_18 rfl rfl 0 rfl ?_
    refine zr_getR h d_F_smoothRows_19 rfl fl_F_15 sh_30 rfl ?_
    refine zr_getI h d_F_smoothRows_22 rfl fl_F_48 sh_11 rfl ?_
    rcases zx_if_some hf with ⟨hc_1, hf⟩ | ⟨hc_1, hf⟩
    · refine zr_icmp_ge_t (tgt := 73) h d_F_smoothRows_25 rfl hc_1 ?_
      obtain ⟨x3_2, ex3_2, hf⟩ := zx_lt_some hf
      refine zr_iinc (j := 3) h d_F_smoothRows_73 rfl rfl (by decide) ex3_2 (by decide) rfl ?_
      refine zr_goto (tgt := 2) h d_F_smoothRows_76 rfl ?_
      refine zr_sub [1, 2, 3, 0] rfl ?_
      exact hk2 x1 x2 x3_2 G hf
    · refine zr_icmp_ge_f h 73 d_F_smoothRows_25 rfl rfl hc_1 ?_
      refine zr_aload_n h d_F_smoothRows_28 rfl rfl 0 rfl ?_
      refine zr_getR h d_F_smoothRows_29 rfl fl_F_19 sh_30 rfl ?_
      refine zr_iload h d_F_smoothRows_32 rfl 4 rfl ?_
      refine zr_iload_n h d_F_smoothRows_34 rfl rfl 3 rfl ?_
      refine zr_iconst (v := (1 : Int32)) h d_F_smoothRows_35 rfl (by decide) ?_
      refine zr_isub h d_F_smoothRows_36 rfl ?_
      obtain ⟨r_4, G_3, hq_5, hf⟩ := zx_bd_some hf
      refine zr_callVI (As := [.int x4, .int (x3 - (1 : Int32))]) (b := 17) h (c_P_ownerAt _ _ _ _ _ x4 (x3 - (1 : Int32)) G r_4 G_3 hq_5) cc_F_54 d_F_smoothRows_37 rfl rfl rfl sh_17 ⟨rfl, rfl, by decide, by decide⟩ (Nat.le_of_ble_eq_true rfl) ?_
      refine zr_aload_n h d_F_smoothRows_40 rfl rfl 0 rfl ?_
      refine zr_getR h d_F_smoothRows_41 rfl fl_F_19 sh_30 rfl ?_
      refine zr_iload h d_F_smoothRows_44 rfl 4 rfl ?_
      refine zr_iload_n h d_F_smoothRows_46 rfl rfl 3 rfl ?_
      obtain ⟨r_7, G_6, hq_8, hf⟩ := zx_bd_some hf
      refine zr_callVI (As := [.int x4, .int x3]) (b := 17) h (c_P_ownerAt _ _ _ _ _ x4 x3 G_3 r_7 G_6 hq_8) cc_F_54 d_F_smoothRows_47 rfl rfl rfl sh_17 ⟨rfl, rfl, by decide, by decide⟩ (Nat.le_of_ble_eq_true rfl) ?_
      rcases zx_if_some hf with ⟨hc_9, hf⟩ | ⟨hc_9, hf⟩
      · refine zr_icmp_eq_t (tgt := 67) h d_F_smoothRows_50 rfl hc_9 ?_
        exact z_F_smoothRows_67 h hE hk2 ih x1 x2 x3 x4 G_6 hf
      · refine zr_icmp_eq_f h 67 d_F_smoothRows_50 rfl rfl hc_9 ?_
        refine zr_aload_n h d_F_smoothRows_53 rfl rfl 0 rfl ?_
        refine zr_iload_n h d_F_smoothRows_54 rfl rfl 1 rfl ?_
        refine zr_iload h d_F_smoothRows_55 rfl 4 rfl ?_
        refine zr_iload_n h d_F_smoothRows_57 rfl rfl 3 rfl ?_
        obtain ⟨r_11, G_10, hq_12, hf⟩ := zx_bd_some hf
        refine zr_callSI (As := [.int x1, .int x4, .int x3]) h (c_P_placeOf _ _ _ _ _ x1 x4 x3 G_6 r_11 G_10 hq_12) cc_F_58 d_F_smoothRows_58 rfl rfl rfl ⟨rfl, by decide, by decide⟩ (Nat.le_of_ble_eq_true rfl) ?_
        refine zr_bipush (v := (16 : Int32)) h d_F_smoothRows_61 rfl (by decide) ?_
        refine zr_iload_n h d_F_smoothRows_63 rfl rfl 2 rfl ?_
        obtain ⟨r_14, G_13, hq_15, hf⟩ := zx_bd_some hf
        refine zr_callVV (As := [.int r_11, .int (16 : Int32), .int x2]) (b := 30) h (c_F_smooth _ _ _ _ _ r_11 (16 : Int32) x2 G_10 r_14 G_13 hq_15) cc_F_62 d_F_smoothRows_64 rfl rfl rfl sh_30 ⟨rfl, rfl, by decide, by decide⟩ (Nat.le_of_ble_eq_true rfl) ?_
        exact z_F_smoothRows_67 h hE hk2 ih x1 x2 x3 x4 G_13 hf
set_option maxRecDepth 100000 in
set_option maxHeartbeats 4000000 in
theorem z_F_smoothRows_2 {κ : zx_K} {ad : Nat → Nat} {r : Int32} {G1 : zx_G} (h : zx_C M_F_smoothRows κ ad) (hE : zx_E M_F_smoothRows κ ad r G1) : ∀ (n : Nat) (x1 x2 x3 : Int32) (G : zx_G), f_F_smoothRows_2 n x1 x2 x3 G = some (r, G1) → zx_Z κ ad 2 [(0, .ref (ad 30)), (1, .int x1), (2, .int x2), (3, .int x3)] [] G := by
  intro n
  induction n with
  | zero => intro x1 x2 x3 G hf; cases hf
  | succ n ih =>
    intro x1 x2 x3 G hf
    unfold f_F_smoothRows_2 at hf
    refine zr_iload_n h d_F_smoothRows_2 rfl rfl 3 rfl ?_
    refine zr_aload_n h d_F_smoothRows_3 rfl rfl 0 rfl ?_
    refine zr_getR h d_F_smoothRows_4 rfl fl_F_15 sh_30 rfl ?_
    refine zr_getI h d_F_smoothRows_7 rfl fl_F_51 sh_11 rfl ?_
    rcases zx_if_some hf with ⟨hc_1, hf⟩ | ⟨hc_1, hf⟩
    · refine zr_icmp_ge_t (tgt := 79) h d_F_smoothRows_10 rfl hc_1 ?_
      exact zr_vret h hE d_F_smoothRows_79 rfl hf
    · refine zr_icmp_ge_f h 79 d_F_smoothRows_10 rfl rfl hc_1 ?_
      refine zr_iconst (v := (0 : Int32)) h d_F_smoothRows_13 rfl (by decide) ?_
      obtain ⟨x4_2, ex4_2, hf⟩ := zx_lt_some hf
      refine zr_istore h d_F_smoothRows_14 rfl (by decide) ex4_2 rfl ?_
      refine zr_sub [1, 2, 3, 4, 0] rfl ?_
      exact z_F_smoothRows_16 h hE ih 2048 x1 x2 x3 x4_2 G hf
set_option maxRecDepth 100000 in
set_option maxHeartbeats 4000000 in
theorem z_F_smoothRows_0 {κ : zx_K} {ad : Nat → Nat} {r : Int32} {G1 : zx_G} (h : zx_C M_F_smoothRows κ ad) (hE : zx_E M_F_smoothRows κ ad r G1) (x1 x2 : Int32) (G : zx_G) (hf : f_F_smoothRows x1 x2 G = some (r, G1)) : zx_Z κ ad 0 [(0, .ref (ad 30)), (1, .int x1), (2, .int x2)] [] G := by
  unfold f_F_smoothRows at hf
  refine zr_iconst (v := (4 : Int32)) h d_F_smoothRows_0 rfl (by decide) ?_
  obtain ⟨x3_1, ex3_1, hf⟩ := zx_lt_some hf
  refine zr_istore_n h d_F_smoothRows_1 rfl rfl (by decide) ex3_1 rfl ?_
  refine zr_sub [1, 2, 3, 0] rfl ?_
  exact z_F_smoothRows_2 h hE 2048 x1 x2 x3_1 G hf
theorem c_F_smoothRows (l : Launch) (D : va_G) (cA : ClassId) (ad : Nat → Nat) (A : Nat → Prop) (x1 x2 : Int32) (G : zx_G) (r : Int32) (G1 : zx_G) (hf : f_F_smoothRows x1 x2 G = some (r, G1)) : zx_met l y_F_smoothRows M_F_smoothRows [.ref (ad 30), .int x1, .int x2] D cA ad A G r G1 :=
  zx_toMet (by decide) rfl (Nat.le_of_ble_eq_true rfl) (fun κ h hE => by exact z_F_smoothRows_0 h hE x1 x2 G hf)

def f_F_run_88 (k15 : Int32 → Int32 → zx_G → Option (Int32 × zx_G)) (x1 x2 : Int32) (G : zx_G) : Option (Int32 × zx_G) :=
  zx_lt (x2 + (1 : Int32)) fun x2_1 =>
  k15 x1 x2_1 G
def f_F_run_64 (k15 : Int32 → Int32 → zx_G → Option (Int32 × zx_G)) (x1 x2 : Int32) (G : zx_G) : Option (Int32 × zx_G) :=
  zx_if ((G 11 13) = 0)
    (f_F_run_88 k15 x1 x2 G)
    (zx_bd (f_F_soften x2 ((G 11 13) * x1) G) fun r_3 G_2 =>
    f_F_run_88 k15 x1 x2 G_2)
def f_F_run_15 : Nat → Int32 → Int32 → zx_G → Option (Int32 × zx_G)
  | 0, _, _, _ => none
  | n + 1, x1, x2, G =>
    zx_if ((G 11 6) ≤ x2)
      (some ((0 : Int32), G))
      (zx_if ((G 11 12) = 0)
        (f_F_run_64 (f_F_run_15 n) x1 x2 G)
        (zx_bd (f_F_smoothColumns x2 ((G 11 12) * x1) G) fun r_4 G_3 =>
        zx_bd (f_F_smoothRows x2 ((G_3 11 12) * x1) G_3) fun r_7 G_6 =>
        f_F_run_64 (f_F_run_15 n) x1 x2 G_6))
def f_F_run (G : zx_G) : Option (Int32 × zx_G) :=
  zx_lt ((1 : Int32) <<< (((G 11 9) - (8 : Int32)) &&& 31)) fun x1_1 =>
  zx_lt (0 : Int32) fun x2_2 =>
  f_F_run_15 2048 x1_1 x2_2 G
set_option maxRecDepth 100000 in
set_option maxHeartbeats 4000000 in
theorem z_F_run_88 {κ : zx_K} {ad : Nat → Nat} {r : Int32} {G1 : zx_G} (h : zx_C M_F_run κ ad) (hE : zx_E M_F_run κ ad r G1) {k15 : Int32 → Int32 → zx_G → Option (Int32 × zx_G)} (hk15 : ∀ (x1 x2 : Int32) (G : zx_G), k15 x1 x2 G = some (r, G1) → zx_Z κ ad 15 [(0, .ref (ad 30)), (1, .int x1), (2, .int x2)] [] G) (x1 x2 : Int32) (G : zx_G) (hf : f_F_run_88 k15 x1 x2 G = some (r, G1)) : zx_Z κ ad 88 [(0, .ref (ad 30)), (1, .int x1), (2, .int x2)] [] G := by
  unfold f_F_run_88 at hf
  obtain ⟨x2_1, ex2_1, hf⟩ := zx_lt_some hf
  refine zr_iinc (j := 2) h d_F_run_88 rfl rfl (by decide) ex2_1 (by decide) rfl ?_
  refine zr_goto (tgt := 15) h d_F_run_91 rfl ?_
  refine zr_sub [1, 2, 0] rfl ?_
  exact hk15 x1 x2_1 G hf
set_option maxRecDepth 100000 in
set_option maxHeartbeats 4000000 in
theorem z_F_run_64 {κ : zx_K} {ad : Nat → Nat} {r : Int32} {G1 : zx_G} (h : zx_C M_F_run κ ad) (hE : zx_E M_F_run κ ad r G1) {k15 : Int32 → Int32 → zx_G → Option (Int32 × zx_G)} (hk15 : ∀ (x1 x2 : Int32) (G : zx_G), k15 x1 x2 G = some (r, G1) → zx_Z κ ad 15 [(0, .ref (ad 30)), (1, .int x1), (2, .int x2)] [] G) (x1 x2 : Int32) (G : zx_G) (hf : f_F_run_64 k15 x1 x2 G = some (r, G1)) : zx_Z κ ad 64 [(0, .ref (ad 30)), (1, .int x1), (2, .int x2)] [] G := by
  unfold f_F_run_64 at hf
  refine zr_aload_n h d_F_run_64 rfl rfl 0 rfl ?_
  refine zr_getR h d_F_run_65 rfl fl_F_15 sh_30 rfl ?_
  refine zr_getI h d_F_run_68 rfl fl_F_42 sh_11 rfl ?_
  rcases zx_if_some hf with ⟨hc_1, hf⟩ | ⟨hc_1, hf⟩
  · refine zr_if_eq_t (tgt := 88) h d_F_run_71 rfl hc_1 ?_
    exact z_F_run_88 h hE hk15 x1 x2 G hf
  · refine zr_if_eq_f h 88 d_F_run_71 rfl rfl hc_1 ?_
    refine zr_aload_n h d_F_run_74 rfl rfl 0 rfl ?_
    refine zr_iload_n h d_F_run_75 rfl rfl 2 rfl ?_
    refine zr_aload_n h d_F_run_76 rfl rfl 0 rfl ?_
    refine zr_getR h d_F_run_77 rfl fl_F_15 sh_30 rfl ?_
    refine zr_getI h d_F_run_80 rfl fl_F_42 sh_11 rfl ?_
    refine zr_iload_n h d_F_run_83 rfl rfl 1 rfl ?_
    refine zr_imul h d_F_run_84 rfl ?_
    obtain ⟨r_3, G_2, hq_4, hf⟩ := zx_bd_some hf
    refine zr_callVV (As := [.int x2, .int ((G 11 13) * x1)]) (b := 30) h (c_F_soften _ _ _ _ _ x2 ((G 11 13) * x1) G r_3 G_2 hq_4) cc_F_45 d_F_run_85 rfl rfl rfl sh_30 ⟨rfl, rfl, by decide, by decide⟩ (Nat.le_of_ble_eq_true rfl) ?_
    exact z_F_run_88 h hE hk15 x1 x2 G_2 hf
set_option maxRecDepth 100000 in
set_option maxHeartbeats 4000000 in
theorem z_F_run_15 {κ : zx_K} {ad : Nat → Nat} {r : Int32} {G1 : zx_G} (h : zx_C M_F_run κ ad) (hE : zx_E M_F_run κ ad r G1) : ∀ (n : Nat) (x1 x2 : Int32) (G : zx_G), f_F_run_15 n x1 x2 G = some (r, G1) → zx_Z κ ad 15 [(0, .ref (ad 30)), (1, .int x1), (2, .int x2)] [] G := by
  intro n
  induction n with
  | zero => intro x1 x2 G hf; cases hf
  | succ n ih =>
    intro x1 x2 G hf
    unfold f_F_run_15 at hf
    refine zr_iload_n h d_F_run_15 rfl rfl 2 rfl ?_
    refine zr_aload_n h d_F_run_16 rfl rfl 0 rfl ?_
    refine zr_getR h d_F_run_17 rfl fl_F_15 sh_30 rfl ?_
    refine zr_getI h d_F_run_20 rfl fl_F_29 sh_11 rfl ?_
    rcases zx_if_some hf with ⟨hc_1, hf⟩ | ⟨hc_1, hf⟩
    · refine zr_icmp_ge_t (tgt := 94) h d_F_run_23 rfl hc_1 ?_
      exact zr_vret h hE d_F_run_94 rfl hf
    · refine zr_icmp_ge_f h 94 d_F_run_23 rfl rfl hc_1 ?_
      refine zr_aload_n h d_F_run_26 rfl rfl 0 rfl ?_
      refine zr_getR h d_F_run_27 rfl fl_F_15 sh_30 rfl ?_
      refine zr_getI h d_F_run_30 rfl fl_F_32 sh_11 rfl ?_
      rcases zx_if_some hf with ⟨hc_2, hf⟩ | ⟨hc_2, hf⟩
      · refine zr_if_eq_t (tgt := 64) h d_F_run_33 rfl hc_2 ?_
        exact z_F_run_64 h hE ih x1 x2 G hf
      · refine zr_if_eq_f h 64 d_F_run_33 rfl rfl hc_2 ?_
        refine zr_aload_n h d_F_run_36 rfl rfl 0 rfl ?_
        refine zr_iload_n h d_F_run_37 rfl rfl 2 rfl ?_
        refine zr_aload_n h d_F_run_38 rfl rfl 0 rfl ?_
        refine zr_getR h d_F_run_39 rfl fl_F_15 sh_30 rfl ?_
        refine zr_getI h d_F_run_42 rfl fl_F_32 sh_11 rfl ?_
        refine zr_iload_n h d_F_run_45 rfl rfl 1 rfl ?_
        refine zr_imul h d_F_run_46 rfl ?_
        obtain ⟨r_4, G_3, hq_5, hf⟩ := zx_bd_some hf
        refine zr_callVV (As := [.int x2, .int ((G 11 12) * x1)]) (b := 30) h (c_F_smoothColumns _ _ _ _ _ x2 ((G 11 12) * x1) G r_4 G_3 hq_5) cc_F_35 d_F_run_47 rfl rfl rfl sh_30 ⟨rfl, rfl, by decide, by decide⟩ (Nat.le_of_ble_eq_true rfl) ?_
        refine zr_aload_n h d_F_run_50 rfl rfl 0 rfl ?_
        refine zr_iload_n h d_F_run_51 rfl rfl 2 rfl ?_
        refine zr_aload_n h d_F_run_52 rfl rfl 0 rfl ?_
        refine zr_getR h d_F_run_53 rfl fl_F_15 sh_30 rfl ?_
        refine zr_getI h d_F_run_56 rfl fl_F_32 sh_11 rfl ?_
        refine zr_iload_n h d_F_run_59 rfl rfl 1 rfl ?_
        refine zr_imul h d_F_run_60 rfl ?_
        obtain ⟨r_7, G_6, hq_8, hf⟩ := zx_bd_some hf
        refine zr_callVV (As := [.int x2, .int ((G_3 11 12) * x1)]) (b := 30) h (c_F_smoothRows _ _ _ _ _ x2 ((G_3 11 12) * x1) G_3 r_7 G_6 hq_8) cc_F_39 d_F_run_61 rfl rfl rfl sh_30 ⟨rfl, rfl, by decide, by decide⟩ (Nat.le_of_ble_eq_true rfl) ?_
        exact z_F_run_64 h hE ih x1 x2 G_6 hf
set_option maxRecDepth 100000 in
set_option maxHeartbeats 4000000 in
theorem z_F_run_0 {κ : zx_K} {ad : Nat → Nat} {r : Int32} {G1 : zx_G} (h : zx_C M_F_run κ ad) (hE : zx_E M_F_run κ ad r G1) (G : zx_G) (hf : f_F_run G = some (r, G1)) : zx_Z κ ad 0 [(0, .ref (ad 30))] [] G := by
  unfold f_F_run at hf
  refine zr_iconst (v := (1 : Int32)) h d_F_run_0 rfl (by decide) ?_
  refine zr_aload_n h d_F_run_1 rfl rfl 0 rfl ?_
  refine zr_getR h d_F_run_2 rfl fl_F_15 sh_30 rfl ?_
  refine zr_getI h d_F_run_5 rfl fl_F_23 sh_11 rfl ?_
  refine zr_bipush (v := (8 : Int32)) h d_F_run_8 rfl (by decide) ?_
  refine zr_isub h d_F_run_10 rfl ?_
  refine zr_ishl h d_F_run_11 rfl ?_
  obtain ⟨x1_1, ex1_1, hf⟩ := zx_lt_some hf
  refine zr_istore_n h d_F_run_12 rfl rfl (by decide) ex1_1 rfl ?_
  refine zr_iconst (v := (0 : Int32)) h d_F_run_13 rfl (by decide) ?_
  obtain ⟨x2_2, ex2_2, hf⟩ := zx_lt_some hf
  refine zr_istore_n h d_F_run_14 rfl rfl (by decide) ex2_2 rfl ?_
  refine zr_sub [2, 1, 0] rfl ?_
  exact z_F_run_15 h hE 2048 x1_1 x2_2 G hf
theorem c_F_run (l : Launch) (D : va_G) (cA : ClassId) (ad : Nat → Nat) (A : Nat → Prop) (G : zx_G) (r : Int32) (G1 : zx_G) (hf : f_F_run G = some (r, G1)) : zx_met l y_F_run M_F_run [.ref (ad 30)] D cA ad A G r G1 :=
  zx_toMet (by decide) rfl (Nat.le_of_ble_eq_true rfl) (fun κ h hE => by exact z_F_run_0 h hE G hf)

def f_C_takeBit_43 (s0 : Int32) (G : zx_G) : Option (Int32 × zx_G) :=
  zx_lt s0 fun x2_1 =>
  zx_lt (zx_up G 14 7 (((2 : Int32) * (G 14 7)) + x2_1)) fun G_2 =>
  zx_lt (zx_up G_2 14 8 ((G_2 14 8) + (1 : Int32))) fun G_3 =>
  some ((0 : Int32), G_3)
def f_C_takeBit (G : zx_G) : Option (Int32 × zx_G) :=
  zx_lt ((G 14 3) + ((G 14 8) >>> ((3 : Int32) &&& 31))) fun x1_1 =>
  zx_if ((G 14 4) ≤ x1_1)
    (f_C_takeBit_43 (0 : Int32) G)
    (zx_gd (zx_in x1_1 200) <|
    f_C_takeBit_43 (((G 9 (Int32.toNatClampNeg x1_1)) >>> (((7 : Int32) - ((G 14 8) &&& (7 : Int32))) &&& 31)) &&& (1 : Int32)) G)
set_option maxRecDepth 100000 in
set_option maxHeartbeats 4000000 in
theorem z_C_takeBit_43 {κ : zx_K} {ad : Nat → Nat} {r : Int32} {G1 : zx_G} (h : zx_C M_C_takeBit κ ad) (hE : zx_E M_C_takeBit κ ad r G1) (s0 : Int32) (G : zx_G) (hf : f_C_takeBit_43 s0 G = some (r, G1)) : zx_Z κ ad 43 [(0, .ref (ad 14))] [.int s0] G := by
  unfold f_C_takeBit_43 at hf
  obtain ⟨x2_1, ex2_1, hf⟩ := zx_lt_some hf
  refine zr_istore_n h d_C_takeBit_43 rfl rfl (by decide) ex2_1 rfl ?_
  refine zr_aload_n h d_C_takeBit_44 rfl rfl 1 rfl ?_
  refine zr_iconst (v := (2 : Int32)) h d_C_takeBit_45 rfl (by decide) ?_
  refine zr_aload_n h d_C_takeBit_46 rfl rfl 1 rfl ?_
  refine zr_getI h d_C_takeBit_47 rfl fl_C_55 sh_14 rfl ?_
  refine zr_imul h d_C_takeBit_50 rfl ?_
  refine zr_iload_n h d_C_takeBit_51 rfl rfl 0 rfl ?_
  refine zr_iadd h d_C_takeBit_52 rfl ?_
  obtain ⟨G_2, eG_2, hf⟩ := zx_lt_some hf
  refine zr_putI h d_C_takeBit_53 rfl fl_C_55 pl_C_7 sh_14 rfl rfl rfl eG_2 ?_
  refine zr_aload_n h d_C_takeBit_56 rfl rfl 1 rfl ?_
  refine zr_dup h d_C_takeBit_57 rfl rfl ?_
  refine zr_getI h d_C_takeBit_58 rfl fl_C_58 sh_14 rfl ?_
  refine zr_iconst (v := (1 : Int32)) h d_C_takeBit_61 rfl (by decide) ?_
  refine zr_iadd h d_C_takeBit_62 rfl ?_
  obtain ⟨G_3, eG_3, hf⟩ := zx_lt_some hf
  refine zr_putI h d_C_takeBit_63 rfl fl_C_58 pl_C_8 sh_14 rfl rfl rfl eG_3 ?_
  exact zr_vret h hE d_C_takeBit_66 rfl hf
set_option maxRecDepth 100000 in
set_option maxHeartbeats 4000000 in
theorem z_C_takeBit_0 {κ : zx_K} {ad : Nat → Nat} {r : Int32} {G1 : zx_G} (h : zx_C M_C_takeBit κ ad) (hE : zx_E M_C_takeBit κ ad r G1) (G : zx_G) (hf : f_C_takeBit G = some (r, G1)) : zx_Z κ ad 0 [(0, .ref (ad 14))] [] G := by
  unfold f_C_takeBit at hf
  refine zr_aload_n h d_C_takeBit_0 rfl rfl 0 rfl ?_
  refine zr_getI h d_C_takeBit_1 rfl fl_C_25 sh_14 rfl ?_
  refine zr_aload_n h d_C_takeBit_4 rfl rfl 0 rfl ?_
  refine zr_getI h d_C_takeBit_5 rfl fl_C_58 sh_14 rfl ?_
  refine zr_iconst (v := (3 : Int32)) h d_C_takeBit_8 rfl (by decide) ?_
  refine zr_ishr h d_C_takeBit_9 rfl ?_
  refine zr_iadd h d_C_takeBit_10 rfl ?_
  obtain ⟨x1_1, ex1_1, hf⟩ := zx_lt_some hf
  refine zr_istore_n h d_C_takeBit_11 rfl rfl (by decide) ex1_1 rfl ?_
  refine zr_iload_n h d_C_takeBit_12 rfl rfl 0 rfl ?_
  refine zr_aload_n h d_C_takeBit_13 rfl rfl 1 rfl ?_
  refine zr_getI h d_C_takeBit_14 rfl fl_C_32 sh_14 rfl ?_
  rcases zx_if_some hf with ⟨hc_2, hf⟩ | ⟨hc_2, hf⟩
  · refine zr_icmp_ge_t (tgt := 42) h d_C_takeBit_17 rfl hc_2 ?_
    refine zr_iconst (v := (0 : Int32)) h d_C_takeBit_42 rfl (by decide) ?_
    refine zr_sub [1] rfl ?_
    exact z_C_takeBit_43 h hE (0 : Int32) G hf
  · refine zr_icmp_ge_f h 42 d_C_takeBit_17 rfl rfl hc_2 ?_
    refine zr_aload_n h d_C_takeBit_20 rfl rfl 1 rfl ?_
    refine zr_getR h d_C_takeBit_21 rfl fl_C_16 sh_14 rfl ?_
    refine zr_iload_n h d_C_takeBit_24 rfl rfl 0 rfl ?_
    obtain ⟨hb_3, hf⟩ := zx_gd_some hf
    refine zr_iald h d_C_takeBit_25 rfl sh_9 hb_3 ?_
    refine zr_bipush (v := (7 : Int32)) h d_C_takeBit_26 rfl (by decide) ?_
    refine zr_aload_n h d_C_takeBit_28 rfl rfl 1 rfl ?_
    refine zr_getI h d_C_takeBit_29 rfl fl_C_58 sh_14 rfl ?_
    refine zr_bipush (v := (7 : Int32)) h d_C_takeBit_32 rfl (by decide) ?_
    refine zr_iand h d_C_takeBit_34 rfl ?_
    refine zr_isub h d_C_takeBit_35 rfl ?_
    refine zr_ishr h d_C_takeBit_36 rfl ?_
    refine zr_iconst (v := (1 : Int32)) h d_C_takeBit_37 rfl (by decide) ?_
    refine zr_iand h d_C_takeBit_38 rfl ?_
    refine zr_goto (tgt := 43) h d_C_takeBit_39 rfl ?_
    refine zr_sub [1] rfl ?_
    exact z_C_takeBit_43 h hE (((G 9 (Int32.toNatClampNeg x1_1)) >>> (((7 : Int32) - ((G 14 8) &&& (7 : Int32))) &&& 31)) &&& (1 : Int32)) G hf
theorem c_C_takeBit (l : Launch) (D : va_G) (cA : ClassId) (ad : Nat → Nat) (A : Nat → Prop) (G : zx_G) (r : Int32) (G1 : zx_G) (hf : f_C_takeBit G = some (r, G1)) : zx_met l y_C_takeBit M_C_takeBit [.ref (ad 14)] D cA ad A G r G1 :=
  zx_toMet (by decide) rfl (Nat.le_of_ble_eq_true rfl) (fun κ h hE => by exact z_C_takeBit_0 h hE G hf)

def f_C_narrow_65 (G : zx_G) : Option (Int32 × zx_G) :=
  some ((0 : Int32), G)
def f_C_narrow_29 : Nat → Int32 → zx_G → Option (Int32 × zx_G)
  | 0, _, _ => none
  | n + 1, x3, G =>
    zx_if ((14 : Int32) ≤ x3)
      (f_C_narrow_65 G)
      (zx_if ((16384 : Int32) ≤ (G 14 6))
        (f_C_narrow_65 G)
        (zx_lt (zx_up G 14 6 ((2 : Int32) * (G 14 6))) fun G_3 =>
        zx_bd (f_C_takeBit G_3) fun r_5 G_4 =>
        zx_lt (x3 + (1 : Int32)) fun x3_7 =>
        f_C_narrow_29 n x3_7 G_4))
def f_C_narrow (x1 x2 : Int32) (G : zx_G) : Option (Int32 × zx_G) :=
  zx_lt (zx_up G 14 9 ((G 14 9) + (1 : Int32))) fun G_1 =>
  zx_lt (zx_up G_1 14 7 ((G_1 14 7) - x1)) fun G_2 =>
  zx_lt (zx_up G_2 14 6 (x2 - x1)) fun G_3 =>
  zx_lt (0 : Int32) fun x3_4 =>
  f_C_narrow_29 2048 x3_4 G_3
set_option maxRecDepth 100000 in
set_option maxHeartbeats 4000000 in
theorem z_C_narrow_65 {κ : zx_K} {ad : Nat → Nat} {r : Int32} {G1 : zx_G} (h : zx_C M_C_narrow κ ad) (hE : zx_E M_C_narrow κ ad r G1) (G : zx_G) (hf : f_C_narrow_65 G = some (r, G1)) : zx_Z κ ad 65 [] [] G := by
  unfold f_C_narrow_65 at hf
  exact zr_vret h hE d_C_narrow_65 rfl hf
set_option maxRecDepth 100000 in
set_option maxHeartbeats 4000000 in
theorem z_C_narrow_29 {κ : zx_K} {ad : Nat → Nat} {r : Int32} {G1 : zx_G} (h : zx_C M_C_narrow κ ad) (hE : zx_E M_C_narrow κ ad r G1) : ∀ (n : Nat) (x3 : Int32) (G : zx_G), f_C_narrow_29 n x3 G = some (r, G1) → zx_Z κ ad 29 [(0, .ref (ad 14)), (3, .int x3)] [] G := by
  intro n
  induction n with
  | zero => intro x3 G hf; cases hf
  | succ n ih =>
    intro x3 G hf
    unfold f_C_narrow_29 at hf
    refine zr_iload_n h d_C_narrow_29 rfl rfl 1 rfl ?_
    refine zr_bipush (v := (14 : Int32)) h d_C_narrow_30 rfl (by decide) ?_
    rcases zx_if_some hf with ⟨hc_1, hf⟩ | ⟨hc_1, hf⟩
    · refine zr_icmp_ge_t (tgt := 65) h d_C_narrow_32 rfl hc_1 ?_
      refine zr_sub [] rfl ?_
      exact z_C_narrow_65 h hE G hf
    · refine zr_icmp_ge_f h 65 d_C_narrow_32 rfl rfl hc_1 ?_
      refine zr_aload_n h d_C_narrow_35 rfl rfl 0 rfl ?_
      refine zr_getI h d_C_narrow_36 rfl fl_C_52 sh_14 rfl ?_
      refine zr_sipush (v := (16384 : Int32)) h d_C_narrow_39 rfl (by decide) ?_
      rcases zx_if_some hf with ⟨hc_2, hf⟩ | ⟨hc_2, hf⟩
      · refine zr_icmp_ge_t (tgt := 65) h d_C_narrow_42 rfl hc_2 ?_
        refine zr_sub [] rfl ?_
        exact z_C_narrow_65 h hE G hf
      · refine zr_icmp_ge_f h 65 d_C_narrow_42 rfl rfl hc_2 ?_
        refine zr_aload_n h d_C_narrow_45 rfl rfl 0 rfl ?_
        refine zr_iconst (v := (2 : Int32)) h d_C_narrow_46 rfl (by decide) ?_
        refine zr_aload_n h d_C_narrow_47 rfl rfl 0 rfl ?_
        refine zr_getI h d_C_narrow_48 rfl fl_C_52 sh_14 rfl ?_
        refine zr_imul h d_C_narrow_51 rfl ?_
        obtain ⟨G_3, eG_3, hf⟩ := zx_lt_some hf
        refine zr_putI h d_C_narrow_52 rfl fl_C_52 pl_C_6 sh_14 rfl rfl rfl eG_3 ?_
        refine zr_aload_n h d_C_narrow_55 rfl rfl 0 rfl ?_
        obtain ⟨r_5, G_4, hq_6, hf⟩ := zx_bd_some hf
        refine zr_callVV (As := []) (b := 14) h (c_C_takeBit _ _ _ _ _ G_3 r_5 G_4 hq_6) cc_C_61 d_C_narrow_56 rfl rfl rfl sh_14 ⟨rfl, rfl, by decide, by decide⟩ (Nat.le_of_ble_eq_true rfl) ?_
        obtain ⟨x3_7, ex3_7, hf⟩ := zx_lt_some hf
        refine zr_iinc (j := 1) h d_C_narrow_59 rfl rfl (by decide) ex3_7 (by decide) rfl ?_
        refine zr_goto (tgt := 29) h d_C_narrow_62 rfl ?_
        refine zr_sub [1, 0] rfl ?_
        exact ih x3_7 G_4 hf
set_option maxRecDepth 100000 in
set_option maxHeartbeats 4000000 in
theorem z_C_narrow_0 {κ : zx_K} {ad : Nat → Nat} {r : Int32} {G1 : zx_G} (h : zx_C M_C_narrow κ ad) (hE : zx_E M_C_narrow κ ad r G1) (x1 x2 : Int32) (G : zx_G) (hf : f_C_narrow x1 x2 G = some (r, G1)) : zx_Z κ ad 0 [(0, .ref (ad 14)), (1, .int x1), (2, .int x2)] [] G := by
  unfold f_C_narrow at hf
  refine zr_aload_n h d_C_narrow_0 rfl rfl 0 rfl ?_
  refine zr_dup h d_C_narrow_1 rfl rfl ?_
  refine zr_getI h d_C_narrow_2 rfl fl_C_39 sh_14 rfl ?_
  refine zr_iconst (v := (1 : Int32)) h d_C_narrow_5 rfl (by decide) ?_
  refine zr_iadd h d_C_narrow_6 rfl ?_
  obtain ⟨G_1, eG_1, hf⟩ := zx_lt_some hf
  refine zr_putI h d_C_narrow_7 rfl fl_C_39 pl_C_9 sh_14 rfl rfl rfl eG_1 ?_
  refine zr_aload_n h d_C_narrow_10 rfl rfl 0 rfl ?_
  refine zr_dup h d_C_narrow_11 rfl rfl ?_
  refine zr_getI h d_C_narrow_12 rfl fl_C_55 sh_14 rfl ?_
  refine zr_iload_n h d_C_narrow_15 rfl rfl 1 rfl ?_
  refine zr_isub h d_C_narrow_16 rfl ?_
  obtain ⟨G_2, eG_2, hf⟩ := zx_lt_some hf
  refine zr_putI h d_C_narrow_17 rfl fl_C_55 pl_C_7 sh_14 rfl rfl rfl eG_2 ?_
  refine zr_aload_n h d_C_narrow_20 rfl rfl 0 rfl ?_
  refine zr_iload_n h d_C_narrow_21 rfl rfl 2 rfl ?_
  refine zr_iload_n h d_C_narrow_22 rfl rfl 1 rfl ?_
  refine zr_isub h d_C_narrow_23 rfl ?_
  obtain ⟨G_3, eG_3, hf⟩ := zx_lt_some hf
  refine zr_putI h d_C_narrow_24 rfl fl_C_52 pl_C_6 sh_14 rfl rfl rfl eG_3 ?_
  refine zr_iconst (v := (0 : Int32)) h d_C_narrow_27 rfl (by decide) ?_
  obtain ⟨x3_4, ex3_4, hf⟩ := zx_lt_some hf
  refine zr_istore_n h d_C_narrow_28 rfl rfl (by decide) ex3_4 rfl ?_
  refine zr_sub [1, 0] rfl ?_
  exact z_C_narrow_29 h hE 2048 x3_4 G_3 hf
theorem c_C_narrow (l : Launch) (D : va_G) (cA : ClassId) (ad : Nat → Nat) (A : Nat → Prop) (x1 x2 : Int32) (G : zx_G) (r : Int32) (G1 : zx_G) (hf : f_C_narrow x1 x2 G = some (r, G1)) : zx_met l y_C_narrow M_C_narrow [.ref (ad 14), .int x1, .int x2] D cA ad A G r G1 :=
  zx_toMet (by decide) rfl (Nat.le_of_ble_eq_true rfl) (fun κ h hE => by exact z_C_narrow_0 h hE x1 x2 G hf)
