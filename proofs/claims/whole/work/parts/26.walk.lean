/-! the methods as functions, and the rows that tie them to the machine; written by a program -/
def f_C_numberOf_23 (G : zx_G) : Option (Int32 × zx_G) :=
  some ((-1 : Int32), G)
def f_C_numberOf (x1 x2 : Int32) (G : zx_G) : Option (Int32 × zx_G) :=
  zx_if (x1 < 0)
    (f_C_numberOf_23 G)
    (zx_if ((19 : Int32) ≤ x1)
      (f_C_numberOf_23 G)
      (zx_if (x2 < 0)
        (f_C_numberOf_23 G)
        (zx_gd (zx_in x1 19) <|
        zx_if (x2 < (zx_tab0 (Int32.toNatClampNeg x1)))
          (zx_gd (zx_in ((x1 * (16 : Int32)) + x2) 304) <|
          some ((G 15 (Int32.toNatClampNeg ((x1 * (16 : Int32)) + x2))), G))
          (f_C_numberOf_23 G))))
set_option maxRecDepth 100000 in
set_option maxHeartbeats 4000000 in
theorem z_C_numberOf_23 {κ : zx_K} {ad : Nat → Nat} {r : Int32} {G1 : zx_G} (h : zx_C M_C_numberOf κ ad) (hE : zx_E M_C_numberOf κ ad r G1) (G : zx_G) (hf : f_C_numberOf_23 G = some (r, G1)) : zx_Z κ ad 23 [] [] G := by
  unfold f_C_numberOf_23 at hf
  refine zr_iconst (v := (-1 : Int32)) h d_C_numberOf_23 rfl (by decide) ?_
  exact zr_iret h hE d_C_numberOf_24 rfl hf
set_option maxRecDepth 100000 in
set_option maxHeartbeats 4000000 in
theorem z_C_numberOf_0 {κ : zx_K} {ad : Nat → Nat} {r : Int32} {G1 : zx_G} (h : zx_C M_C_numberOf κ ad) (hE : zx_E M_C_numberOf κ ad r G1) (x1 x2 : Int32) (G : zx_G) (hf : f_C_numberOf x1 x2 G = some (r, G1)) : zx_Z κ ad 0 [(0, .ref (ad 14)), (1, .int x1), (2, .int x2)] [] G := by
  unfold f_C_numberOf at hf
  refine zr_iload_n h d_C_numberOf_0 rfl rfl 1 rfl ?_
  rcases zx_if_some hf with ⟨hc_1, hf⟩ | ⟨hc_1, hf⟩
  · refine zr_if_lt_t (tgt := 23) h d_C_numberOf_1 rfl hc_1 ?_
    refine zr_sub [] rfl ?_
    exact z_C_numberOf_23 h hE G hf
  · refine zr_if_lt_f h 23 d_C_numberOf_1 rfl rfl hc_1 ?_
    refine zr_iload_n h d_C_numberOf_4 rfl rfl 1 rfl ?_
    refine zr_bipush (v := (19 : Int32)) h d_C_numberOf_5 rfl (by decide) ?_
    rcases zx_if_some hf with ⟨hc_2, hf⟩ | ⟨hc_2, hf⟩
    · refine zr_icmp_ge_t (tgt := 23) h d_C_numberOf_7 rfl hc_2 ?_
      refine zr_sub [] rfl ?_
      exact z_C_numberOf_23 h hE G hf
    · refine zr_icmp_ge_f h 23 d_C_numberOf_7 rfl rfl hc_2 ?_
      refine zr_iload_n h d_C_numberOf_10 rfl rfl 2 rfl ?_
      rcases zx_if_some hf with ⟨hc_3, hf⟩ | ⟨hc_3, hf⟩
      · refine zr_if_lt_t (tgt := 23) h d_C_numberOf_11 rfl hc_3 ?_
        refine zr_sub [] rfl ?_
        exact z_C_numberOf_23 h hE G hf
      · refine zr_if_lt_f h 23 d_C_numberOf_11 rfl rfl hc_3 ?_
        refine zr_iload_n h d_C_numberOf_14 rfl rfl 2 rfl ?_
        refine zr_gets0 h d_C_numberOf_15 rfl sl_C_48 ?_
        refine zr_iload_n h d_C_numberOf_18 rfl rfl 1 rfl ?_
        obtain ⟨hb_4, hf⟩ := zx_gd_some hf
        refine zr_tald0 h d_C_numberOf_19 rfl hb_4 ?_
        rcases zx_if_some hf with ⟨hc_5, hf⟩ | ⟨hc_5, hf⟩
        · refine zr_icmp_lt_t (tgt := 25) h d_C_numberOf_20 rfl hc_5 ?_
          refine zr_aload_n h d_C_numberOf_25 rfl rfl 0 rfl ?_
          refine zr_getR h d_C_numberOf_26 rfl fl_C_9 sh_14 rfl ?_
          refine zr_iload_n h d_C_numberOf_29 rfl rfl 1 rfl ?_
          refine zr_bipush (v := (16 : Int32)) h d_C_numberOf_30 rfl (by decide) ?_
          refine zr_imul h d_C_numberOf_32 rfl ?_
          refine zr_iload_n h d_C_numberOf_33 rfl rfl 2 rfl ?_
          refine zr_iadd h d_C_numberOf_34 rfl ?_
          obtain ⟨hb_6, hf⟩ := zx_gd_some hf
          refine zr_iald h d_C_numberOf_35 rfl sh_15 hb_6 ?_
          exact zr_iret h hE d_C_numberOf_36 rfl hf
        · refine zr_icmp_lt_f h 25 d_C_numberOf_20 rfl rfl hc_5 ?_
          refine zr_sub [] rfl ?_
          exact z_C_numberOf_23 h hE G hf
theorem c_C_numberOf (l : Launch) (D : va_G) (cA : ClassId) (ad : Nat → Nat) (A : Nat → Prop) (x1 x2 : Int32) (G : zx_G) (r : Int32) (G1 : zx_G) (hf : f_C_numberOf x1 x2 G = some (r, G1)) : zx_met l y_C_numberOf M_C_numberOf [.ref (ad 14), .int x1, .int x2] D cA ad A G r G1 :=
  zx_toMet (by decide) rfl (Nat.le_of_ble_eq_true rfl) (fun κ h hE => by exact z_C_numberOf_0 h hE x1 x2 G hf)

def f_S_table_20 (s0 : Int32) (G : zx_G) : Option (Int32 × zx_G) :=
  some (s0, G)
def f_S_table (x1 x2 : Int32) (G : zx_G) : Option (Int32 × zx_G) :=
  zx_if ((G 0 9) = 0)
    (f_S_table_20 (-1 : Int32) G)
    (zx_bd (f_C_numberOf x1 x2 G) fun r_3 G_2 =>
    f_S_table_20 r_3 G_2)
set_option maxRecDepth 100000 in
set_option maxHeartbeats 4000000 in
theorem z_S_table_20 {κ : zx_K} {ad : Nat → Nat} {r : Int32} {G1 : zx_G} (h : zx_C M_S_table κ ad) (hE : zx_E M_S_table κ ad r G1) (s0 : Int32) (G : zx_G) (hf : f_S_table_20 s0 G = some (r, G1)) : zx_Z κ ad 20 [] [.int s0] G := by
  unfold f_S_table_20 at hf
  exact zr_iret h hE d_S_table_20 rfl hf
set_option maxRecDepth 100000 in
set_option maxHeartbeats 4000000 in
theorem z_S_table_0 {κ : zx_K} {ad : Nat → Nat} {r : Int32} {G1 : zx_G} (h : zx_C M_S_table κ ad) (hE : zx_E M_S_table κ ad r G1) (x1 x2 : Int32) (G : zx_G) (hf : f_S_table x1 x2 G = some (r, G1)) : zx_Z κ ad 0 [(0, .ref (ad 0)), (1, .int x1), (2, .int x2)] [] G := by
  unfold f_S_table at hf
  refine zr_aload_n h d_S_table_0 rfl rfl 0 rfl ?_
  refine zr_getI h d_S_table_1 rfl fl_S_79 sh_0 rfl ?_
  rcases zx_if_some hf with ⟨hc_1, hf⟩ | ⟨hc_1, hf⟩
  · refine zr_if_eq_t (tgt := 19) h d_S_table_4 rfl hc_1 ?_
    refine zr_iconst (v := (-1 : Int32)) h d_S_table_19 rfl (by decide) ?_
    refine zr_sub [] rfl ?_
    exact z_S_table_20 h hE (-1 : Int32) G hf
  · refine zr_if_eq_f h 19 d_S_table_4 rfl rfl hc_1 ?_
    refine zr_aload_n h d_S_table_7 rfl rfl 0 rfl ?_
    refine zr_getR h d_S_table_8 rfl fl_S_46 sh_0 rfl ?_
    refine zr_iload_n h d_S_table_11 rfl rfl 1 rfl ?_
    refine zr_iload_n h d_S_table_12 rfl rfl 2 rfl ?_
    obtain ⟨r_3, G_2, hq_4, hf⟩ := zx_bd_some hf
    refine zr_callVI (As := [.int x1, .int x2]) (b := 14) h (c_C_numberOf _ _ _ _ _ x1 x2 G r_3 G_2 hq_4) cc_S_140 d_S_table_13 rfl rfl rfl sh_14 ⟨rfl, rfl, by decide, by decide⟩ (Nat.le_of_ble_eq_true rfl) ?_
    refine zr_goto (tgt := 20) h d_S_table_16 rfl ?_
    refine zr_sub [] rfl ?_
    exact z_S_table_20 h hE r_3 G_2 hf
theorem c_S_table (l : Launch) (D : va_G) (cA : ClassId) (ad : Nat → Nat) (A : Nat → Prop) (x1 x2 : Int32) (G : zx_G) (r : Int32) (G1 : zx_G) (hf : f_S_table x1 x2 G = some (r, G1)) : zx_met l y_S_table M_S_table [.ref (ad 0), .int x1, .int x2] D cA ad A G r G1 :=
  zx_toMet (by decide) rfl (Nat.le_of_ble_eq_true rfl) (fun κ h hE => by exact z_S_table_0 h hE x1 x2 G hf)

def f_M_add_21 (G : zx_G) : Option (Int32 × zx_G) :=
  zx_gd (zx_01 (0 : Int32)) <| some ((0 : Int32), G)
def f_M_add (x1 : Int32) (G : zx_G) : Option (Int32 × zx_G) :=
  zx_if (x1 < 0)
    (f_M_add_21 G)
    (zx_if ((255 : Int32) < x1)
      (f_M_add_21 G)
      (zx_if ((G 32 0) < (240 : Int32))
        (zx_gd (zx_in (G 32 0) 240) <|
        zx_lt (zx_up G 33 (Int32.toNatClampNeg (G 32 0)) x1) fun G_5 =>
        zx_lt (zx_up G_5 32 0 ((G_5 32 0) + (1 : Int32))) fun G_6 =>
        zx_gd (zx_01 (1 : Int32)) <| some ((1 : Int32), G_6))
        (f_M_add_21 G)))
set_option maxRecDepth 100000 in
set_option maxHeartbeats 4000000 in
theorem z_M_add_21 {κ : zx_K} {ad : Nat → Nat} {r : Int32} {G1 : zx_G} (h : zx_C M_M_add κ ad) (hE : zx_E M_M_add κ ad r G1) (G : zx_G) (hf : f_M_add_21 G = some (r, G1)) : zx_Z κ ad 21 [] [] G := by
  unfold f_M_add_21 at hf
  refine zr_iconst (v := (0 : Int32)) h d_M_add_21 rfl (by decide) ?_
  obtain ⟨hb_1, hf⟩ := zx_gd_some hf
  exact zr_zret h hE d_M_add_22 rfl hb_1 hf
set_option maxRecDepth 100000 in
set_option maxHeartbeats 4000000 in
theorem z_M_add_0 {κ : zx_K} {ad : Nat → Nat} {r : Int32} {G1 : zx_G} (h : zx_C M_M_add κ ad) (hE : zx_E M_M_add κ ad r G1) (x1 : Int32) (G : zx_G) (hf : f_M_add x1 G = some (r, G1)) : zx_Z κ ad 0 [(0, .ref (ad 32)), (1, .int x1)] [] G := by
  unfold f_M_add at hf
  refine zr_iload_n h d_M_add_0 rfl rfl 1 rfl ?_
  rcases zx_if_some hf with ⟨hc_1, hf⟩ | ⟨hc_1, hf⟩
  · refine zr_if_lt_t (tgt := 21) h d_M_add_1 rfl hc_1 ?_
    refine zr_sub [] rfl ?_
    exact z_M_add_21 h hE G hf
  · refine zr_if_lt_f h 21 d_M_add_1 rfl rfl hc_1 ?_
    refine zr_iload_n h d_M_add_4 rfl rfl 1 rfl ?_
    refine zr_sipush (v := (255 : Int32)) h d_M_add_5 rfl (by decide) ?_
    rcases zx_if_some hf with ⟨hc_2, hf⟩ | ⟨hc_2, hf⟩
    · refine zr_icmp_gt_t (tgt := 21) h d_M_add_8 rfl hc_2 ?_
      refine zr_sub [] rfl ?_
      exact z_M_add_21 h hE G hf
    · refine zr_icmp_gt_f h 21 d_M_add_8 rfl rfl hc_2 ?_
      refine zr_aload_n h d_M_add_11 rfl rfl 0 rfl ?_
      refine zr_getI h d_M_add_12 rfl fl_M_70 sh_32 rfl ?_
      refine zr_sipush (v := (240 : Int32)) h d_M_add_15 rfl (by decide) ?_
      rcases zx_if_some hf with ⟨hc_3, hf⟩ | ⟨hc_3, hf⟩
      · refine zr_icmp_lt_t (tgt := 23) h d_M_add_18 rfl hc_3 ?_
        refine zr_aload_n h d_M_add_23 rfl rfl 0 rfl ?_
        refine zr_getR h d_M_add_24 rfl fl_M_7 sh_32 rfl ?_
        refine zr_aload_n h d_M_add_27 rfl rfl 0 rfl ?_
        refine zr_getI h d_M_add_28 rfl fl_M_70 sh_32 rfl ?_
        refine zr_iload_n h d_M_add_31 rfl rfl 1 rfl ?_
        obtain ⟨hb_4, hf⟩ := zx_gd_some hf
        obtain ⟨G_5, eG_5, hf⟩ := zx_lt_some hf
        refine zr_iast h d_M_add_32 rfl sh_33 hb_4 eG_5 ?_
        refine zr_aload_n h d_M_add_33 rfl rfl 0 rfl ?_
        refine zr_dup h d_M_add_34 rfl rfl ?_
        refine zr_getI h d_M_add_35 rfl fl_M_70 sh_32 rfl ?_
        refine zr_iconst (v := (1 : Int32)) h d_M_add_38 rfl (by decide) ?_
        refine zr_iadd h d_M_add_39 rfl ?_
        obtain ⟨G_6, eG_6, hf⟩ := zx_lt_some hf
        refine zr_putI h d_M_add_40 rfl fl_M_70 pl_M_0 sh_32 rfl rfl rfl eG_6 ?_
        refine zr_iconst (v := (1 : Int32)) h d_M_add_43 rfl (by decide) ?_
        obtain ⟨hb_7, hf⟩ := zx_gd_some hf
        exact zr_zret h hE d_M_add_44 rfl hb_7 hf
      · refine zr_icmp_lt_f h 23 d_M_add_18 rfl rfl hc_3 ?_
        refine zr_sub [] rfl ?_
        exact z_M_add_21 h hE G hf
theorem c_M_add (l : Launch) (D : va_G) (cA : ClassId) (ad : Nat → Nat) (A : Nat → Prop) (x1 : Int32) (G : zx_G) (r : Int32) (G1 : zx_G) (hf : f_M_add x1 G = some (r, G1)) : zx_met l y_M_add M_M_add [.ref (ad 32), .int x1] D cA ad A G r G1 :=
  zx_toMet (by decide) rfl (Nat.le_of_ble_eq_true rfl) (fun κ h hE => by exact z_M_add_0 h hE x1 G hf)

def f_M_word_15 : Nat → Int32 → Int32 → zx_G → Option (Int32 × zx_G)
  | 0, _, _, _ => none
  | n + 1, x1, x2, G =>
    zx_if (x2 < 0)
      (zx_gd (zx_01 (1 : Int32)) <| some ((1 : Int32), G))
      (zx_bd (f_M_add ((x1 >>> (x2 &&& 31)) &&& (255 : Int32)) G) fun r_4 G_3 =>
      zx_lt (x2 - (8 : Int32)) fun x2_6 =>
      f_M_word_15 n x1 x2_6 G_3)
def f_M_word (x1 : Int32) (G : zx_G) : Option (Int32 × zx_G) :=
  zx_if ((G 32 0) ≤ (236 : Int32))
    (zx_lt (24 : Int32) fun x2_2 =>
    f_M_word_15 2048 x1 x2_2 G)
    (zx_gd (zx_01 (0 : Int32)) <| some ((0 : Int32), G))
set_option maxRecDepth 100000 in
set_option maxHeartbeats 4000000 in
theorem z_M_word_15 {κ : zx_K} {ad : Nat → Nat} {r : Int32} {G1 : zx_G} (h : zx_C M_M_word κ ad) (hE : zx_E M_M_word κ ad r G1) : ∀ (n : Nat) (x1 x2 : Int32) (G : zx_G), f_M_word_15 n x1 x2 G = some (r, G1) → zx_Z κ ad 15 [(0, .ref (ad 32)), (1, .int x1), (2, .int x2)] [] G := by
  intro n
  induction n with
  | zero => intro x1 x2 G hf; cases hf
  | succ n ih =>
    intro x1 x2 G hf
    unfold f_M_word_15 at hf
    refine zr_iload_n h d_M_word_15 rfl rfl 2 rfl ?_
    rcases zx_if_some hf with ⟨hc_1, hf⟩ | ⟨hc_1, hf⟩
    · refine zr_if_lt_t (tgt := 39) h d_M_word_16 rfl hc_1 ?_
      refine zr_iconst (v := (1 : Int32)) h d_M_word_39 rfl (by decide) ?_
      obtain ⟨hb_2, hf⟩ := zx_gd_some hf
      exact zr_zret h hE d_M_word_40 rfl hb_2 hf
    · refine zr_if_lt_f h 39 d_M_word_16 rfl rfl hc_1 ?_
      refine zr_aload_n h d_M_word_19 rfl rfl 0 rfl ?_
      refine zr_iload_n h d_M_word_20 rfl rfl 1 rfl ?_
      refine zr_iload_n h d_M_word_21 rfl rfl 2 rfl ?_
      refine zr_ishr h d_M_word_22 rfl ?_
      refine zr_sipush (v := (255 : Int32)) h d_M_word_23 rfl (by decide) ?_
      refine zr_iand h d_M_word_26 rfl ?_
      obtain ⟨r_4, G_3, hq_5, hf⟩ := zx_bd_some hf
      refine zr_callVI (As := [.int ((x1 >>> (x2 &&& 31)) &&& (255 : Int32))]) (b := 32) h (c_M_add _ _ _ _ _ ((x1 >>> (x2 &&& 31)) &&& (255 : Int32)) G r_4 G_3 hq_5) cc_M_74 d_M_word_27 rfl rfl rfl sh_32 ⟨rfl, rfl, by decide, by decide⟩ (Nat.le_of_ble_eq_true rfl) ?_
      refine zr_pop h d_M_word_30 rfl rfl ?_
      refine zr_iload_n h d_M_word_31 rfl rfl 2 rfl ?_
      refine zr_bipush (v := (8 : Int32)) h d_M_word_32 rfl (by decide) ?_
      refine zr_isub h d_M_word_34 rfl ?_
      obtain ⟨x2_6, ex2_6, hf⟩ := zx_lt_some hf
      refine zr_istore_n h d_M_word_35 rfl rfl (by decide) ex2_6 rfl ?_
      refine zr_goto (tgt := 15) h d_M_word_36 rfl ?_
      refine zr_sub [1, 2, 0] rfl ?_
      exact ih x1 x2_6 G_3 hf
set_option maxRecDepth 100000 in
set_option maxHeartbeats 4000000 in
theorem z_M_word_0 {κ : zx_K} {ad : Nat → Nat} {r : Int32} {G1 : zx_G} (h : zx_C M_M_word κ ad) (hE : zx_E M_M_word κ ad r G1) (x1 : Int32) (G : zx_G) (hf : f_M_word x1 G = some (r, G1)) : zx_Z κ ad 0 [(0, .ref (ad 32)), (1, .int x1)] [] G := by
  unfold f_M_word at hf
  refine zr_aload_n h d_M_word_0 rfl rfl 0 rfl ?_
  refine zr_getI h d_M_word_1 rfl fl_M_70 sh_32 rfl ?_
  refine zr_sipush (v := (236 : Int32)) h d_M_word_4 rfl (by decide) ?_
  rcases zx_if_some hf with ⟨hc_1, hf⟩ | ⟨hc_1, hf⟩
  · refine zr_icmp_le_t (tgt := 12) h d_M_word_7 rfl hc_1 ?_
    refine zr_bipush (v := (24 : Int32)) h d_M_word_12 rfl (by decide) ?_
    obtain ⟨x2_2, ex2_2, hf⟩ := zx_lt_some hf
    refine zr_istore_n h d_M_word_14 rfl rfl (by decide) ex2_2 rfl ?_
    refine zr_sub [1, 2, 0] rfl ?_
    exact z_M_word_15 h hE 2048 x1 x2_2 G hf
  · refine zr_icmp_le_f h 12 d_M_word_7 rfl rfl hc_1 ?_
    refine zr_iconst (v := (0 : Int32)) h d_M_word_10 rfl (by decide) ?_
    obtain ⟨hb_3, hf⟩ := zx_gd_some hf
    exact zr_zret h hE d_M_word_11 rfl hb_3 hf
theorem c_M_word (l : Launch) (D : va_G) (cA : ClassId) (ad : Nat → Nat) (A : Nat → Prop) (x1 : Int32) (G : zx_G) (r : Int32) (G1 : zx_G) (hf : f_M_word x1 G = some (r, G1)) : zx_met l y_M_word M_M_word [.ref (ad 32), .int x1] D cA ad A G r G1 :=
  zx_toMet (by decide) rfl (Nat.le_of_ble_eq_true rfl) (fun κ h hE => by exact z_M_word_0 h hE x1 G hf)

def f_M_patch_23 (G : zx_G) : Option (Int32 × zx_G) :=
  some ((-1 : Int32), G)
def f_M_patch (x1 x2 : Int32) (G : zx_G) : Option (Int32 × zx_G) :=
  zx_if (x1 < 0)
    (f_M_patch_23 G)
    (zx_if ((G 32 0) ≤ x1)
      (f_M_patch_23 G)
      (zx_if (x2 < 0)
        (f_M_patch_23 G)
        (zx_if (x2 ≤ (255 : Int32))
          (zx_gd (zx_in x1 240) <|
          zx_lt (G 33 (Int32.toNatClampNeg x1)) fun x3_6 =>
          zx_gd (zx_in x1 240) <|
          zx_lt (zx_up G 33 (Int32.toNatClampNeg x1) x2) fun G_8 =>
          some (x3_6, G_8))
          (f_M_patch_23 G))))
set_option maxRecDepth 100000 in
set_option maxHeartbeats 4000000 in
theorem z_M_patch_23 {κ : zx_K} {ad : Nat → Nat} {r : Int32} {G1 : zx_G} (h : zx_C M_M_patch κ ad) (hE : zx_E M_M_patch κ ad r G1) (G : zx_G) (hf : f_M_patch_23 G = some (r, G1)) : zx_Z κ ad 23 [] [] G := by
  unfold f_M_patch_23 at hf
  refine zr_iconst (v := (-1 : Int32)) h d_M_patch_23 rfl (by decide) ?_
  exact zr_iret h hE d_M_patch_24 rfl hf
set_option maxRecDepth 100000 in
set_option maxHeartbeats 4000000 in
theorem z_M_patch_0 {κ : zx_K} {ad : Nat → Nat} {r : Int32} {G1 : zx_G} (h : zx_C M_M_patch κ ad) (hE : zx_E M_M_patch κ ad r G1) (x1 x2 : Int32) (G : zx_G) (hf : f_M_patch x1 x2 G = some (r, G1)) : zx_Z κ ad 0 [(0, .ref (ad 32)), (1, .int x1), (2, .int x2)] [] G := by
  unfold f_M_patch at hf
  refine zr_iload_n h d_M_patch_0 rfl rfl 1 rfl ?_
  rcases zx_if_some hf with ⟨hc_1, hf⟩ | ⟨hc_1, hf⟩
  · refine zr_if_lt_t (tgt := 23) h d_M_patch_1 rfl hc_1 ?_
    refine zr_sub [] rfl ?_
    exact z_M_patch_23 h hE G hf
  · refine zr_if_lt_f h 23 d_M_patch_1 rfl rfl hc_1 ?_
    refine zr_iload_n h d_M_patch_4 rfl rfl 1 rfl ?_
    refine zr_aload_n h d_M_patch_5 rfl rfl 0 rfl ?_
    refine zr_getI h d_M_patch_6 rfl fl_M_70 sh_32 rfl ?_
    rcases zx_if_some hf with ⟨hc_2, hf⟩ | ⟨hc_2, hf⟩
    · refine zr_icmp_ge_t (tgt := 23) h d_M_patch_9 rfl hc_2 ?_
      refine zr_sub [] rfl ?_
      exact z_M_patch_23 h hE G hf
    · refine zr_icmp_ge_f h 23 d_M_patch_9 rfl rfl hc_2 ?_
      refine zr_iload_n h d_M_patch_12 rfl rfl 2 rfl ?_
      rcases zx_if_some hf with ⟨hc_3, hf⟩ | ⟨hc_3, hf⟩
      · refine zr_if_lt_t (tgt := 23) h d_M_patch_13 rfl hc_3 ?_
        refine zr_sub [] rfl ?_
        exact z_M_patch_23 h hE G hf
      · refine zr_if_lt_f h 23 d_M_patch_13 rfl rfl hc_3 ?_
        refine zr_iload_n h d_M_patch_16 rfl rfl 2 rfl ?_
        refine zr_sipush (v := (255 : Int32)) h d_M_patch_17 rfl (by decide) ?_
        rcases zx_if_some hf with ⟨hc_4, hf⟩ | ⟨hc_4, hf⟩
        · refine zr_icmp_le_t (tgt := 25) h d_M_patch_20 rfl hc_4 ?_
          refine zr_aload_n h d_M_patch_25 rfl rfl 0 rfl ?_
          refine zr_getR h d_M_patch_26 rfl fl_M_7 sh_32 rfl ?_
          refine zr_iload_n h d_M_patch_29 rfl rfl 1 rfl ?_
          obtain ⟨hb_5, hf⟩ := zx_gd_some hf
          refine zr_iald h d_M_patch_30 rfl sh_33 hb_5 ?_
          obtain ⟨x3_6, ex3_6, hf⟩ := zx_lt_some hf
          refine zr_istore_n h d_M_patch_31 rfl rfl (by decide) ex3_6 rfl ?_
          refine zr_aload_n h d_M_patch_32 rfl rfl 1 rfl ?_
          refine zr_getR h d_M_patch_33 rfl fl_M_7 sh_32 rfl ?_
          refine zr_iload_n h d_M_patch_36 rfl rfl 2 rfl ?_
          refine zr_iload_n h d_M_patch_37 rfl rfl 3 rfl ?_
          obtain ⟨hb_7, hf⟩ := zx_gd_some hf
          obtain ⟨G_8, eG_8, hf⟩ := zx_lt_some hf
          refine zr_iast h d_M_patch_38 rfl sh_33 hb_7 eG_8 ?_
          refine zr_iload_n h d_M_patch_39 rfl rfl 0 rfl ?_
          exact zr_iret h hE d_M_patch_40 rfl hf
        · refine zr_icmp_le_f h 25 d_M_patch_20 rfl rfl hc_4 ?_
          refine zr_sub [] rfl ?_
          exact z_M_patch_23 h hE G hf
theorem c_M_patch (l : Launch) (D : va_G) (cA : ClassId) (ad : Nat → Nat) (A : Nat → Prop) (x1 x2 : Int32) (G : zx_G) (r : Int32) (G1 : zx_G) (hf : f_M_patch x1 x2 G = some (r, G1)) : zx_met l y_M_patch M_M_patch [.ref (ad 32), .int x1, .int x2] D cA ad A G r G1 :=
  zx_toMet (by decide) rfl (Nat.le_of_ble_eq_true rfl) (fun κ h hE => by exact z_M_patch_0 h hE x1 x2 G hf)

def f_M_clear (G : zx_G) : Option (Int32 × zx_G) :=
  zx_lt (zx_up G 32 0 (0 : Int32)) fun G_1 =>
  some ((0 : Int32), G_1)
set_option maxRecDepth 100000 in
set_option maxHeartbeats 4000000 in
theorem z_M_clear_0 {κ : zx_K} {ad : Nat → Nat} {r : Int32} {G1 : zx_G} (h : zx_C M_M_clear κ ad) (hE : zx_E M_M_clear κ ad r G1) (G : zx_G) (hf : f_M_clear G = some (r, G1)) : zx_Z κ ad 0 [(0, .ref (ad 32))] [] G := by
  unfold f_M_clear at hf
  refine zr_aload_n h d_M_clear_0 rfl rfl 0 rfl ?_
  refine zr_iconst (v := (0 : Int32)) h d_M_clear_1 rfl (by decide) ?_
  obtain ⟨G_1, eG_1, hf⟩ := zx_lt_some hf
  refine zr_putI h d_M_clear_2 rfl fl_M_70 pl_M_0 sh_32 rfl rfl rfl eG_1 ?_
  exact zr_vret h hE d_M_clear_5 rfl hf
theorem c_M_clear (l : Launch) (D : va_G) (cA : ClassId) (ad : Nat → Nat) (A : Nat → Prop) (G : zx_G) (r : Int32) (G1 : zx_G) (hf : f_M_clear G = some (r, G1)) : zx_met l y_M_clear M_M_clear [.ref (ad 32)] D cA ad A G r G1 :=
  zx_toMet (by decide) rfl (Nat.le_of_ble_eq_true rfl) (fun κ h hE => by exact z_M_clear_0 h hE G hf)

def f_M_size (G : zx_G) : Option (Int32 × zx_G) :=
  some ((G 32 0), G)
set_option maxRecDepth 100000 in
set_option maxHeartbeats 4000000 in
theorem z_M_size_0 {κ : zx_K} {ad : Nat → Nat} {r : Int32} {G1 : zx_G} (h : zx_C M_M_size κ ad) (hE : zx_E M_M_size κ ad r G1) (G : zx_G) (hf : f_M_size G = some (r, G1)) : zx_Z κ ad 0 [(0, .ref (ad 32))] [] G := by
  unfold f_M_size at hf
  refine zr_aload_n h d_M_size_0 rfl rfl 0 rfl ?_
  refine zr_getI h d_M_size_1 rfl fl_M_70 sh_32 rfl ?_
  exact zr_iret h hE d_M_size_4 rfl hf
theorem c_M_size (l : Launch) (D : va_G) (cA : ClassId) (ad : Nat → Nat) (A : Nat → Prop) (G : zx_G) (r : Int32) (G1 : zx_G) (hf : f_M_size G = some (r, G1)) : zx_met l y_M_size M_M_size [.ref (ad 32)] D cA ad A G r G1 :=
  zx_toMet (by decide) rfl (Nat.le_of_ble_eq_true rfl) (fun κ h hE => by exact z_M_size_0 h hE G hf)

def f_M_limited_21 (s0 : Int32) (G : zx_G) : Option (Int32 × zx_G) :=
  some (s0, G)
def f_M_limited (x0 x1 : Int32) (G : zx_G) : Option (Int32 × zx_G) :=
  zx_if ((-x1) ≤ x0)
    (zx_if (x0 ≤ x1)
      (f_M_limited_21 x0 G)
      (f_M_limited_21 x1 G))
    (f_M_limited_21 (-x1) G)
set_option maxRecDepth 100000 in
set_option maxHeartbeats 4000000 in
theorem z_M_limited_21 {κ : zx_K} {ad : Nat → Nat} {r : Int32} {G1 : zx_G} (h : zx_C M_M_limited κ ad) (hE : zx_E M_M_limited κ ad r G1) (s0 : Int32) (G : zx_G) (hf : f_M_limited_21 s0 G = some (r, G1)) : zx_Z κ ad 21 [] [.int s0] G := by
  unfold f_M_limited_21 at hf
  exact zr_iret h hE d_M_limited_21 rfl hf
set_option maxRecDepth 100000 in
set_option maxHeartbeats 4000000 in
theorem z_M_limited_0 {κ : zx_K} {ad : Nat → Nat} {r : Int32} {G1 : zx_G} (h : zx_C M_M_limited κ ad) (hE : zx_E M_M_limited κ ad r G1) (x0 x1 : Int32) (G : zx_G) (hf : f_M_limited x0 x1 G = some (r, G1)) : zx_Z κ ad 0 [(0, .int x0), (1, .int x1)] [] G := by
  unfold f_M_limited at hf
  refine zr_iload_n h d_M_limited_0 rfl rfl 0 rfl ?_
  refine zr_iload_n h d_M_limited_1 rfl rfl 1 rfl ?_
  refine zr_ineg h d_M_limited_2 rfl ?_
  rcases zx_if_some hf with ⟨hc_1, hf⟩ | ⟨hc_1, hf⟩
  · refine zr_icmp_ge_t (tgt := 11) h d_M_limited_3 rfl hc_1 ?_
    refine zr_iload_n h d_M_limited_11 rfl rfl 0 rfl ?_
    refine zr_iload_n h d_M_limited_12 rfl rfl 1 rfl ?_
    rcases zx_if_some hf with ⟨hc_2, hf⟩ | ⟨hc_2, hf⟩
    · refine zr_icmp_le_t (tgt := 20) h d_M_limited_13 rfl hc_2 ?_
      refine zr_iload_n h d_M_limited_20 rfl rfl 0 rfl ?_
      refine zr_sub [] rfl ?_
      exact z_M_limited_21 h hE x0 G hf
    · refine zr_icmp_le_f h 20 d_M_limited_13 rfl rfl hc_2 ?_
      refine zr_iload_n h d_M_limited_16 rfl rfl 1 rfl ?_
      refine zr_goto (tgt := 21) h d_M_limited_17 rfl ?_
      refine zr_sub [] rfl ?_
      exact z_M_limited_21 h hE x1 G hf
  · refine zr_icmp_ge_f h 11 d_M_limited_3 rfl rfl hc_1 ?_
    refine zr_iload_n h d_M_limited_6 rfl rfl 1 rfl ?_
    refine zr_ineg h d_M_limited_7 rfl ?_
    refine zr_goto (tgt := 21) h d_M_limited_8 rfl ?_
    refine zr_sub [] rfl ?_
    exact z_M_limited_21 h hE (-x1) G hf
theorem c_M_limited (l : Launch) (D : va_G) (cA : ClassId) (ad : Nat → Nat) (A : Nat → Prop) (x0 x1 : Int32) (G : zx_G) (r : Int32) (G1 : zx_G) (hf : f_M_limited x0 x1 G = some (r, G1)) : zx_met l y_M_limited M_M_limited [.int x0, .int x1] D cA ad A G r G1 :=
  zx_toMet (by decide) rfl (Nat.le_of_ble_eq_true rfl) (fun κ h hE => by exact z_M_limited_0 h hE x0 x1 G hf)

def f_M_far_14 (s0 : Int32) (G : zx_G) : Option (Int32 × zx_G) :=
  some (s0, G)
def f_M_far (x0 x1 : Int32) (G : zx_G) : Option (Int32 × zx_G) :=
  zx_if (x1 ≤ x0)
    (f_M_far_14 (x0 - x1) G)
    (f_M_far_14 (x1 - x0) G)
set_option maxRecDepth 100000 in
set_option maxHeartbeats 4000000 in
theorem z_M_far_14 {κ : zx_K} {ad : Nat → Nat} {r : Int32} {G1 : zx_G} (h : zx_C M_M_far κ ad) (hE : zx_E M_M_far κ ad r G1) (s0 : Int32) (G : zx_G) (hf : f_M_far_14 s0 G = some (r, G1)) : zx_Z κ ad 14 [] [.int s0] G := by
  unfold f_M_far_14 at hf
  exact zr_iret h hE d_M_far_14 rfl hf
set_option maxRecDepth 100000 in
set_option maxHeartbeats 4000000 in
theorem z_M_far_0 {κ : zx_K} {ad : Nat → Nat} {r : Int32} {G1 : zx_G} (h : zx_C M_M_far κ ad) (hE : zx_E M_M_far κ ad r G1) (x0 x1 : Int32) (G : zx_G) (hf : f_M_far x0 x1 G = some (r, G1)) : zx_Z κ ad 0 [(0, .int x0), (1, .int x1)] [] G := by
  unfold f_M_far at hf
  refine zr_iload_n h d_M_far_0 rfl rfl 0 rfl ?_
  refine zr_iload_n h d_M_far_1 rfl rfl 1 rfl ?_
  rcases zx_if_some hf with ⟨hc_1, hf⟩ | ⟨hc_1, hf⟩
  · refine zr_icmp_ge_t (tgt := 11) h d_M_far_2 rfl hc_1 ?_
    refine zr_iload_n h d_M_far_11 rfl rfl 0 rfl ?_
    refine zr_iload_n h d_M_far_12 rfl rfl 1 rfl ?_
    refine zr_isub h d_M_far_13 rfl ?_
    refine zr_sub [] rfl ?_
    exact z_M_far_14 h hE (x0 - x1) G hf
  · refine zr_icmp_ge_f h 11 d_M_far_2 rfl rfl hc_1 ?_
    refine zr_iload_n h d_M_far_5 rfl rfl 1 rfl ?_
    refine zr_iload_n h d_M_far_6 rfl rfl 0 rfl ?_
    refine zr_isub h d_M_far_7 rfl ?_
    refine zr_goto (tgt := 14) h d_M_far_8 rfl ?_
    refine zr_sub [] rfl ?_
    exact z_M_far_14 h hE (x1 - x0) G hf
theorem c_M_far (l : Launch) (D : va_G) (cA : ClassId) (ad : Nat → Nat) (A : Nat → Prop) (x0 x1 : Int32) (G : zx_G) (r : Int32) (G1 : zx_G) (hf : f_M_far x0 x1 G = some (r, G1)) : zx_met l y_M_far M_M_far [.int x0, .int x1] D cA ad A G r G1 :=
  zx_toMet (by decide) rfl (Nat.le_of_ble_eq_true rfl) (fun κ h hE => by exact z_M_far_0 h hE x0 x1 G hf)

def f_M_pull_44 (s0 s1 : Int32) (G : zx_G) : Option (Int32 × zx_G) :=
  zx_bd (f_M_limited s0 s1 G) fun r_2 G_1 =>
  some (r_2, G_1)
def f_M_pull_21 (x1 s0 : Int32) (G : zx_G) : Option (Int32 × zx_G) :=
  zx_lt s0 fun x2_1 =>
  zx_bd (f_M_far x1 (0 : Int32) G) fun r_3 G_2 =>
  zx_lt (((4 : Int32) * x2_1) - (r_3 >>> ((1 : Int32) &&& 31))) fun x3_5 =>
  zx_if (0 ≤ x3_5)
    (f_M_pull_44 x1 x3_5 G_2)
    (f_M_pull_44 x1 (0 : Int32) G_2)
def f_M_pull (x1 : Int32) (G : zx_G) : Option (Int32 × zx_G) :=
  zx_if (¬ (G 32 17) = (1 : Int32))
    (f_M_pull_21 x1 (G 32 24) G)
    (f_M_pull_21 x1 ((4 : Int32) * (G 32 24)) G)
set_option maxRecDepth 100000 in
set_option maxHeartbeats 4000000 in
theorem z_M_pull_44 {κ : zx_K} {ad : Nat → Nat} {r : Int32} {G1 : zx_G} (h : zx_C M_M_pull κ ad) (hE : zx_E M_M_pull κ ad r G1) (s0 s1 : Int32) (G : zx_G) (hf : f_M_pull_44 s0 s1 G = some (r, G1)) : zx_Z κ ad 44 [] [.int s1, .int s0] G := by
  unfold f_M_pull_44 at hf
  obtain ⟨r_2, G_1, hq_3, hf⟩ := zx_bd_some hf
  refine zr_callSI (As := [.int s0, .int s1]) h (c_M_limited _ _ _ _ _ s0 s1 G r_2 G_1 hq_3) cc_M_260 d_M_pull_44 rfl rfl rfl ⟨rfl, by decide, by decide⟩ (Nat.le_of_ble_eq_true rfl) ?_
  exact zr_iret h hE d_M_pull_47 rfl hf
set_option maxRecDepth 100000 in
set_option maxHeartbeats 4000000 in
theorem z_M_pull_21 {κ : zx_K} {ad : Nat → Nat} {r : Int32} {G1 : zx_G} (h : zx_C M_M_pull κ ad) (hE : zx_E M_M_pull κ ad r G1) (x1 s0 : Int32) (G : zx_G) (hf : f_M_pull_21 x1 s0 G = some (r, G1)) : zx_Z κ ad 21 [(1, .int x1)] [.int s0] G := by
  unfold f_M_pull_21 at hf
  obtain ⟨x2_1, ex2_1, hf⟩ := zx_lt_some hf
  refine zr_istore_n h d_M_pull_21 rfl rfl (by decide) ex2_1 rfl ?_
  refine zr_iconst (v := (4 : Int32)) h d_M_pull_22 rfl (by decide) ?_
  refine zr_iload_n h d_M_pull_23 rfl rfl 0 rfl ?_
  refine zr_imul h d_M_pull_24 rfl ?_
  refine zr_iload_n h d_M_pull_25 rfl rfl 1 rfl ?_
  refine zr_iconst (v := (0 : Int32)) h d_M_pull_26 rfl (by decide) ?_
  obtain ⟨r_3, G_2, hq_4, hf⟩ := zx_bd_some hf
  refine zr_callSI (As := [.int x1, .int (0 : Int32)]) h (c_M_far _ _ _ _ _ x1 (0 : Int32) G r_3 G_2 hq_4) cc_M_251 d_M_pull_27 rfl rfl rfl ⟨rfl, by decide, by decide⟩ (Nat.le_of_ble_eq_true rfl) ?_
  refine zr_iconst (v := (1 : Int32)) h d_M_pull_30 rfl (by decide) ?_
  refine zr_ishr h d_M_pull_31 rfl ?_
  refine zr_isub h d_M_pull_32 rfl ?_
  obtain ⟨x3_5, ex3_5, hf⟩ := zx_lt_some hf
  refine zr_istore_n h d_M_pull_33 rfl rfl (by decide) ex3_5 rfl ?_
  refine zr_iload_n h d_M_pull_34 rfl rfl 2 rfl ?_
  refine zr_iload_n h d_M_pull_35 rfl rfl 0 rfl ?_
  rcases zx_if_some hf with ⟨hc_6, hf⟩ | ⟨hc_6, hf⟩
  · refine zr_if_ge_t (tgt := 43) h d_M_pull_36 rfl hc_6 ?_
    refine zr_iload_n h d_M_pull_43 rfl rfl 0 rfl ?_
    refine zr_sub [] rfl ?_
    exact z_M_pull_44 h hE x1 x3_5 G_2 hf
  · refine zr_if_ge_f h 43 d_M_pull_36 rfl rfl hc_6 ?_
    refine zr_iconst (v := (0 : Int32)) h d_M_pull_39 rfl (by decide) ?_
    refine zr_goto (tgt := 44) h d_M_pull_40 rfl ?_
    refine zr_sub [] rfl ?_
    exact z_M_pull_44 h hE x1 (0 : Int32) G_2 hf
set_option maxRecDepth 100000 in
set_option maxHeartbeats 4000000 in
theorem z_M_pull_0 {κ : zx_K} {ad : Nat → Nat} {r : Int32} {G1 : zx_G} (h : zx_C M_M_pull κ ad) (hE : zx_E M_M_pull κ ad r G1) (x1 : Int32) (G : zx_G) (hf : f_M_pull x1 G = some (r, G1)) : zx_Z κ ad 0 [(0, .ref (ad 32)), (1, .int x1)] [] G := by
  unfold f_M_pull at hf
  refine zr_aload_n h d_M_pull_0 rfl rfl 0 rfl ?_
  refine zr_getI h d_M_pull_1 rfl fl_M_168 sh_32 rfl ?_
  refine zr_iconst (v := (1 : Int32)) h d_M_pull_4 rfl (by decide) ?_
  rcases zx_if_some hf with ⟨hc_1, hf⟩ | ⟨hc_1, hf⟩
  · refine zr_icmp_ne_t (tgt := 17) h d_M_pull_5 rfl hc_1 ?_
    refine zr_aload_n h d_M_pull_17 rfl rfl 0 rfl ?_
    refine zr_getI h d_M_pull_18 rfl fl_M_192 sh_32 rfl ?_
    refine zr_sub [1] rfl ?_
    exact z_M_pull_21 h hE x1 (G 32 24) G hf
  · refine zr_icmp_ne_f h 17 d_M_pull_5 rfl rfl hc_1 ?_
    refine zr_iconst (v := (4 : Int32)) h d_M_pull_8 rfl (by decide) ?_
    refine zr_aload_n h d_M_pull_9 rfl rfl 0 rfl ?_
    refine zr_getI h d_M_pull_10 rfl fl_M_192 sh_32 rfl ?_
    refine zr_imul h d_M_pull_13 rfl ?_
    refine zr_goto (tgt := 21) h d_M_pull_14 rfl ?_
    refine zr_sub [1] rfl ?_
    exact z_M_pull_21 h hE x1 ((4 : Int32) * (G 32 24)) G hf
theorem c_M_pull (l : Launch) (D : va_G) (cA : ClassId) (ad : Nat → Nat) (A : Nat → Prop) (x1 : Int32) (G : zx_G) (r : Int32) (G1 : zx_G) (hf : f_M_pull x1 G = some (r, G1)) : zx_met l y_M_pull M_M_pull [.ref (ad 32), .int x1] D cA ad A G r G1 :=
  zx_toMet (by decide) rfl (Nat.le_of_ble_eq_true rfl) (fun κ h hE => by exact z_M_pull_0 h hE x1 G hf)

def f_M_soften_202 (k31 : Int32 → Int32 → zx_G → Option (Int32 × zx_G)) (k41 : Int32 → Int32 → Int32 → zx_G → Option (Int32 × zx_G)) (x1 x2 x3 x4 s0 s1 : Int32) (G : zx_G) : Option (Int32 × zx_G) :=
  zx_lt (s0 + s1) fun x5_1 =>
  zx_gd (zx_in ((x1 + ((16 : Int32) * x2)) + x3) 768) <|
  zx_lt (zx_up G 42 (Int32.toNatClampNeg ((x1 + ((16 : Int32) * x2)) + x3)) (x4 + ((x5_1 + (2 : Int32)) >>> ((2 : Int32) &&& 31)))) fun G_3 =>
  zx_lt (x3 + (1 : Int32)) fun x3_4 =>
  k41 x1 x2 x3_4 G_3
def f_M_soften_162 (k31 : Int32 → Int32 → zx_G → Option (Int32 × zx_G)) (k41 : Int32 → Int32 → Int32 → zx_G → Option (Int32 × zx_G)) (x1 x2 x3 x4 s0 s1 : Int32) (G : zx_G) : Option (Int32 × zx_G) :=
  zx_lt (s0 + s1) fun x5_1 =>
  zx_if ((G 32 19) ≤ (x2 + (1 : Int32)))
    (f_M_soften_202 k31 k41 x1 x2 x3 x4 x5_1 (0 : Int32) G)
    (zx_gd (zx_in ((((16 : Int32) * x2) + x3) + (16 : Int32)) 256) <|
    zx_bd (f_M_pull ((G 43 (Int32.toNatClampNeg ((((16 : Int32) * x2) + x3) + (16 : Int32)))) - x4) G) fun r_5 G_4 =>
    f_M_soften_202 k31 k41 x1 x2 x3 x4 x5_1 r_5 G_4)
def f_M_soften_128 (k31 : Int32 → Int32 → zx_G → Option (Int32 × zx_G)) (k41 : Int32 → Int32 → Int32 → zx_G → Option (Int32 × zx_G)) (x1 x2 x3 x4 s0 s1 : Int32) (G : zx_G) : Option (Int32 × zx_G) :=
  zx_lt (s0 + s1) fun x5_1 =>
  zx_if (x2 ≤ 0)
    (f_M_soften_162 k31 k41 x1 x2 x3 x4 x5_1 (0 : Int32) G)
    (zx_gd (zx_in ((((16 : Int32) * x2) + x3) - (16 : Int32)) 256) <|
    zx_bd (f_M_pull ((G 43 (Int32.toNatClampNeg ((((16 : Int32) * x2) + x3) - (16 : Int32)))) - x4) G) fun r_5 G_4 =>
    f_M_soften_162 k31 k41 x1 x2 x3 x4 x5_1 r_5 G_4)
def f_M_soften_90 (k31 : Int32 → Int32 → zx_G → Option (Int32 × zx_G)) (k41 : Int32 → Int32 → Int32 → zx_G → Option (Int32 × zx_G)) (x1 x2 x3 x4 s0 : Int32) (G : zx_G) : Option (Int32 × zx_G) :=
  zx_lt s0 fun x5_1 =>
  zx_if ((G 32 18) ≤ (x3 + (1 : Int32)))
    (f_M_soften_128 k31 k41 x1 x2 x3 x4 x5_1 (0 : Int32) G)
    (zx_gd (zx_in ((((16 : Int32) * x2) + x3) + (1 : Int32)) 256) <|
    zx_bd (f_M_pull ((G 43 (Int32.toNatClampNeg ((((16 : Int32) * x2) + x3) + (1 : Int32)))) - x4) G) fun r_5 G_4 =>
    f_M_soften_128 k31 k41 x1 x2 x3 x4 x5_1 r_5 G_4)
def f_M_soften_41 (k31 : Int32 → Int32 → zx_G → Option (Int32 × zx_G)) : Nat → Int32 → Int32 → Int32 → zx_G → Option (Int32 × zx_G)
  | 0, _, _, _, _ => none
  | n + 1, x1, x2, x3, G =>
    zx_if ((G 32 18) ≤ x3)
      (zx_lt (x2 + (1 : Int32)) fun x2_2 =>
      k31 x1 x2_2 G)
      (zx_gd (zx_in (((16 : Int32) * x2) + x3) 256) <|
      zx_lt (G 43 (Int32.toNatClampNeg (((16 : Int32) * x2) + x3))) fun x4_4 =>
      zx_if (x3 ≤ 0)
        (f_M_soften_90 k31 (f_M_soften_41 k31 n) x1 x2 x3 x4_4 (0 : Int32) G)
        (zx_gd (zx_in ((((16 : Int32) * x2) + x3) - (1 : Int32)) 256) <|
        zx_bd (f_M_pull ((G 43 (Int32.toNatClampNeg ((((16 : Int32) * x2) + x3) - (1 : Int32)))) - x4_4) G) fun r_8 G_7 =>
        f_M_soften_90 k31 (f_M_soften_41 k31 n) x1 x2 x3 x4_4 r_8 G_7))
def f_M_soften_31 : Nat → Int32 → Int32 → zx_G → Option (Int32 × zx_G)
  | 0, _, _, _ => none
  | n + 1, x1, x2, G =>
    zx_if ((G 32 19) ≤ x2)
      (some ((0 : Int32), G))
      (zx_lt (0 : Int32) fun x3_2 =>
      f_M_soften_41 (f_M_soften_31 n) 2048 x1 x2 x3_2 G)
def f_M_soften_2 : Nat → Int32 → Int32 → zx_G → Option (Int32 × zx_G)
  | 0, _, _, _ => none
  | n + 1, x1, x2, G =>
    zx_if ((256 : Int32) ≤ x2)
      (zx_lt (0 : Int32) fun x2_2 =>
      f_M_soften_31 2048 x1 x2_2 G)
      (zx_gd (zx_in (x1 + x2) 768) <|
      zx_gd (zx_in x2 256) <|
      zx_lt (zx_up G 43 (Int32.toNatClampNeg x2) (G 42 (Int32.toNatClampNeg (x1 + x2)))) fun G_5 =>
      zx_lt (x2 + (1 : Int32)) fun x2_6 =>
      f_M_soften_2 n x1 x2_6 G_5)
def f_M_soften (x1 : Int32) (G : zx_G) : Option (Int32 × zx_G) :=
  zx_lt (0 : Int32) fun x2_1 =>
  f_M_soften_2 2048 x1 x2_1 G
set_option maxRecDepth 100000 in
set_option maxHeartbeats 4000000 in
theorem z_M_soften_202 {κ : zx_K} {ad : Nat → Nat} {r : Int32} {G1 : zx_G} (h : zx_C M_M_soften κ ad) (hE : zx_E M_M_soften κ ad r G1) {k31 : Int32 → Int32 → zx_G → Option (Int32 × zx_G)} {k41 : Int32 → Int32 → Int32 → zx_G → Option (Int32 × zx_G)} (hk31 : ∀ (x1 x2 : Int32) (G : zx_G), k31 x1 x2 G = some (r, G1) → zx_Z κ ad 31 [(0, .ref (ad 32)), (1, .int x1), (2, .int x2)] [] G) (hk41 : ∀ (x1 x2 x3 : Int32) (G : zx_G), k41 x1 x2 x3 G = some (r, G1) → zx_Z κ ad 41 [(0, .ref (ad 32)), (1, .int x1), (2, .int x2), (3, .int x3)] [] G) (x1 x2 x3 x4 s0 s1 : Int32) (G : zx_G) (hf : f_M_soften_202 k31 k41 x1 x2 x3 x4 s0 s1 G = some (r, G1)) : zx_Z κ ad 202 [(0, .ref (ad 32)), (1, .int x1), (2, .int x2), (3, .int x3), (4, .int x4)] [.int s1, .int s0] G := by
  unfold f_M_soften_202 at hf
  refine zr_iadd h d_M_soften_202 rfl ?_
  obtain ⟨x5_1, ex5_1, hf⟩ := zx_lt_some hf
  refine zr_istore h d_M_soften_203 rfl (by decide) ex5_1 rfl ?_
  refine zr_aload_n h d_M_soften_205 rfl rfl 1 rfl ?_
  refine zr_getR h d_M_soften_206 rfl fl_M_37 sh_32 rfl ?_
  refine zr_iload_n h d_M_soften_209 rfl rfl 2 rfl ?_
  refine zr_bipush (v := (16 : Int32)) h d_M_soften_210 rfl (by decide) ?_
  refine zr_iload_n h d_M_soften_212 rfl rfl 3 rfl ?_
  refine zr_imul h d_M_soften_213 rfl ?_
  refine zr_iadd h d_M_soften_214 rfl ?_
  refine zr_iload_n h d_M_soften_215 rfl rfl 4 rfl ?_
  refine zr_iadd h d_M_soften_216 rfl ?_
  refine zr_iload h d_M_soften_217 rfl 5 rfl ?_
  refine zr_iload h d_M_soften_219 rfl 0 rfl ?_
  refine zr_iconst (v := (2 : Int32)) h d_M_soften_221 rfl (by decide) ?_
  refine zr_iadd h d_M_soften_222 rfl ?_
  refine zr_iconst (v := (2 : Int32)) h d_M_soften_223 rfl (by decide) ?_
  refine zr_ishr h d_M_soften_224 rfl ?_
  refine zr_iadd h d_M_soften_225 rfl ?_
  obtain ⟨hb_2, hf⟩ := zx_gd_some hf
  obtain ⟨G_3, eG_3, hf⟩ := zx_lt_some hf
  refine zr_iast h d_M_soften_226 rfl sh_42 hb_2 eG_3 ?_
  obtain ⟨x3_4, ex3_4, hf⟩ := zx_lt_some hf
  refine zr_iinc (j := 4) h d_M_soften_227 rfl rfl (by decide) ex3_4 (by decide) rfl ?_
  refine zr_goto (tgt := 41) h d_M_soften_230 rfl ?_
  refine zr_sub [2, 3, 4, 0] rfl ?_
  exact hk41 x1 x2 x3_4 G_3 hf
set_option maxRecDepth 100000 in
set_option maxHeartbeats 4000000 in
theorem z_M_soften_162 {κ : zx_K} {ad : Nat → Nat} {r : Int32} {G1 : zx_G} (h : zx_C M_M_soften κ ad) (hE : zx_E M_M_soften κ ad r G1) {k31 : Int32 → Int32 → zx_G → Option (Int32 × zx_G)} {k41 : Int32 → Int32 → Int32 → zx_G → Option (Int32 × zx_G)} (hk31 : ∀ (x1 x2 : Int32) (G : zx_G), k31 x1 x2 G = some (r, G1) → zx_Z κ ad 31 [(0, .ref (ad 32)), (1, .int x1), (2, .int x2)] [] G) (hk41 : ∀ (x1 x2 x3 : Int32) (G : zx_G), k41 x1 x2 x3 G = some (r, G1) → zx_Z κ ad 41 [(0, .ref (ad 32)), (1, .int x1), (2, .int x2), (3, .int x3)] [] G) (x1 x2 x3 x4 s0 s1 : Int32) (G : zx_G) (hf : f_M_soften_162 k31 k41 x1 x2 x3 x4 s0 s1 G = some (r, G1)) : zx_Z κ ad 162 [(0, .ref (ad 32)), (1, .int x1), (2, .int x2), (3, .int x3), (4, .int x4)] [.int s1, .int s0] G := by
  unfold f_M_soften_162 at hf
  refine zr_iadd h d_M_soften_162 rfl ?_
  obtain ⟨x5_1, ex5_1, hf⟩ := zx_lt_some hf
  refine zr_istore h d_M_soften_163 rfl (by decide) ex5_1 rfl ?_
  refine zr_iload h d_M_soften_165 rfl 0 rfl ?_
  refine zr_iload_n h d_M_soften_167 rfl rfl 3 rfl ?_
  refine zr_iconst (v := (1 : Int32)) h d_M_soften_168 rfl (by decide) ?_
  refine zr_iadd h d_M_soften_169 rfl ?_
  refine zr_aload_n h d_M_soften_170 rfl rfl 1 rfl ?_
  refine zr_getI h d_M_soften_171 rfl fl_M_174 sh_32 rfl ?_
  rcases zx_if_some hf with ⟨hc_2, hf⟩ | ⟨hc_2, hf⟩
  · refine zr_icmp_ge_t (tgt := 201) h d_M_soften_174 rfl hc_2 ?_
    refine zr_iconst (v := (0 : Int32)) h d_M_soften_201 rfl (by decide) ?_
    refine zr_sub [1, 2, 3, 4, 5] rfl ?_
    exact z_M_soften_202 h hE hk31 hk41 x1 x2 x3 x4 x5_1 (0 : Int32) G hf
  · refine zr_icmp_ge_f h 201 d_M_soften_174 rfl rfl hc_2 ?_
    refine zr_aload_n h d_M_soften_177 rfl rfl 1 rfl ?_
    refine zr_aload_n h d_M_soften_178 rfl rfl 1 rfl ?_
    refine zr_getR h d_M_soften_179 rfl fl_M_40 sh_32 rfl ?_
    refine zr_bipush (v := (16 : Int32)) h d_M_soften_182 rfl (by decide) ?_
    refine zr_iload_n h d_M_soften_184 rfl rfl 3 rfl ?_
    refine zr_imul h d_M_soften_185 rfl ?_
    refine zr_iload_n h d_M_soften_186 rfl rfl 4 rfl ?_
    refine zr_iadd h d_M_soften_187 rfl ?_
    refine zr_bipush (v := (16 : Int32)) h d_M_soften_188 rfl (by decide) ?_
    refine zr_iadd h d_M_soften_190 rfl ?_
    obtain ⟨hb_3, hf⟩ := zx_gd_some hf
    refine zr_iald h d_M_soften_191 rfl sh_43 hb_3 ?_
    refine zr_iload h d_M_soften_192 rfl 5 rfl ?_
    refine zr_isub h d_M_soften_194 rfl ?_
    obtain ⟨r_5, G_4, hq_6, hf⟩ := zx_bd_some hf
    refine zr_callVI (As := [.int ((G 43 (Int32.toNatClampNeg ((((16 : Int32) * x2) + x3) + (16 : Int32)))) - x4)]) (b := 32) h (c_M_pull _ _ _ _ _ ((G 43 (Int32.toNatClampNeg ((((16 : Int32) * x2) + x3) + (16 : Int32)))) - x4) G r_5 G_4 hq_6) cc_M_274 d_M_soften_195 rfl rfl rfl sh_32 ⟨rfl, rfl, by decide, by decide⟩ (Nat.le_of_ble_eq_true rfl) ?_
    refine zr_goto (tgt := 202) h d_M_soften_198 rfl ?_
    refine zr_sub [1, 2, 3, 4, 5] rfl ?_
    exact z_M_soften_202 h hE hk31 hk41 x1 x2 x3 x4 x5_1 r_5 G_4 hf
set_option maxRecDepth 100000 in
set_option maxHeartbeats 4000000 in
theorem z_M_soften_128 {κ : zx_K} {ad : Nat → Nat} {r : Int32} {G1 : zx_G} (h : zx_C M_M_soften κ ad) (hE : zx_E M_M_soften κ ad r G1) {k31 : Int32 → Int32 → zx_G → Option (Int32 × zx_G)} {k41 : Int32 → Int32 → Int32 → zx_G → Option (Int32 × zx_G)} (hk31 : ∀ (x1 x2 : Int32) (G : zx_G), k31 x1 x2 G = some (r, G1) → zx_Z κ ad 31 [(0, .ref (ad 32)), (1, .int x1), (2, .int x2)] [] G) (hk41 : ∀ (x1 x2 x3 : Int32) (G : zx_G), k41 x1 x2 x3 G = some (r, G1) → zx_Z κ ad 41 [(0, .ref (ad 32)), (1, .int x1), (2, .int x2), (3, .int x3)] [] G) (x1 x2 x3 x4 s0 s1 : Int32) (G : zx_G) (hf : f_M_soften_128 k31 k41 x1 x2 x3 x4 s0 s1 G = some (r, G1)) : zx_Z κ ad 128 [(0, .ref (ad 32)), (1, .int x1), (2, .int x2), (3, .int x3), (4, .int x4)] [.int s1, .int s0] G := by
  unfold f_M_soften_128 at hf
  refine zr_iadd h d_M_soften_128 rfl ?_
  obtain ⟨x5_1, ex5_1, hf⟩ := zx_lt_some hf
  refine zr_istore h d_M_soften_129 rfl (by decide) ex5_1 rfl ?_
  refine zr_iload h d_M_soften_131 rfl 0 rfl ?_
  refine zr_iload_n h d_M_soften_133 rfl rfl 3 rfl ?_
  rcases zx_if_some hf with ⟨hc_2, hf⟩ | ⟨hc_2, hf⟩
  · refine zr_if_le_t (tgt := 161) h d_M_soften_134 rfl hc_2 ?_
    refine zr_iconst (v := (0 : Int32)) h d_M_soften_161 rfl (by decide) ?_
    refine zr_sub [1, 2, 3, 4, 5] rfl ?_
    exact z_M_soften_162 h hE hk31 hk41 x1 x2 x3 x4 x5_1 (0 : Int32) G hf
  · refine zr_if_le_f h 161 d_M_soften_134 rfl rfl hc_2 ?_
    refine zr_aload_n h d_M_soften_137 rfl rfl 1 rfl ?_
    refine zr_aload_n h d_M_soften_138 rfl rfl 1 rfl ?_
    refine zr_getR h d_M_soften_139 rfl fl_M_40 sh_32 rfl ?_
    refine zr_bipush (v := (16 : Int32)) h d_M_soften_142 rfl (by decide) ?_
    refine zr_iload_n h d_M_soften_144 rfl rfl 3 rfl ?_
    refine zr_imul h d_M_soften_145 rfl ?_
    refine zr_iload_n h d_M_soften_146 rfl rfl 4 rfl ?_
    refine zr_iadd h d_M_soften_147 rfl ?_
    refine zr_bipush (v := (16 : Int32)) h d_M_soften_148 rfl (by decide) ?_
    refine zr_isub h d_M_soften_150 rfl ?_
    obtain ⟨hb_3, hf⟩ := zx_gd_some hf
    refine zr_iald h d_M_soften_151 rfl sh_43 hb_3 ?_
    refine zr_iload h d_M_soften_152 rfl 5 rfl ?_
    refine zr_isub h d_M_soften_154 rfl ?_
    obtain ⟨r_5, G_4, hq_6, hf⟩ := zx_bd_some hf
    refine zr_callVI (As := [.int ((G 43 (Int32.toNatClampNeg ((((16 : Int32) * x2) + x3) - (16 : Int32)))) - x4)]) (b := 32) h (c_M_pull _ _ _ _ _ ((G 43 (Int32.toNatClampNeg ((((16 : Int32) * x2) + x3) - (16 : Int32)))) - x4) G r_5 G_4 hq_6) cc_M_274 d_M_soften_155 rfl rfl rfl sh_32 ⟨rfl, rfl, by decide, by decide⟩ (Nat.le_of_ble_eq_true rfl) ?_
    refine zr_goto (tgt := 162) h d_M_soften_158 rfl ?_
    refine zr_sub [1, 2, 3, 4, 5] rfl ?_
    exact z_M_soften_162 h hE hk31 hk41 x1 x2 x3 x4 x5_1 r_5 G_4 hf
set_option maxRecDepth 100000 in
set_option maxHeartbeats 4000000 in
theorem z_M_soften_90 {κ : zx_K} {ad : Nat → Nat} {r : Int32} {G1 : zx_G} (h : zx_C M_M_soften κ ad) (hE : zx_E M_M_soften κ ad r G1) {k31 : Int32 → Int32 → zx_G → Option (Int32 × zx_G)} {k41 : Int32 → Int32 → Int32 → zx_G → Option (Int32 × zx_G)} (hk31 : ∀ (x1 x2 : Int32) (G : zx_G), k31 x1 x2 G = some (r, G1) → zx_Z κ ad 31 [(0, .ref (ad 32)), (1, .int x1), (2, .int x2)] [] G) (hk41 : ∀ (x1 x2 x3 : Int32) (G : zx_G), k41 x1 x2 x3 G = some (r, G1) → zx_Z κ ad 41 [(0, .ref (ad 32)), (1, .int x1), (2, .int x2), (3, .int x3)] [] G) (x1 x2 x3 x4 s0 : Int32) (G : zx_G) (hf : f_M_soften_90 k31 k41 x1 x2 x3 x4 s0 G = some (r, G1)) : zx_Z κ ad 90 [(0, .ref (ad 32)), (1, .int x1), (2, .int x2), (3, .int x3), (4, .int x4)] [.int s0] G := by
  unfold f_M_soften_90 at hf
  obtain ⟨x5_1, ex5_1, hf⟩ := zx_lt_some hf
  refine zr_istore h d_M_soften_90 rfl (by decide) ex5_1 rfl ?_
  refine zr_iload h d_M_soften_92 rfl 0 rfl ?_
  refine zr_iload_n h d_M_soften_94 rfl rfl 4 rfl ?_
  refine zr_iconst (v := (1 : Int32)) h d_M_soften_95 rfl (by decide) ?_
  refine zr_iadd h d_M_soften_96 rfl ?_
  refine zr_aload_n h d_M_soften_97 rfl rfl 1 rfl ?_
  refine zr_getI h d_M_soften_98 rfl fl_M_171 sh_32 rfl ?_
  rcases zx_if_some hf with ⟨hc_2, hf⟩ | ⟨hc_2, hf⟩
  · refine zr_icmp_ge_t (tgt := 127) h d_M_soften_101 rfl hc_2 ?_
    refine zr_iconst (v := (0 : Int32)) h d_M_soften_127 rfl (by decide) ?_
    refine zr_sub [1, 2, 3, 4, 5] rfl ?_
    exact z_M_soften_128 h hE hk31 hk41 x1 x2 x3 x4 x5_1 (0 : Int32) G hf
  · refine zr_icmp_ge_f h 127 d_M_soften_101 rfl rfl hc_2 ?_
    refine zr_aload_n h d_M_soften_104 rfl rfl 1 rfl ?_
    refine zr_aload_n h d_M_soften_105 rfl rfl 1 rfl ?_
    refine zr_getR h d_M_soften_106 rfl fl_M_40 sh_32 rfl ?_
    refine zr_bipush (v := (16 : Int32)) h d_M_soften_109 rfl (by decide) ?_
    refine zr_iload_n h d_M_soften_111 rfl rfl 3 rfl ?_
    refine zr_imul h d_M_soften_112 rfl ?_
    refine zr_iload_n h d_M_soften_113 rfl rfl 4 rfl ?_
    refine zr_iadd h d_M_soften_114 rfl ?_
    refine zr_iconst (v := (1 : Int32)) h d_M_soften_115 rfl (by decide) ?_
    refine zr_iadd h d_M_soften_116 rfl ?_
    obtain ⟨hb_3, hf⟩ := zx_gd_some hf
    refine zr_iald h d_M_soften_117 rfl sh_43 hb_3 ?_
    refine zr_iload h d_M_soften_118 rfl 5 rfl ?_
    refine zr_isub h d_M_soften_120 rfl ?_
    obtain ⟨r_5, G_4, hq_6, hf⟩ := zx_bd_some hf
    refine zr_callVI (As := [.int ((G 43 (Int32.toNatClampNeg ((((16 : Int32) * x2) + x3) + (1 : Int32)))) - x4)]) (b := 32) h (c_M_pull _ _ _ _ _ ((G 43 (Int32.toNatClampNeg ((((16 : Int32) * x2) + x3) + (1 : Int32)))) - x4) G r_5 G_4 hq_6) cc_M_274 d_M_soften_121 rfl rfl rfl sh_32 ⟨rfl, rfl, by decide, by decide⟩ (Nat.le_of_ble_eq_true rfl) ?_
    refine zr_goto (tgt := 128) h d_M_soften_124 rfl ?_
    refine zr_sub [1, 2, 3, 4, 5] rfl ?_
    exact z_M_soften_128 h hE hk31 hk41 x1 x2 x3 x4 x5_1 r_5 G_4 hf
set_option maxRecDepth 100000 in
set_option maxHeartbeats 4000000 in
theorem z_M_soften_41 {κ : zx_K} {ad : Nat → Nat} {r : Int32} {G1 : zx_G} (h : zx_C M_M_soften κ ad) (hE : zx_E M_M_soften κ ad r G1) {k31 : Int32 → Int32 → zx_G → Option (Int32 × zx_G)} (hk31 : ∀ (x1 x2 : Int32) (G : zx_G), k31 x1 x2 G = some (r, G1) → zx_Z κ ad 31 [(0, .ref (ad 32)), (1, .int x1), (2, .int x2)] [] G) : ∀ (n : Nat) (x1 x2 x3 : Int32) (G : zx_G), f_M_soften_41 k31 n x1 x2 x3 G = some (r, G1) → zx_Z κ ad 41 [(0, .ref (ad 32)), (1, .int x1), (2, .int x2), (3, .int x3)] [] G := by
  intro n
  induction n with
  | zero => intro x1 x2 x3 G hf; cases hf
  | succ n ih =>
    intro x1 x2 x3 G hf
    unfold f_M_soften_41 at hf
    refine zr_iload_n h d_M_soften_41 rfl rfl 3 rfl ?_
    refine zr_aload_n h d_M_soften_42 rfl rfl 0 rfl ?_
    refine zr_getI h d_M_soften_43 rfl fl_M_171 sh_32 rfl ?_
    rcases zx_if_some hf with ⟨hc_1, hf⟩ | ⟨hc_1, hf⟩
    · refine zr_icmp_ge_t (tgt := 233) h d_M_soften_46 rfl hc_1 ?_
      obtain ⟨x2_2, ex2_2, hf⟩ := zx_lt_some hf
      refine zr_iinc (j := 2) h d_M_soften_233 rfl rfl (by decide) ex2_2 (by decide) rfl ?_
      refine zr_goto (tgt := 31) h d_M_soften_236 rfl ?_
      refine zr_sub [1, 2, 0] rfl ?_
      exact hk31 x1 x2_2 G hf
    · refine zr_icmp_ge_f h 233 d_M_soften_46 rfl rfl hc_1 ?_
      refine zr_aload_n h d_M_soften_49 rfl rfl 0 rfl ?_
      refine zr_getR h d_M_soften_50 rfl fl_M_40 sh_32 rfl ?_
      refine zr_bipush (v := (16 : Int32)) h d_M_soften_53 rfl (by decide) ?_
      refine zr_iload_n h d_M_soften_55 rfl rfl 2 rfl ?_
      refine zr_imul h d_M_soften_56 rfl ?_
      refine zr_iload_n h d_M_soften_57 rfl rfl 3 rfl ?_
      refine zr_iadd h d_M_soften_58 rfl ?_
      obtain ⟨hb_3, hf⟩ := zx_gd_some hf
      refine zr_iald h d_M_soften_59 rfl sh_43 hb_3 ?_
      obtain ⟨x4_4, ex4_4, hf⟩ := zx_lt_some hf
      refine zr_istore h d_M_soften_60 rfl (by decide) ex4_4 rfl ?_
      refine zr_iload_n h d_M_soften_62 rfl rfl 4 rfl ?_
      rcases zx_if_some hf with ⟨hc_5, hf⟩ | ⟨hc_5, hf⟩
      · refine zr_if_le_t (tgt := 89) h d_M_soften_63 rfl hc_5 ?_
        refine zr_iconst (v := (0 : Int32)) h d_M_soften_89 rfl (by decide) ?_
        refine zr_sub [1, 2, 3, 4, 0] rfl ?_
        exact z_M_soften_90 h hE hk31 ih x1 x2 x3 x4_4 (0 : Int32) G hf
      · refine zr_if_le_f h 89 d_M_soften_63 rfl rfl hc_5 ?_
        refine zr_aload_n h d_M_soften_66 rfl rfl 1 rfl ?_
        refine zr_aload_n h d_M_soften_67 rfl rfl 1 rfl ?_
        refine zr_getR h d_M_soften_68 rfl fl_M_40 sh_32 rfl ?_
        refine zr_bipush (v := (16 : Int32)) h d_M_soften_71 rfl (by decide) ?_
        refine zr_iload_n h d_M_soften_73 rfl rfl 3 rfl ?_
        refine zr_imul h d_M_soften_74 rfl ?_
        refine zr_iload_n h d_M_soften_75 rfl rfl 4 rfl ?_
        refine zr_iadd h d_M_soften_76 rfl ?_
        refine zr_iconst (v := (1 : Int32)) h d_M_soften_77 rfl (by decide) ?_
        refine zr_isub h d_M_soften_78 rfl ?_
        obtain ⟨hb_6, hf⟩ := zx_gd_some hf
        refine zr_iald h d_M_soften_79 rfl sh_43 hb_6 ?_
        refine zr_iload h d_M_soften_80 rfl 0 rfl ?_
        refine zr_isub h d_M_soften_82 rfl ?_
        obtain ⟨r_8, G_7, hq_9, hf⟩ := zx_bd_some hf
        refine zr_callVI (As := [.int ((G 43 (Int32.toNatClampNeg ((((16 : Int32) * x2) + x3) - (1 : Int32)))) - x4_4)]) (b := 32) h (c_M_pull _ _ _ _ _ ((G 43 (Int32.toNatClampNeg ((((16 : Int32) * x2) + x3) - (1 : Int32)))) - x4_4) G r_8 G_7 hq_9) cc_M_274 d_M_soften_83 rfl rfl rfl sh_32 ⟨rfl, rfl, by decide, by decide⟩ (Nat.le_of_ble_eq_true rfl) ?_
        refine zr_goto (tgt := 90) h d_M_soften_86 rfl ?_
        refine zr_sub [1, 2, 3, 4, 0] rfl ?_
        exact z_M_soften_90 h hE hk31 ih x1 x2 x3 x4_4 r_8 G_7 hf
set_option maxRecDepth 100000 in
set_option maxHeartbeats 4000000 in
theorem z_M_soften_31 {κ : zx_K} {ad : Nat → Nat} {r : Int32} {G1 : zx_G} (h : zx_C M_M_soften κ ad) (hE : zx_E M_M_soften κ ad r G1) : ∀ (n : Nat) (x1 x2 : Int32) (G : zx_G), f_M_soften_31 n x1 x2 G = some (r, G1) → zx_Z κ ad 31 [(0, .ref (ad 32)), (1, .int x1), (2, .int x2)] [] G := by
  intro n
  induction n with
  | zero => intro x1 x2 G hf; cases hf
  | succ n ih =>
    intro x1 x2 G hf
    unfold f_M_soften_31 at hf
    refine zr_iload_n h d_M_soften_31 rfl rfl 2 rfl ?_
    refine zr_aload_n h d_M_soften_32 rfl rfl 0 rfl ?_
    refine zr_getI h d_M_soften_33 rfl fl_M_174 sh_32 rfl ?_
    rcases zx_if_some hf with ⟨hc_1, hf⟩ | ⟨hc_1, hf⟩
    · refine zr_icmp_ge_t (tgt := 239) h d_M_soften_36 rfl hc_1 ?_
      exact zr_vret h hE d_M_soften_239 rfl hf
    · refine zr_icmp_ge_f h 239 d_M_soften_36 rfl rfl hc_1 ?_
      refine zr_iconst (v := (0 : Int32)) h d_M_soften_39 rfl (by decide) ?_
      obtain ⟨x3_2, ex3_2, hf⟩ := zx_lt_some hf
      refine zr_istore_n h d_M_soften_40 rfl rfl (by decide) ex3_2 rfl ?_
      refine zr_sub [1, 2, 3, 0] rfl ?_
      exact z_M_soften_41 h hE ih 2048 x1 x2 x3_2 G hf
set_option maxRecDepth 100000 in
set_option maxHeartbeats 4000000 in
theorem z_M_soften_2 {κ : zx_K} {ad : Nat → Nat} {r : Int32} {G1 : zx_G} (h : zx_C M_M_soften κ ad) (hE : zx_E M_M_soften κ ad r G1) : ∀ (n : Nat) (x1 x2 : Int32) (G : zx_G), f_M_soften_2 n x1 x2 G = some (r, G1) → zx_Z κ ad 2 [(0, .ref (ad 32)), (1, .int x1), (2, .int x2)] [] G := by
  intro n
  induction n with
  | zero => intro x1 x2 G hf; cases hf
  | succ n ih =>
    intro x1 x2 G hf
    unfold f_M_soften_2 at hf
    refine zr_iload_n h d_M_soften_2 rfl rfl 2 rfl ?_
    refine zr_sipush (v := (256 : Int32)) h d_M_soften_3 rfl (by decide) ?_
    rcases zx_if_some hf with ⟨hc_1, hf⟩ | ⟨hc_1, hf⟩
    · refine zr_icmp_ge_t (tgt := 29) h d_M_soften_6 rfl hc_1 ?_
      refine zr_iconst (v := (0 : Int32)) h d_M_soften_29 rfl (by decide) ?_
      obtain ⟨x2_2, ex2_2, hf⟩ := zx_lt_some hf
      refine zr_istore_n h d_M_soften_30 rfl rfl (by decide) ex2_2 rfl ?_
      refine zr_sub [1, 2, 0] rfl ?_
      exact z_M_soften_31 h hE 2048 x1 x2_2 G hf
    · refine zr_icmp_ge_f h 29 d_M_soften_6 rfl rfl hc_1 ?_
      refine zr_aload_n h d_M_soften_9 rfl rfl 0 rfl ?_
      refine zr_getR h d_M_soften_10 rfl fl_M_40 sh_32 rfl ?_
      refine zr_iload_n h d_M_soften_13 rfl rfl 2 rfl ?_
      refine zr_aload_n h d_M_soften_14 rfl rfl 0 rfl ?_
      refine zr_getR h d_M_soften_15 rfl fl_M_37 sh_32 rfl ?_
      refine zr_iload_n h d_M_soften_18 rfl rfl 1 rfl ?_
      refine zr_iload_n h d_M_soften_19 rfl rfl 2 rfl ?_
      refine zr_iadd h d_M_soften_20 rfl ?_
      obtain ⟨hb_3, hf⟩ := zx_gd_some hf
      refine zr_iald h d_M_soften_21 rfl sh_42 hb_3 ?_
      obtain ⟨hb_4, hf⟩ := zx_gd_some hf
      obtain ⟨G_5, eG_5, hf⟩ := zx_lt_some hf
      refine zr_iast h d_M_soften_22 rfl sh_43 hb_4 eG_5 ?_
      obtain ⟨x2_6, ex2_6, hf⟩ := zx_lt_some hf
      refine zr_iinc (j := 2) h d_M_soften_23 rfl rfl (by decide) ex2_6 (by decide) rfl ?_
      refine zr_goto (tgt := 2) h d_M_soften_26 rfl ?_
      refine zr_sub [1, 2, 0] rfl ?_
      exact ih x1 x2_6 G_5 hf
set_option maxRecDepth 100000 in
set_option maxHeartbeats 4000000 in
theorem z_M_soften_0 {κ : zx_K} {ad : Nat → Nat} {r : Int32} {G1 : zx_G} (h : zx_C M_M_soften κ ad) (hE : zx_E M_M_soften κ ad r G1) (x1 : Int32) (G : zx_G) (hf : f_M_soften x1 G = some (r, G1)) : zx_Z κ ad 0 [(0, .ref (ad 32)), (1, .int x1)] [] G := by
  unfold f_M_soften at hf
  refine zr_iconst (v := (0 : Int32)) h d_M_soften_0 rfl (by decide) ?_
  obtain ⟨x2_1, ex2_1, hf⟩ := zx_lt_some hf
  refine zr_istore_n h d_M_soften_1 rfl rfl (by decide) ex2_1 rfl ?_
  refine zr_sub [1, 2, 0] rfl ?_
  exact z_M_soften_2 h hE 2048 x1 x2_1 G hf
theorem c_M_soften (l : Launch) (D : va_G) (cA : ClassId) (ad : Nat → Nat) (A : Nat → Prop) (x1 : Int32) (G : zx_G) (r : Int32) (G1 : zx_G) (hf : f_M_soften x1 G = some (r, G1)) : zx_met l y_M_soften M_M_soften [.ref (ad 32), .int x1] D cA ad A G r G1 :=
  zx_toMet (by decide) rfl (Nat.le_of_ble_eq_true rfl) (fun κ h hE => by exact z_M_soften_0 h hE x1 G hf)

def f_M_within_36 (s0 : Int32) (G : zx_G) : Option (Int32 × zx_G) :=
  some (s0, G)
def f_M_within_17 (x1 s0 : Int32) (G : zx_G) : Option (Int32 × zx_G) :=
  zx_lt s0 fun x2_1 =>
  zx_if (0 ≤ x1)
    (zx_if (x1 ≤ x2_1)
      (f_M_within_36 x1 G)
      (f_M_within_36 x2_1 G))
    (f_M_within_36 (0 : Int32) G)
def f_M_within (x1 : Int32) (G : zx_G) : Option (Int32 × zx_G) :=
  zx_if (¬ (G 32 17) = (1 : Int32))
    (f_M_within_17 x1 (255 : Int32) G)
    (f_M_within_17 x1 (1023 : Int32) G)
set_option maxRecDepth 100000 in
set_option maxHeartbeats 4000000 in
theorem z_M_within_36 {κ : zx_K} {ad : Nat → Nat} {r : Int32} {G1 : zx_G} (h : zx_C M_M_within κ ad) (hE : zx_E M_M_within κ ad r G1) (s0 : Int32) (G : zx_G) (hf : f_M_within_36 s0 G = some (r, G1)) : zx_Z κ ad 36 [] [.int s0] G := by
  unfold f_M_within_36 at hf
  exact zr_iret h hE d_M_within_36 rfl hf
set_option maxRecDepth 100000 in
set_option maxHeartbeats 4000000 in
theorem z_M_within_17 {κ : zx_K} {ad : Nat → Nat} {r : Int32} {G1 : zx_G} (h : zx_C M_M_within κ ad) (hE : zx_E M_M_within κ ad r G1) (x1 s0 : Int32) (G : zx_G) (hf : f_M_within_17 x1 s0 G = some (r, G1)) : zx_Z κ ad 17 [(1, .int x1)] [.int s0] G := by
  unfold f_M_within_17 at hf
  obtain ⟨x2_1, ex2_1, hf⟩ := zx_lt_some hf
  refine zr_istore_n h d_M_within_17 rfl rfl (by decide) ex2_1 rfl ?_
  refine zr_iload_n h d_M_within_18 rfl rfl 1 rfl ?_
  rcases zx_if_some hf with ⟨hc_2, hf⟩ | ⟨hc_2, hf⟩
  · refine zr_if_ge_t (tgt := 26) h d_M_within_19 rfl hc_2 ?_
    refine zr_iload_n h d_M_within_26 rfl rfl 1 rfl ?_
    refine zr_iload_n h d_M_within_27 rfl rfl 0 rfl ?_
    rcases zx_if_some hf with ⟨hc_3, hf⟩ | ⟨hc_3, hf⟩
    · refine zr_icmp_le_t (tgt := 35) h d_M_within_28 rfl hc_3 ?_
      refine zr_iload_n h d_M_within_35 rfl rfl 1 rfl ?_
      refine zr_sub [] rfl ?_
      exact z_M_within_36 h hE x1 G hf
    · refine zr_icmp_le_f h 35 d_M_within_28 rfl rfl hc_3 ?_
      refine zr_iload_n h d_M_within_31 rfl rfl 0 rfl ?_
      refine zr_goto (tgt := 36) h d_M_within_32 rfl ?_
      refine zr_sub [] rfl ?_
      exact z_M_within_36 h hE x2_1 G hf
  · refine zr_if_ge_f h 26 d_M_within_19 rfl rfl hc_2 ?_
    refine zr_iconst (v := (0 : Int32)) h d_M_within_22 rfl (by decide) ?_
    refine zr_goto (tgt := 36) h d_M_within_23 rfl ?_
    refine zr_sub [] rfl ?_
    exact z_M_within_36 h hE (0 : Int32) G hf
set_option maxRecDepth 100000 in
set_option maxHeartbeats 4000000 in
theorem z_M_within_0 {κ : zx_K} {ad : Nat → Nat} {r : Int32} {G1 : zx_G} (h : zx_C M_M_within κ ad) (hE : zx_E M_M_within κ ad r G1) (x1 : Int32) (G : zx_G) (hf : f_M_within x1 G = some (r, G1)) : zx_Z κ ad 0 [(0, .ref (ad 32)), (1, .int x1)] [] G := by
  unfold f_M_within at hf
  refine zr_aload_n h d_M_within_0 rfl rfl 0 rfl ?_
  refine zr_getI h d_M_within_1 rfl fl_M_168 sh_32 rfl ?_
  refine zr_iconst (v := (1 : Int32)) h d_M_within_4 rfl (by decide) ?_
  rcases zx_if_some hf with ⟨hc_1, hf⟩ | ⟨hc_1, hf⟩
  · refine zr_icmp_ne_t (tgt := 14) h d_M_within_5 rfl hc_1 ?_
    refine zr_sipush (v := (255 : Int32)) h d_M_within_14 rfl (by decide) ?_
    refine zr_sub [1] rfl ?_
    exact z_M_within_17 h hE x1 (255 : Int32) G hf
  · refine zr_icmp_ne_f h 14 d_M_within_5 rfl rfl hc_1 ?_
    refine zr_sipush (v := (1023 : Int32)) h d_M_within_8 rfl (by decide) ?_
    refine zr_goto (tgt := 17) h d_M_within_11 rfl ?_
    refine zr_sub [1] rfl ?_
    exact z_M_within_17 h hE x1 (1023 : Int32) G hf
theorem c_M_within (l : Launch) (D : va_G) (cA : ClassId) (ad : Nat → Nat) (A : Nat → Prop) (x1 : Int32) (G : zx_G) (r : Int32) (G1 : zx_G) (hf : f_M_within x1 G = some (r, G1)) : zx_met l y_M_within M_M_within [.ref (ad 32), .int x1] D cA ad A G r G1 :=
  zx_toMet (by decide) rfl (Nat.le_of_ble_eq_true rfl) (fun κ h hE => by exact z_M_within_0 h hE x1 G hf)

def f_M_smooth_40 (G : zx_G) : Option (Int32 × zx_G) :=
  some ((0 : Int32), G)
def f_M_smooth_153 (x7 x8 x9 x10 s0 : Int32) (G : zx_G) : Option (Int32 × zx_G) :=
  zx_lt s0 fun x11_1 =>
  zx_bd (f_M_far x9 x10 G) fun r_3 G_2 =>
  zx_if (r_3 ≤ ((4 : Int32) * x11_1))
    (zx_gd (zx_in (x8 - ((2 : Int32) * x7)) 768) <|
    zx_gd (zx_in (x8 + x7) 768) <|
    zx_bd (f_M_limited ((((((3 : Int32) * (x10 - x9)) + (G_2 42 (Int32.toNatClampNeg (x8 - ((2 : Int32) * x7))))) - (G_2 42 (Int32.toNatClampNeg (x8 + x7)))) + (4 : Int32)) >>> ((3 : Int32) &&& 31)) x11_1 G_2) fun r_9 G_8 =>
    zx_lt r_9 fun x12_11 =>
    zx_bd (f_M_within (x9 + x12_11) G_8) fun r_13 G_12 =>
    zx_gd (zx_in (x8 - x7) 768) <|
    zx_lt (zx_up G_12 42 (Int32.toNatClampNeg (x8 - x7)) r_13) fun G_16 =>
    zx_bd (f_M_within (x10 - x12_11) G_16) fun r_18 G_17 =>
    zx_gd (zx_in x8 768) <|
    zx_lt (zx_up G_17 42 (Int32.toNatClampNeg x8) r_18) fun G_21 =>
    some ((0 : Int32), G_21))
    (some ((0 : Int32), G_2))
def f_M_smooth_95 (x1 x2 x3 s0 : Int32) (G : zx_G) : Option (Int32 × zx_G) :=
  zx_lt s0 fun x7_1 =>
  zx_lt ((((256 : Int32) * x1) + ((16 : Int32) * x3)) + x2) fun x8_2 =>
  zx_gd (zx_in (x8_2 - x7_1) 768) <|
  zx_lt (G 42 (Int32.toNatClampNeg (x8_2 - x7_1))) fun x9_4 =>
  zx_gd (zx_in x8_2 768) <|
  zx_lt (G 42 (Int32.toNatClampNeg x8_2)) fun x10_6 =>
  zx_if (¬ (G 32 17) = (1 : Int32))
    (f_M_smooth_153 x7_1 x8_2 x9_4 x10_6 (G 32 23) G)
    (f_M_smooth_153 x7_1 x8_2 x9_4 x10_6 ((4 : Int32) * (G 32 23)) G)
def f_M_smooth_79 (x1 x2 x3 x4 s0 s2 : Int32) (G : zx_G) : Option (Int32 × zx_G) :=
  zx_gd (zx_in s2 16) <|
  zx_if (¬ s0 = (G 44 (Int32.toNatClampNeg s2)))
    (zx_if (x4 = 0)
      (f_M_smooth_95 x1 x2 x3 (16 : Int32) G)
      (f_M_smooth_95 x1 x2 x3 (1 : Int32) G))
    (some ((0 : Int32), G))
def f_M_smooth_10 (x1 x2 x3 x4 s0 : Int32) (G : zx_G) : Option (Int32 × zx_G) :=
  zx_lt s0 fun x5_1 =>
  zx_if ((G 32 18) ≤ x2)
    (f_M_smooth_40 G)
    (zx_if ((G 32 19) ≤ x3)
      (f_M_smooth_40 G)
      (zx_if (x5_1 = 0)
        (f_M_smooth_40 G)
        (zx_gd (zx_nz (4 : Int32)) <|
        zx_if ((zx_rem x5_1 (4 : Int32)) = 0)
          (zx_gd (zx_nz (4 : Int32)) <|
          zx_gd (zx_nz (4 : Int32)) <|
          zx_lt (((zx_div x3 (4 : Int32)) * (4 : Int32)) + (zx_div x2 (4 : Int32))) fun x6_9 =>
          zx_gd (zx_in x6_9 16) <|
          zx_if (x4 = 0)
            (f_M_smooth_79 x1 x2 x3 x4 (G 44 (Int32.toNatClampNeg x6_9)) (x6_9 - (4 : Int32)) G)
            (f_M_smooth_79 x1 x2 x3 x4 (G 44 (Int32.toNatClampNeg x6_9)) (x6_9 - (1 : Int32)) G))
          (f_M_smooth_40 G))))
def f_M_smooth (x1 x2 x3 x4 : Int32) (G : zx_G) : Option (Int32 × zx_G) :=
  zx_if (x4 = 0)
    (f_M_smooth_10 x1 x2 x3 x4 x3 G)
    (f_M_smooth_10 x1 x2 x3 x4 x2 G)
set_option maxRecDepth 100000 in
set_option maxHeartbeats 4000000 in
theorem z_M_smooth_40 {κ : zx_K} {ad : Nat → Nat} {r : Int32} {G1 : zx_G} (h : zx_C M_M_smooth κ ad) (hE : zx_E M_M_smooth κ ad r G1) (G : zx_G) (hf : f_M_smooth_40 G = some (r, G1)) : zx_Z κ ad 40 [] [] G := by
  unfold f_M_smooth_40 at hf
  exact zr_vret h hE d_M_smooth_40 rfl hf
set_option maxRecDepth 100000 in
set_option maxHeartbeats 4000000 in
theorem z_M_smooth_153 {κ : zx_K} {ad : Nat → Nat} {r : Int32} {G1 : zx_G} (h : zx_C M_M_smooth κ ad) (hE : zx_E M_M_smooth κ ad r G1) (x7 x8 x9 x10 s0 : Int32) (G : zx_G) (hf : f_M_smooth_153 x7 x8 x9 x10 s0 G = some (r, G1)) : zx_Z κ ad 153 [(0, .ref (ad 32)), (7, .int x7), (8, .int x8), (9, .int x9), (10, .int x10)] [.int s0] G := by
  unfold f_M_smooth_153 at hf
  obtain ⟨x11_1, ex11_1, hf⟩ := zx_lt_some hf
  refine zr_istore h d_M_smooth_153 rfl (by decide) ex11_1 rfl ?_
  refine zr_iload h d_M_smooth_155 rfl 4 rfl ?_
  refine zr_iload h d_M_smooth_157 rfl 5 rfl ?_
  obtain ⟨r_3, G_2, hq_4, hf⟩ := zx_bd_some hf
  refine zr_callSI (As := [.int x9, .int x10]) h (c_M_far _ _ _ _ _ x9 x10 G r_3 G_2 hq_4) cc_M_251 d_M_smooth_159 rfl rfl rfl ⟨rfl, by decide, by decide⟩ (Nat.le_of_ble_eq_true rfl) ?_
  refine zr_iconst (v := (4 : Int32)) h d_M_smooth_162 rfl (by decide) ?_
  refine zr_iload h d_M_smooth_163 rfl 0 rfl ?_
  refine zr_imul h d_M_smooth_165 rfl ?_
  rcases zx_if_some hf with ⟨hc_5, hf⟩ | ⟨hc_5, hf⟩
  · refine zr_icmp_le_t (tgt := 170) h d_M_smooth_166 rfl hc_5 ?_
    refine zr_iconst (v := (3 : Int32)) h d_M_smooth_170 rfl (by decide) ?_
    refine zr_iload h d_M_smooth_171 rfl 5 rfl ?_
    refine zr_iload h d_M_smooth_173 rfl 4 rfl ?_
    refine zr_isub h d_M_smooth_175 rfl ?_
    refine zr_imul h d_M_smooth_176 rfl ?_
    refine zr_aload_n h d_M_smooth_177 rfl rfl 1 rfl ?_
    refine zr_getR h d_M_smooth_178 rfl fl_M_37 sh_32 rfl ?_
    refine zr_iload h d_M_smooth_181 rfl 3 rfl ?_
    refine zr_iconst (v := (2 : Int32)) h d_M_smooth_183 rfl (by decide) ?_
    refine zr_iload h d_M_smooth_184 rfl 2 rfl ?_
    refine zr_imul h d_M_smooth_186 rfl ?_
    refine zr_isub h d_M_smooth_187 rfl ?_
    obtain ⟨hb_6, hf⟩ := zx_gd_some hf
    refine zr_iald h d_M_smooth_188 rfl sh_42 hb_6 ?_
    refine zr_iadd h d_M_smooth_189 rfl ?_
    refine zr_aload_n h d_M_smooth_190 rfl rfl 1 rfl ?_
    refine zr_getR h d_M_smooth_191 rfl fl_M_37 sh_32 rfl ?_
    refine zr_iload h d_M_smooth_194 rfl 3 rfl ?_
    refine zr_iload h d_M_smooth_196 rfl 2 rfl ?_
    refine zr_iadd h d_M_smooth_198 rfl ?_
    obtain ⟨hb_7, hf⟩ := zx_gd_some hf
    refine zr_iald h d_M_smooth_199 rfl sh_42 hb_7 ?_
    refine zr_isub h d_M_smooth_200 rfl ?_
    refine zr_iconst (v := (4 : Int32)) h d_M_smooth_201 rfl (by decide) ?_
    refine zr_iadd h d_M_smooth_202 rfl ?_
    refine zr_iconst (v := (3 : Int32)) h d_M_smooth_203 rfl (by decide) ?_
    refine zr_ishr h d_M_smooth_204 rfl ?_
    refine zr_iload h d_M_smooth_205 rfl 0 rfl ?_
    obtain ⟨r_9, G_8, hq_10, hf⟩ := zx_bd_some hf
    refine zr_callSI (As := [.int ((((((3 : Int32) * (x10 - x9)) + (G_2 42 (Int32.toNatClampNeg (x8 - ((2 : Int32) * x7))))) - (G_2 42 (Int32.toNatClampNeg (x8 + x7)))) + (4 : Int32)) >>> ((3 : Int32) &&& 31)), .int x11_1]) h (c_M_limited _ _ _ _ _ ((((((3 : Int32) * (x10 - x9)) + (G_2 42 (Int32.toNatClampNeg (x8 - ((2 : Int32) * x7))))) - (G_2 42 (Int32.toNatClampNeg (x8 + x7)))) + (4 : Int32)) >>> ((3 : Int32) &&& 31)) x11_1 G_2 r_9 G_8 hq_10) cc_M_260 d_M_smooth_207 rfl rfl rfl ⟨rfl, by decide, by decide⟩ (Nat.le_of_ble_eq_true rfl) ?_
    obtain ⟨x12_11, ex12_11, hf⟩ := zx_lt_some hf
    refine zr_istore h d_M_smooth_210 rfl (by decide) ex12_11 rfl ?_
    refine zr_aload_n h d_M_smooth_212 rfl rfl 2 rfl ?_
    refine zr_getR h d_M_smooth_213 rfl fl_M_37 sh_32 rfl ?_
    refine zr_iload h d_M_smooth_216 rfl 4 rfl ?_
    refine zr_iload h d_M_smooth_218 rfl 3 rfl ?_
    refine zr_isub h d_M_smooth_220 rfl ?_
    refine zr_aload_n h d_M_smooth_221 rfl rfl 2 rfl ?_
    refine zr_iload h d_M_smooth_222 rfl 5 rfl ?_
    refine zr_iload h d_M_smooth_224 rfl 0 rfl ?_
    refine zr_iadd h d_M_smooth_226 rfl ?_
    obtain ⟨r_13, G_12, hq_14, hf⟩ := zx_bd_some hf
    refine zr_callVI (As := [.int (x9 + x12_11)]) (b := 32) h (c_M_within _ _ _ _ _ (x9 + x12_11) G_8 r_13 G_12 hq_14) cc_M_245 d_M_smooth_227 rfl rfl rfl sh_32 ⟨rfl, rfl, by decide, by decide⟩ (Nat.le_of_ble_eq_true rfl) ?_
    obtain ⟨hb_15, hf⟩ := zx_gd_some hf
    obtain ⟨G_16, eG_16, hf⟩ := zx_lt_some hf
    refine zr_iast h d_M_smooth_230 rfl sh_42 hb_15 eG_16 ?_
    refine zr_aload_n h d_M_smooth_231 rfl rfl 2 rfl ?_
    refine zr_getR h d_M_smooth_232 rfl fl_M_37 sh_32 rfl ?_
    refine zr_iload h d_M_smooth_235 rfl 4 rfl ?_
    refine zr_aload_n h d_M_smooth_237 rfl rfl 2 rfl ?_
    refine zr_iload h d_M_smooth_238 rfl 6 rfl ?_
    refine zr_iload h d_M_smooth_240 rfl 0 rfl ?_
    refine zr_isub h d_M_smooth_242 rfl ?_
    obtain ⟨r_18, G_17, hq_19, hf⟩ := zx_bd_some hf
    refine zr_callVI (As := [.int (x10 - x12_11)]) (b := 32) h (c_M_within _ _ _ _ _ (x10 - x12_11) G_16 r_18 G_17 hq_19) cc_M_245 d_M_smooth_243 rfl rfl rfl sh_32 ⟨rfl, rfl, by decide, by decide⟩ (Nat.le_of_ble_eq_true rfl) ?_
    obtain ⟨hb_20, hf⟩ := zx_gd_some hf
    obtain ⟨G_21, eG_21, hf⟩ := zx_lt_some hf
    refine zr_iast h d_M_smooth_246 rfl sh_42 hb_20 eG_21 ?_
    exact zr_vret h hE d_M_smooth_247 rfl hf
  · refine zr_icmp_le_f h 170 d_M_smooth_166 rfl rfl hc_5 ?_
    exact zr_vret h hE d_M_smooth_169 rfl hf
set_option maxRecDepth 100000 in
set_option maxHeartbeats 4000000 in
theorem z_M_smooth_95 {κ : zx_K} {ad : Nat → Nat} {r : Int32} {G1 : zx_G} (h : zx_C M_M_smooth κ ad) (hE : zx_E M_M_smooth κ ad r G1) (x1 x2 x3 s0 : Int32) (G : zx_G) (hf : f_M_smooth_95 x1 x2 x3 s0 G = some (r, G1)) : zx_Z κ ad 95 [(0, .ref (ad 32)), (1, .int x1), (2, .int x2), (3, .int x3)] [.int s0] G := by
  unfold f_M_smooth_95 at hf
  obtain ⟨x7_1, ex7_1, hf⟩ := zx_lt_some hf
  refine zr_istore h d_M_smooth_95 rfl (by decide) ex7_1 rfl ?_
  refine zr_sipush (v := (256 : Int32)) h d_M_smooth_97 rfl (by decide) ?_
  refine zr_iload_n h d_M_smooth_100 rfl rfl 2 rfl ?_
  refine zr_imul h d_M_smooth_101 rfl ?_
  refine zr_bipush (v := (16 : Int32)) h d_M_smooth_102 rfl (by decide) ?_
  refine zr_iload_n h d_M_smooth_104 rfl rfl 4 rfl ?_
  refine zr_imul h d_M_smooth_105 rfl ?_
  refine zr_iadd h d_M_smooth_106 rfl ?_
  refine zr_iload_n h d_M_smooth_107 rfl rfl 3 rfl ?_
  refine zr_iadd h d_M_smooth_108 rfl ?_
  obtain ⟨x8_2, ex8_2, hf⟩ := zx_lt_some hf
  refine zr_istore h d_M_smooth_109 rfl (by decide) ex8_2 rfl ?_
  refine zr_aload_n h d_M_smooth_111 rfl rfl 2 rfl ?_
  refine zr_getR h d_M_smooth_112 rfl fl_M_37 sh_32 rfl ?_
  refine zr_iload h d_M_smooth_115 rfl 0 rfl ?_
  refine zr_iload h d_M_smooth_117 rfl 1 rfl ?_
  refine zr_isub h d_M_smooth_119 rfl ?_
  obtain ⟨hb_3, hf⟩ := zx_gd_some hf
  refine zr_iald h d_M_smooth_120 rfl sh_42 hb_3 ?_
  obtain ⟨x9_4, ex9_4, hf⟩ := zx_lt_some hf
  refine zr_istore h d_M_smooth_121 rfl (by decide) ex9_4 rfl ?_
  refine zr_aload_n h d_M_smooth_123 rfl rfl 3 rfl ?_
  refine zr_getR h d_M_smooth_124 rfl fl_M_37 sh_32 rfl ?_
  refine zr_iload h d_M_smooth_127 rfl 1 rfl ?_
  obtain ⟨hb_5, hf⟩ := zx_gd_some hf
  refine zr_iald h d_M_smooth_129 rfl sh_42 hb_5 ?_
  obtain ⟨x10_6, ex10_6, hf⟩ := zx_lt_some hf
  refine zr_istore h d_M_smooth_130 rfl (by decide) ex10_6 rfl ?_
  refine zr_aload_n h d_M_smooth_132 rfl rfl 4 rfl ?_
  refine zr_getI h d_M_smooth_133 rfl fl_M_168 sh_32 rfl ?_
  refine zr_iconst (v := (1 : Int32)) h d_M_smooth_136 rfl (by decide) ?_
  rcases zx_if_some hf with ⟨hc_7, hf⟩ | ⟨hc_7, hf⟩
  · refine zr_icmp_ne_t (tgt := 149) h d_M_smooth_137 rfl hc_7 ?_
    refine zr_aload_n h d_M_smooth_149 rfl rfl 4 rfl ?_
    refine zr_getI h d_M_smooth_150 rfl fl_M_189 sh_32 rfl ?_
    refine zr_sub [4, 3, 2, 1, 0] rfl ?_
    exact z_M_smooth_153 h hE x7_1 x8_2 x9_4 x10_6 (G 32 23) G hf
  · refine zr_icmp_ne_f h 149 d_M_smooth_137 rfl rfl hc_7 ?_
    refine zr_iconst (v := (4 : Int32)) h d_M_smooth_140 rfl (by decide) ?_
    refine zr_aload_n h d_M_smooth_141 rfl rfl 4 rfl ?_
    refine zr_getI h d_M_smooth_142 rfl fl_M_189 sh_32 rfl ?_
    refine zr_imul h d_M_smooth_145 rfl ?_
    refine zr_goto (tgt := 153) h d_M_smooth_146 rfl ?_
    refine zr_sub [4, 3, 2, 1, 0] rfl ?_
    exact z_M_smooth_153 h hE x7_1 x8_2 x9_4 x10_6 ((4 : Int32) * (G 32 23)) G hf
set_option maxRecDepth 100000 in
set_option maxHeartbeats 4000000 in
theorem z_M_smooth_79 {κ : zx_K} {ad : Nat → Nat} {r : Int32} {G1 : zx_G} (h : zx_C M_M_smooth κ ad) (hE : zx_E M_M_smooth κ ad r G1) (x1 x2 x3 x4 s0 s2 : Int32) (G : zx_G) (hf : f_M_smooth_79 x1 x2 x3 x4 s0 s2 G = some (r, G1)) : zx_Z κ ad 79 [(0, .ref (ad 32)), (1, .int x1), (2, .int x2), (3, .int x3), (4, .int x4)] [.int s2, .ref (ad 44), .int s0] G := by
  unfold f_M_smooth_79 at hf
  obtain ⟨hb_1, hf⟩ := zx_gd_some hf
  refine zr_iald h d_M_smooth_79 rfl sh_44 hb_1 ?_
  rcases zx_if_some hf with ⟨hc_2, hf⟩ | ⟨hc_2, hf⟩
  · refine zr_icmp_ne_t (tgt := 84) h d_M_smooth_80 rfl hc_2 ?_
    refine zr_iload h d_M_smooth_84 rfl 4 rfl ?_
    rcases zx_if_some hf with ⟨hc_3, hf⟩ | ⟨hc_3, hf⟩
    · refine zr_if_eq_t (tgt := 93) h d_M_smooth_86 rfl hc_3 ?_
      refine zr_bipush (v := (16 : Int32)) h d_M_smooth_93 rfl (by decide) ?_
      refine zr_sub [0, 1, 2, 3] rfl ?_
      exact z_M_smooth_95 h hE x1 x2 x3 (16 : Int32) G hf
    · refine zr_if_eq_f h 93 d_M_smooth_86 rfl rfl hc_3 ?_
      refine zr_iconst (v := (1 : Int32)) h d_M_smooth_89 rfl (by decide) ?_
      refine zr_goto (tgt := 95) h d_M_smooth_90 rfl ?_
      refine zr_sub [0, 1, 2, 3] rfl ?_
      exact z_M_smooth_95 h hE x1 x2 x3 (1 : Int32) G hf
  · refine zr_icmp_ne_f h 84 d_M_smooth_80 rfl rfl hc_2 ?_
    exact zr_vret h hE d_M_smooth_83 rfl hf
set_option maxRecDepth 100000 in
set_option maxHeartbeats 4000000 in
theorem z_M_smooth_10 {κ : zx_K} {ad : Nat → Nat} {r : Int32} {G1 : zx_G} (h : zx_C M_M_smooth κ ad) (hE : zx_E M_M_smooth κ ad r G1) (x1 x2 x3 x4 s0 : Int32) (G : zx_G) (hf : f_M_smooth_10 x1 x2 x3 x4 s0 G = some (r, G1)) : zx_Z κ ad 10 [(0, .ref (ad 32)), (1, .int x1), (2, .int x2), (3, .int x3), (4, .int x4)] [.int s0] G := by
  unfold f_M_smooth_10 at hf
  obtain ⟨x5_1, ex5_1, hf⟩ := zx_lt_some hf
  refine zr_istore h d_M_smooth_10 rfl (by decide) ex5_1 rfl ?_
  refine zr_iload_n h d_M_smooth_12 rfl rfl 3 rfl ?_
  refine zr_aload_n h d_M_smooth_13 rfl rfl 1 rfl ?_
  refine zr_getI h d_M_smooth_14 rfl fl_M_171 sh_32 rfl ?_
  rcases zx_if_some hf with ⟨hc_2, hf⟩ | ⟨hc_2, hf⟩
  · refine zr_icmp_ge_t (tgt := 40) h d_M_smooth_17 rfl hc_2 ?_
    refine zr_sub [] rfl ?_
    exact z_M_smooth_40 h hE G hf
  · refine zr_icmp_ge_f h 40 d_M_smooth_17 rfl rfl hc_2 ?_
    refine zr_iload_n h d_M_smooth_20 rfl rfl 4 rfl ?_
    refine zr_aload_n h d_M_smooth_21 rfl rfl 1 rfl ?_
    refine zr_getI h d_M_smooth_22 rfl fl_M_174 sh_32 rfl ?_
    rcases zx_if_some hf with ⟨hc_3, hf⟩ | ⟨hc_3, hf⟩
    · refine zr_icmp_ge_t (tgt := 40) h d_M_smooth_25 rfl hc_3 ?_
      refine zr_sub [] rfl ?_
      exact z_M_smooth_40 h hE G hf
    · refine zr_icmp_ge_f h 40 d_M_smooth_25 rfl rfl hc_3 ?_
      refine zr_iload h d_M_smooth_28 rfl 0 rfl ?_
      rcases zx_if_some hf with ⟨hc_4, hf⟩ | ⟨hc_4, hf⟩
      · refine zr_if_eq_t (tgt := 40) h d_M_smooth_30 rfl hc_4 ?_
        refine zr_sub [] rfl ?_
        exact z_M_smooth_40 h hE G hf
      · refine zr_if_eq_f h 40 d_M_smooth_30 rfl rfl hc_4 ?_
        refine zr_iload h d_M_smooth_33 rfl 0 rfl ?_
        refine zr_iconst (v := (4 : Int32)) h d_M_smooth_35 rfl (by decide) ?_
        obtain ⟨hb_5, hf⟩ := zx_gd_some hf
        refine zr_irem h d_M_smooth_36 rfl (zx_nz_ne hb_5) ?_
        rcases zx_if_some hf with ⟨hc_6, hf⟩ | ⟨hc_6, hf⟩
        · refine zr_if_eq_t (tgt := 41) h d_M_smooth_37 rfl hc_6 ?_
          refine zr_iload_n h d_M_smooth_41 rfl rfl 4 rfl ?_
          refine zr_iconst (v := (4 : Int32)) h d_M_smooth_42 rfl (by decide) ?_
          obtain ⟨hb_7, hf⟩ := zx_gd_some hf
          refine zr_idiv h d_M_smooth_43 rfl (zx_nz_ne hb_7) ?_
          refine zr_iconst (v := (4 : Int32)) h d_M_smooth_44 rfl (by decide) ?_
          refine zr_imul h d_M_smooth_45 rfl ?_
          refine zr_iload_n h d_M_smooth_46 rfl rfl 3 rfl ?_
          refine zr_iconst (v := (4 : Int32)) h d_M_smooth_47 rfl (by decide) ?_
          obtain ⟨hb_8, hf⟩ := zx_gd_some hf
          refine zr_idiv h d_M_smooth_48 rfl (zx_nz_ne hb_8) ?_
          refine zr_iadd h d_M_smooth_49 rfl ?_
          obtain ⟨x6_9, ex6_9, hf⟩ := zx_lt_some hf
          refine zr_istore h d_M_smooth_50 rfl (by decide) ex6_9 rfl ?_
          refine zr_aload_n h d_M_smooth_52 rfl rfl 2 rfl ?_
          refine zr_getR h d_M_smooth_53 rfl fl_M_43 sh_32 rfl ?_
          refine zr_iload h d_M_smooth_56 rfl 0 rfl ?_
          obtain ⟨hb_10, hf⟩ := zx_gd_some hf
          refine zr_iald h d_M_smooth_58 rfl sh_44 hb_10 ?_
          refine zr_aload_n h d_M_smooth_59 rfl rfl 2 rfl ?_
          refine zr_getR h d_M_smooth_60 rfl fl_M_43 sh_32 rfl ?_
          refine zr_iload h d_M_smooth_63 rfl 6 rfl ?_
          rcases zx_if_some hf with ⟨hc_11, hf⟩ | ⟨hc_11, hf⟩
          · refine zr_if_eq_t (tgt := 75) h d_M_smooth_65 rfl hc_11 ?_
            refine zr_iload h d_M_smooth_75 rfl 0 rfl ?_
            refine zr_iconst (v := (4 : Int32)) h d_M_smooth_77 rfl (by decide) ?_
            refine zr_isub h d_M_smooth_78 rfl ?_
            refine zr_sub [2, 3, 4, 5, 6] rfl ?_
            exact z_M_smooth_79 h hE x1 x2 x3 x4 (G 44 (Int32.toNatClampNeg x6_9)) (x6_9 - (4 : Int32)) G hf
          · refine zr_if_eq_f h 75 d_M_smooth_65 rfl rfl hc_11 ?_
            refine zr_iload h d_M_smooth_68 rfl 0 rfl ?_
            refine zr_iconst (v := (1 : Int32)) h d_M_smooth_70 rfl (by decide) ?_
            refine zr_isub h d_M_smooth_71 rfl ?_
            refine zr_goto (tgt := 79) h d_M_smooth_72 rfl ?_
            refine zr_sub [2, 3, 4, 5, 6] rfl ?_
            exact z_M_smooth_79 h hE x1 x2 x3 x4 (G 44 (Int32.toNatClampNeg x6_9)) (x6_9 - (1 : Int32)) G hf
        · refine zr_if_eq_f h 41 d_M_smooth_37 rfl rfl hc_6 ?_
          refine zr_sub [] rfl ?_
          exact z_M_smooth_40 h hE G hf
set_option maxRecDepth 100000 in
set_option maxHeartbeats 4000000 in
theorem z_M_smooth_0 {κ : zx_K} {ad : Nat → Nat} {r : Int32} {G1 : zx_G} (h : zx_C M_M_smooth κ ad) (hE : zx_E M_M_smooth κ ad r G1) (x1 x2 x3 x4 : Int32) (G : zx_G) (hf : f_M_smooth x1 x2 x3 x4 G = some (r, G1)) : zx_Z κ ad 0 [(0, .ref (ad 32)), (1, .int x1), (2, .int x2), (3, .int x3), (4, .int x4)] [] G := by
  unfold f_M_smooth at hf
  refine zr_iload h d_M_smooth_0 rfl 4 rfl ?_
  rcases zx_if_some hf with ⟨hc_1, hf⟩ | ⟨hc_1, hf⟩
  · refine zr_if_eq_t (tgt := 9) h d_M_smooth_2 rfl hc_1 ?_
    refine zr_iload_n h d_M_smooth_9 rfl rfl 3 rfl ?_
    exact z_M_smooth_10 h hE x1 x2 x3 x4 x3 G hf
  · refine zr_if_eq_f h 9 d_M_smooth_2 rfl rfl hc_1 ?_
    refine zr_iload_n h d_M_smooth_5 rfl rfl 2 rfl ?_
    refine zr_goto (tgt := 10) h d_M_smooth_6 rfl ?_
    exact z_M_smooth_10 h hE x1 x2 x3 x4 x2 G hf
theorem c_M_smooth (l : Launch) (D : va_G) (cA : ClassId) (ad : Nat → Nat) (A : Nat → Prop) (x1 x2 x3 x4 : Int32) (G : zx_G) (r : Int32) (G1 : zx_G) (hf : f_M_smooth x1 x2 x3 x4 G = some (r, G1)) : zx_met l y_M_smooth M_M_smooth [.ref (ad 32), .int x1, .int x2, .int x3, .int x4] D cA ad A G r G1 :=
  zx_toMet (by decide) rfl (Nat.le_of_ble_eq_true rfl) (fun κ h hE => by exact z_M_smooth_0 h hE x1 x2 x3 x4 G hf)

def f_M_filter_95 (k2 : Int32 → zx_G → Option (Int32 × zx_G)) (x1 : Int32) (G : zx_G) : Option (Int32 × zx_G) :=
  zx_lt (x1 + (1 : Int32)) fun x1_1 =>
  k2 x1_1 G
def f_M_filter_79 (k2 : Int32 → zx_G → Option (Int32 × zx_G)) (x1 : Int32) (G : zx_G) : Option (Int32 × zx_G) :=
  zx_if ((G 32 24) = 0)
    (f_M_filter_95 k2 x1 G)
    (zx_bd (f_M_soften ((256 : Int32) * x1) G) fun r_3 G_2 =>
    f_M_filter_95 k2 x1 G_2)
def f_M_filter_52 (k2 : Int32 → zx_G → Option (Int32 × zx_G)) : Nat → Int32 → Int32 → zx_G → Option (Int32 × zx_G)
  | 0, _, _, _ => none
  | n + 1, x1, x2, G =>
    zx_if ((256 : Int32) ≤ x2)
      (f_M_filter_79 k2 x1 G)
      (zx_gd (zx_nz (16 : Int32)) <|
      zx_gd (zx_nz (16 : Int32)) <|
      zx_bd (f_M_smooth x1 (zx_rem x2 (16 : Int32)) (zx_div x2 (16 : Int32)) (0 : Int32) G) fun r_5 G_4 =>
      zx_lt (x2 + (1 : Int32)) fun x2_7 =>
      f_M_filter_52 k2 n x1 x2_7 G_4)
def f_M_filter_23 (k2 : Int32 → zx_G → Option (Int32 × zx_G)) : Nat → Int32 → Int32 → zx_G → Option (Int32 × zx_G)
  | 0, _, _, _ => none
  | n + 1, x1, x2, G =>
    zx_if ((256 : Int32) ≤ x2)
      (zx_lt (0 : Int32) fun x2_2 =>
      f_M_filter_52 k2 2048 x1 x2_2 G)
      (zx_gd (zx_nz (16 : Int32)) <|
      zx_gd (zx_nz (16 : Int32)) <|
      zx_bd (f_M_smooth x1 (zx_rem x2 (16 : Int32)) (zx_div x2 (16 : Int32)) (1 : Int32) G) fun r_6 G_5 =>
      zx_lt (x2 + (1 : Int32)) fun x2_8 =>
      f_M_filter_23 k2 n x1 x2_8 G_5)
def f_M_filter_2 : Nat → Int32 → zx_G → Option (Int32 × zx_G)
  | 0, _, _ => none
  | n + 1, x1, G =>
    zx_if (((1 : Int32) + ((2 : Int32) * (G 32 16))) ≤ x1)
      (some ((0 : Int32), G))
      (zx_if ((G 32 23) = 0)
        (f_M_filter_79 (f_M_filter_2 n) x1 G)
        (zx_lt (0 : Int32) fun x2_3 =>
        f_M_filter_23 (f_M_filter_2 n) 2048 x1 x2_3 G))
def f_M_filter (G : zx_G) : Option (Int32 × zx_G) :=
  zx_lt (0 : Int32) fun x1_1 =>
  f_M_filter_2 2048 x1_1 G
set_option maxRecDepth 100000 in
set_option maxHeartbeats 4000000 in
theorem z_M_filter_95 {κ : zx_K} {ad : Nat → Nat} {r : Int32} {G1 : zx_G} (h : zx_C M_M_filter κ ad) (hE : zx_E M_M_filter κ ad r G1) {k2 : Int32 → zx_G → Option (Int32 × zx_G)} (hk2 : ∀ (x1 : Int32) (G : zx_G), k2 x1 G = some (r, G1) → zx_Z κ ad 2 [(0, .ref (ad 32)), (1, .int x1)] [] G) (x1 : Int32) (G : zx_G) (hf : f_M_filter_95 k2 x1 G = some (r, G1)) : zx_Z κ ad 95 [(0, .ref (ad 32)), (1, .int x1)] [] G := by
  unfold f_M_filter_95 at hf
  obtain ⟨x1_1, ex1_1, hf⟩ := zx_lt_some hf
  refine zr_iinc (j := 1) h d_M_filter_95 rfl rfl (by decide) ex1_1 (by decide) rfl ?_
  refine zr_goto (tgt := 2) h d_M_filter_98 rfl ?_
  refine zr_sub [1, 0] rfl ?_
  exact hk2 x1_1 G hf
set_option maxRecDepth 100000 in
set_option maxHeartbeats 4000000 in
theorem z_M_filter_79 {κ : zx_K} {ad : Nat → Nat} {r : Int32} {G1 : zx_G} (h : zx_C M_M_filter κ ad) (hE : zx_E M_M_filter κ ad r G1) {k2 : Int32 → zx_G → Option (Int32 × zx_G)} (hk2 : ∀ (x1 : Int32) (G : zx_G), k2 x1 G = some (r, G1) → zx_Z κ ad 2 [(0, .ref (ad 32)), (1, .int x1)] [] G) (x1 : Int32) (G : zx_G) (hf : f_M_filter_79 k2 x1 G = some (r, G1)) : zx_Z κ ad 79 [(0, .ref (ad 32)), (1, .int x1)] [] G := by
  unfold f_M_filter_79 at hf
  refine zr_aload_n h d_M_filter_79 rfl rfl 0 rfl ?_
  refine zr_getI h d_M_filter_80 rfl fl_M_192 sh_32 rfl ?_
  rcases zx_if_some hf with ⟨hc_1, hf⟩ | ⟨hc_1, hf⟩
  · refine zr_if_eq_t (tgt := 95) h d_M_filter_83 rfl hc_1 ?_
    exact z_M_filter_95 h hE hk2 x1 G hf
  · refine zr_if_eq_f h 95 d_M_filter_83 rfl rfl hc_1 ?_
    refine zr_aload_n h d_M_filter_86 rfl rfl 0 rfl ?_
    refine zr_sipush (v := (256 : Int32)) h d_M_filter_87 rfl (by decide) ?_
    refine zr_iload_n h d_M_filter_90 rfl rfl 1 rfl ?_
    refine zr_imul h d_M_filter_91 rfl ?_
    obtain ⟨r_3, G_2, hq_4, hf⟩ := zx_bd_some hf
    refine zr_callVV (As := [.int ((256 : Int32) * x1)]) (b := 32) h (c_M_soften _ _ _ _ _ ((256 : Int32) * x1) G r_3 G_2 hq_4) cc_M_271 d_M_filter_92 rfl rfl rfl sh_32 ⟨rfl, rfl, by decide, by decide⟩ (Nat.le_of_ble_eq_true rfl) ?_
    exact z_M_filter_95 h hE hk2 x1 G_2 hf
set_option maxRecDepth 100000 in
set_option maxHeartbeats 4000000 in
theorem z_M_filter_52 {κ : zx_K} {ad : Nat → Nat} {r : Int32} {G1 : zx_G} (h : zx_C M_M_filter κ ad) (hE : zx_E M_M_filter κ ad r G1) {k2 : Int32 → zx_G → Option (Int32 × zx_G)} (hk2 : ∀ (x1 : Int32) (G : zx_G), k2 x1 G = some (r, G1) → zx_Z κ ad 2 [(0, .ref (ad 32)), (1, .int x1)] [] G) : ∀ (n : Nat) (x1 x2 : Int32) (G : zx_G), f_M_filter_52 k2 n x1 x2 G = some (r, G1) → zx_Z κ ad 52 [(0, .ref (ad 32)), (1, .int x1), (2, .int x2)] [] G := by
  intro n
  induction n with
  | zero => intro x1 x2 G hf; cases hf
  | succ n ih =>
    intro x1 x2 G hf
    unfold f_M_filter_52 at hf
    refine zr_iload_n h d_M_filter_52 rfl rfl 2 rfl ?_
    refine zr_sipush (v := (256 : Int32)) h d_M_filter_53 rfl (by decide) ?_
    rcases zx_if_some hf with ⟨hc_1, hf⟩ | ⟨hc_1, hf⟩
    · refine zr_icmp_ge_t (tgt := 79) h d_M_filter_56 rfl hc_1 ?_
      refine zr_sub [0, 1] rfl ?_
      exact z_M_filter_79 h hE hk2 x1 G hf
    · refine zr_icmp_ge_f h 79 d_M_filter_56 rfl rfl hc_1 ?_
      refine zr_aload_n h d_M_filter_59 rfl rfl 0 rfl ?_
      refine zr_iload_n h d_M_filter_60 rfl rfl 1 rfl ?_
      refine zr_iload_n h d_M_filter_61 rfl rfl 2 rfl ?_
      refine zr_bipush (v := (16 : Int32)) h d_M_filter_62 rfl (by decide) ?_
      obtain ⟨hb_2, hf⟩ := zx_gd_some hf
      refine zr_irem h d_M_filter_64 rfl (zx_nz_ne hb_2) ?_
      refine zr_iload_n h d_M_filter_65 rfl rfl 2 rfl ?_
      refine zr_bipush (v := (16 : Int32)) h d_M_filter_66 rfl (by decide) ?_
      obtain ⟨hb_3, hf⟩ := zx_gd_some hf
      refine zr_idiv h d_M_filter_68 rfl (zx_nz_ne hb_3) ?_
      refine zr_iconst (v := (0 : Int32)) h d_M_filter_69 rfl (by decide) ?_
      obtain ⟨r_5, G_4, hq_6, hf⟩ := zx_bd_some hf
      refine zr_callVV (As := [.int x1, .int (zx_rem x2 (16 : Int32)), .int (zx_div x2 (16 : Int32)), .int (0 : Int32)]) (b := 32) h (c_M_smooth _ _ _ _ _ x1 (zx_rem x2 (16 : Int32)) (zx_div x2 (16 : Int32)) (0 : Int32) G r_5 G_4 hq_6) cc_M_267 d_M_filter_70 rfl rfl rfl sh_32 ⟨rfl, rfl, by decide, by decide⟩ (Nat.le_of_ble_eq_true rfl) ?_
      obtain ⟨x2_7, ex2_7, hf⟩ := zx_lt_some hf
      refine zr_iinc (j := 2) h d_M_filter_73 rfl rfl (by decide) ex2_7 (by decide) rfl ?_
      refine zr_goto (tgt := 52) h d_M_filter_76 rfl ?_
      refine zr_sub [1, 2, 0] rfl ?_
      exact ih x1 x2_7 G_4 hf
set_option maxRecDepth 100000 in
set_option maxHeartbeats 4000000 in
theorem z_M_filter_23 {κ : zx_K} {ad : Nat → Nat} {r : Int32} {G1 : zx_G} (h : zx_C M_M_filter κ ad) (hE : zx_E M_M_filter κ ad r G1) {k2 : Int32 → zx_G → Option (Int32 × zx_G)} (hk2 : ∀ (x1 : Int32) (G : zx_G), k2 x1 G = some (r, G1) → zx_Z κ ad 2 [(0, .ref (ad 32)), (1, .int x1)] [] G) : ∀ (n : Nat) (x1 x2 : Int32) (G : zx_G), f_M_filter_23 k2 n x1 x2 G = some (r, G1) → zx_Z κ ad 23 [(0, .ref (ad 32)), (1, .int x1), (2, .int x2)] [] G := by
  intro n
  induction n with
  | zero => intro x1 x2 G hf; cases hf
  | succ n ih =>
    intro x1 x2 G hf
    unfold f_M_filter_23 at hf
    refine zr_iload_n h d_M_filter_23 rfl rfl 2 rfl ?_
    refine zr_sipush (v := (256 : Int32)) h d_M_filter_24 rfl (by decide) ?_
    rcases zx_if_some hf with ⟨hc_1, hf⟩ | ⟨hc_1, hf⟩
    · refine zr_icmp_ge_t (tgt := 50) h d_M_filter_27 rfl hc_1 ?_
      refine zr_iconst (v := (0 : Int32)) h d_M_filter_50 rfl (by decide) ?_
      obtain ⟨x2_2, ex2_2, hf⟩ := zx_lt_some hf
      refine zr_istore_n h d_M_filter_51 rfl rfl (by decide) ex2_2 rfl ?_
      refine zr_sub [1, 2, 0] rfl ?_
      exact z_M_filter_52 h hE hk2 2048 x1 x2_2 G hf
    · refine zr_icmp_ge_f h 50 d_M_filter_27 rfl rfl hc_1 ?_
      refine zr_aload_n h d_M_filter_30 rfl rfl 0 rfl ?_
      refine zr_iload_n h d_M_filter_31 rfl rfl 1 rfl ?_
      refine zr_iload_n h d_M_filter_32 rfl rfl 2 rfl ?_
      refine zr_bipush (v := (16 : Int32)) h d_M_filter_33 rfl (by decide) ?_
      obtain ⟨hb_3, hf⟩ := zx_gd_some hf
      refine zr_irem h d_M_filter_35 rfl (zx_nz_ne hb_3) ?_
      refine zr_iload_n h d_M_filter_36 rfl rfl 2 rfl ?_
      refine zr_bipush (v := (16 : Int32)) h d_M_filter_37 rfl (by decide) ?_
      obtain ⟨hb_4, hf⟩ := zx_gd_some hf
      refine zr_idiv h d_M_filter_39 rfl (zx_nz_ne hb_4) ?_
      refine zr_iconst (v := (1 : Int32)) h d_M_filter_40 rfl (by decide) ?_
      obtain ⟨r_6, G_5, hq_7, hf⟩ := zx_bd_some hf
      refine zr_callVV (As := [.int x1, .int (zx_rem x2 (16 : Int32)), .int (zx_div x2 (16 : Int32)), .int (1 : Int32)]) (b := 32) h (c_M_smooth _ _ _ _ _ x1 (zx_rem x2 (16 : Int32)) (zx_div x2 (16 : Int32)) (1 : Int32) G r_6 G_5 hq_7) cc_M_267 d_M_filter_41 rfl rfl rfl sh_32 ⟨rfl, rfl, by decide, by decide⟩ (Nat.le_of_ble_eq_true rfl) ?_
      obtain ⟨x2_8, ex2_8, hf⟩ := zx_lt_some hf
      refine zr_iinc (j := 2) h d_M_filter_44 rfl rfl (by decide) ex2_8 (by decide) rfl ?_
      refine zr_goto (tgt := 23) h d_M_filter_47 rfl ?_
      refine zr_sub [1, 2, 0] rfl ?_
      exact ih x1 x2_8 G_5 hf
set_option maxRecDepth 100000 in
set_option maxHeartbeats 4000000 in
theorem z_M_filter_2 {κ : zx_K} {ad : Nat → Nat} {r : Int32} {G1 : zx_G} (h : zx_C M_M_filter κ ad) (hE : zx_E M_M_filter κ ad r G1) : ∀ (n : Nat) (x1 : Int32) (G : zx_G), f_M_filter_2 n x1 G = some (r, G1) → zx_Z κ ad 2 [(0, .ref (ad 32)), (1, .int x1)] [] G := by
  intro n
  induction n with
  | zero => intro x1 G hf; cases hf
  | succ n ih =>
    intro x1 G hf
    unfold f_M_filter_2 at hf
    refine zr_iload_n h d_M_filter_2 rfl rfl 1 rfl ?_
    refine zr_iconst (v := (1 : Int32)) h d_M_filter_3 rfl (by decide) ?_
    refine zr_iconst (v := (2 : Int32)) h d_M_filter_4 rfl (by decide) ?_
    refine zr_aload_n h d_M_filter_5 rfl rfl 0 rfl ?_
    refine zr_getI h d_M_filter_6 rfl fl_M_165 sh_32 rfl ?_
    refine zr_imul h d_M_filter_9 rfl ?_
    refine zr_iadd h d_M_filter_10 rfl ?_
    rcases zx_if_some hf with ⟨hc_1, hf⟩ | ⟨hc_1, hf⟩
    · refine zr_icmp_ge_t (tgt := 101) h d_M_filter_11 rfl hc_1 ?_
      exact zr_vret h hE d_M_filter_101 rfl hf
    · refine zr_icmp_ge_f h 101 d_M_filter_11 rfl rfl hc_1 ?_
      refine zr_aload_n h d_M_filter_14 rfl rfl 0 rfl ?_
      refine zr_getI h d_M_filter_15 rfl fl_M_189 sh_32 rfl ?_
      rcases zx_if_some hf with ⟨hc_2, hf⟩ | ⟨hc_2, hf⟩
      · refine zr_if_eq_t (tgt := 79) h d_M_filter_18 rfl hc_2 ?_
        exact z_M_filter_79 h hE ih x1 G hf
      · refine zr_if_eq_f h 79 d_M_filter_18 rfl rfl hc_2 ?_
        refine zr_iconst (v := (0 : Int32)) h d_M_filter_21 rfl (by decide) ?_
        obtain ⟨x2_3, ex2_3, hf⟩ := zx_lt_some hf
        refine zr_istore_n h d_M_filter_22 rfl rfl (by decide) ex2_3 rfl ?_
        refine zr_sub [1, 2, 0] rfl ?_
        exact z_M_filter_23 h hE ih 2048 x1 x2_3 G hf
set_option maxRecDepth 100000 in
set_option maxHeartbeats 4000000 in
theorem z_M_filter_0 {κ : zx_K} {ad : Nat → Nat} {r : Int32} {G1 : zx_G} (h : zx_C M_M_filter κ ad) (hE : zx_E M_M_filter κ ad r G1) (G : zx_G) (hf : f_M_filter G = some (r, G1)) : zx_Z κ ad 0 [(0, .ref (ad 32))] [] G := by
  unfold f_M_filter at hf
  refine zr_iconst (v := (0 : Int32)) h d_M_filter_0 rfl (by decide) ?_
  obtain ⟨x1_1, ex1_1, hf⟩ := zx_lt_some hf
  refine zr_istore_n h d_M_filter_1 rfl rfl (by decide) ex1_1 rfl ?_
  refine zr_sub [1, 0] rfl ?_
  exact z_M_filter_2 h hE 2048 x1_1 G hf
theorem c_M_filter (l : Launch) (D : va_G) (cA : ClassId) (ad : Nat → Nat) (A : Nat → Prop) (G : zx_G) (r : Int32) (G1 : zx_G) (hf : f_M_filter G = some (r, G1)) : zx_met l y_M_filter M_M_filter [.ref (ad 32)] D cA ad A G r G1 :=
  zx_toMet (by decide) rfl (Nat.le_of_ble_eq_true rfl) (fun κ h hE => by exact z_M_filter_0 h hE G hf)

def f_M_tableSize_61 (s0 : Int32) (G : zx_G) : Option (Int32 × zx_G) :=
  some (s0, G)
def f_M_tableSize_17 (G : zx_G) : Option (Int32 × zx_G) :=
  f_M_tableSize_61 (2 : Int32) G
def f_M_tableSize_55 (G : zx_G) : Option (Int32 × zx_G) :=
  f_M_tableSize_61 (16 : Int32) G
def f_M_tableSize (x0 : Int32) (G : zx_G) : Option (Int32 × zx_G) :=
  zx_if (x0 < (2 : Int32))
    (f_M_tableSize_17 G)
    (zx_if (x0 = (8 : Int32))
      (f_M_tableSize_17 G)
      (zx_if (¬ x0 = (9 : Int32))
        (zx_if ((6 : Int32) ≤ x0)
          (zx_if ((8 : Int32) ≤ x0)
            (zx_if (x0 = (11 : Int32))
              (f_M_tableSize_55 G)
              (zx_if (¬ x0 = (12 : Int32))
                (f_M_tableSize_61 (4 : Int32) G)
                (f_M_tableSize_55 G)))
            (f_M_tableSize_61 (7 : Int32) G))
          (f_M_tableSize_61 (6 : Int32) G))
        (f_M_tableSize_17 G)))
set_option maxRecDepth 100000 in
set_option maxHeartbeats 4000000 in
theorem z_M_tableSize_61 {κ : zx_K} {ad : Nat → Nat} {r : Int32} {G1 : zx_G} (h : zx_C M_M_tableSize κ ad) (hE : zx_E M_M_tableSize κ ad r G1) (s0 : Int32) (G : zx_G) (hf : f_M_tableSize_61 s0 G = some (r, G1)) : zx_Z κ ad 61 [] [.int s0] G := by
  unfold f_M_tableSize_61 at hf
  exact zr_iret h hE d_M_tableSize_61 rfl hf
set_option maxRecDepth 100000 in
set_option maxHeartbeats 4000000 in
theorem z_M_tableSize_17 {κ : zx_K} {ad : Nat → Nat} {r : Int32} {G1 : zx_G} (h : zx_C M_M_tableSize κ ad) (hE : zx_E M_M_tableSize κ ad r G1) (G : zx_G) (hf : f_M_tableSize_17 G = some (r, G1)) : zx_Z κ ad 17 [] [] G := by
  unfold f_M_tableSize_17 at hf
  refine zr_iconst (v := (2 : Int32)) h d_M_tableSize_17 rfl (by decide) ?_
  refine zr_goto (tgt := 61) h d_M_tableSize_18 rfl ?_
  exact z_M_tableSize_61 h hE (2 : Int32) G hf
set_option maxRecDepth 100000 in
set_option maxHeartbeats 4000000 in
theorem z_M_tableSize_55 {κ : zx_K} {ad : Nat → Nat} {r : Int32} {G1 : zx_G} (h : zx_C M_M_tableSize κ ad) (hE : zx_E M_M_tableSize κ ad r G1) (G : zx_G) (hf : f_M_tableSize_55 G = some (r, G1)) : zx_Z κ ad 55 [] [] G := by
  unfold f_M_tableSize_55 at hf
  refine zr_bipush (v := (16 : Int32)) h d_M_tableSize_55 rfl (by decide) ?_
  refine zr_goto (tgt := 61) h d_M_tableSize_57 rfl ?_
  exact z_M_tableSize_61 h hE (16 : Int32) G hf
set_option maxRecDepth 100000 in
set_option maxHeartbeats 4000000 in
theorem z_M_tableSize_0 {κ : zx_K} {ad : Nat → Nat} {r : Int32} {G1 : zx_G} (h : zx_C M_M_tableSize κ ad) (hE : zx_E M_M_tableSize κ ad r G1) (x0 : Int32) (G : zx_G) (hf : f_M_tableSize x0 G = some (r, G1)) : zx_Z κ ad 0 [(0, .int x0)] [] G := by
  unfold f_M_tableSize at hf
  refine zr_iload_n h d_M_tableSize_0 rfl rfl 0 rfl ?_
  refine zr_iconst (v := (2 : Int32)) h d_M_tableSize_1 rfl (by decide) ?_
  rcases zx_if_some hf with ⟨hc_1, hf⟩ | ⟨hc_1, hf⟩
  · refine zr_icmp_lt_t (tgt := 17) h d_M_tableSize_2 rfl hc_1 ?_
    refine zr_sub [] rfl ?_
    exact z_M_tableSize_17 h hE G hf
  · refine zr_icmp_lt_f h 17 d_M_tableSize_2 rfl rfl hc_1 ?_
    refine zr_iload_n h d_M_tableSize_5 rfl rfl 0 rfl ?_
    refine zr_bipush (v := (8 : Int32)) h d_M_tableSize_6 rfl (by decide) ?_
    rcases zx_if_some hf with ⟨hc_2, hf⟩ | ⟨hc_2, hf⟩
    · refine zr_icmp_eq_t (tgt := 17) h d_M_tableSize_8 rfl hc_2 ?_
      refine zr_sub [] rfl ?_
      exact z_M_tableSize_17 h hE G hf
    · refine zr_icmp_eq_f h 17 d_M_tableSize_8 rfl rfl hc_2 ?_
      refine zr_iload_n h d_M_tableSize_11 rfl rfl 0 rfl ?_
      refine zr_bipush (v := (9 : Int32)) h d_M_tableSize_12 rfl (by decide) ?_
      rcases zx_if_some hf with ⟨hc_3, hf⟩ | ⟨hc_3, hf⟩
      · refine zr_icmp_ne_t (tgt := 21) h d_M_tableSize_14 rfl hc_3 ?_
        refine zr_iload_n h d_M_tableSize_21 rfl rfl 0 rfl ?_
        refine zr_bipush (v := (6 : Int32)) h d_M_tableSize_22 rfl (by decide) ?_
        rcases zx_if_some hf with ⟨hc_4, hf⟩ | ⟨hc_4, hf⟩
        · refine zr_icmp_ge_t (tgt := 32) h d_M_tableSize_24 rfl hc_4 ?_
          refine zr_iload_n h d_M_tableSize_32 rfl rfl 0 rfl ?_
          refine zr_bipush (v := (8 : Int32)) h d_M_tableSize_33 rfl (by decide) ?_
          rcases zx_if_some hf with ⟨hc_5, hf⟩ | ⟨hc_5, hf⟩
          · refine zr_icmp_ge_t (tgt := 43) h d_M_tableSize_35 rfl hc_5 ?_
            refine zr_iload_n h d_M_tableSize_43 rfl rfl 0 rfl ?_
            refine zr_bipush (v := (11 : Int32)) h d_M_tableSize_44 rfl (by decide) ?_
            rcases zx_if_some hf with ⟨hc_6, hf⟩ | ⟨hc_6, hf⟩
            · refine zr_icmp_eq_t (tgt := 55) h d_M_tableSize_46 rfl hc_6 ?_
              refine zr_sub [] rfl ?_
              exact z_M_tableSize_55 h hE G hf
            · refine zr_icmp_eq_f h 55 d_M_tableSize_46 rfl rfl hc_6 ?_
              refine zr_iload_n h d_M_tableSize_49 rfl rfl 0 rfl ?_
              refine zr_bipush (v := (12 : Int32)) h d_M_tableSize_50 rfl (by decide) ?_
              rcases zx_if_some hf with ⟨hc_7, hf⟩ | ⟨hc_7, hf⟩
              · refine zr_icmp_ne_t (tgt := 60) h d_M_tableSize_52 rfl hc_7 ?_
                refine zr_iconst (v := (4 : Int32)) h d_M_tableSize_60 rfl (by decide) ?_
                refine zr_sub [] rfl ?_
                exact z_M_tableSize_61 h hE (4 : Int32) G hf
              · refine zr_icmp_ne_f h 60 d_M_tableSize_52 rfl rfl hc_7 ?_
                refine zr_sub [] rfl ?_
                exact z_M_tableSize_55 h hE G hf
          · refine zr_icmp_ge_f h 43 d_M_tableSize_35 rfl rfl hc_5 ?_
            refine zr_bipush (v := (7 : Int32)) h d_M_tableSize_38 rfl (by decide) ?_
            refine zr_goto (tgt := 61) h d_M_tableSize_40 rfl ?_
            refine zr_sub [] rfl ?_
            exact z_M_tableSize_61 h hE (7 : Int32) G hf
        · refine zr_icmp_ge_f h 32 d_M_tableSize_24 rfl rfl hc_4 ?_
          refine zr_bipush (v := (6 : Int32)) h d_M_tableSize_27 rfl (by decide) ?_
          refine zr_goto (tgt := 61) h d_M_tableSize_29 rfl ?_
          refine zr_sub [] rfl ?_
          exact z_M_tableSize_61 h hE (6 : Int32) G hf
      · refine zr_icmp_ne_f h 21 d_M_tableSize_14 rfl rfl hc_3 ?_
        refine zr_sub [] rfl ?_
        exact z_M_tableSize_17 h hE G hf
theorem c_M_tableSize (l : Launch) (D : va_G) (cA : ClassId) (ad : Nat → Nat) (A : Nat → Prop) (x0 : Int32) (G : zx_G) (r : Int32) (G1 : zx_G) (hf : f_M_tableSize x0 G = some (r, G1)) : zx_met l y_M_tableSize M_M_tableSize [.int x0] D cA ad A G r G1 :=
  zx_toMet (by decide) rfl (Nat.le_of_ble_eq_true rfl) (fun κ h hE => by exact z_M_tableSize_0 h hE x0 G hf)
