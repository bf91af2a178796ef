/-! the methods as functions, and the rows that tie them to the machine; written by a program -/
def f_I_areLinksWhole_16 (G : zx_G) : Option (Int32 × zx_G) :=
  zx_gd (zx_01 (0 : Int32)) <| some ((0 : Int32), G)
def f_I_areLinksWhole_48 (G : zx_G) : Option (Int32 × zx_G) :=
  zx_gd (zx_01 (0 : Int32)) <| some ((0 : Int32), G)
def f_I_areLinksWhole_102 (s0 : Int32) (G : zx_G) : Option (Int32 × zx_G) :=
  zx_gd (zx_01 s0) <| some (s0, G)
def f_I_areLinksWhole_101 (G : zx_G) : Option (Int32 × zx_G) :=
  f_I_areLinksWhole_102 (0 : Int32) G
def f_I_areLinksWhole (G : zx_G) : Option (Int32 × zx_G) :=
  zx_if ((G 8 8) = (-1 : Int32))
    (f_I_areLinksWhole_16 G)
    (zx_if (¬ (G 8 9) = (-1 : Int32))
      (zx_bd (f_B_contentLength (G 8 8) G) fun r_4 G_3 =>
      zx_if (r_4 < (2 : Int32))
        (f_I_areLinksWhole_48 G_3)
        (zx_bd (f_B_contentLength (G_3 8 9) G_3) fun r_8 G_7 =>
        zx_if ((1 : Int32) ≤ r_8)
          (zx_if (¬ (G_7 8 10) = (-1 : Int32))
            (zx_bd (f_B_contentLength (G_7 8 10) G_7) fun r_13 G_12 =>
            zx_lt r_13 fun x1_15 =>
            zx_if (x1_15 ≤ 0)
              (f_I_areLinksWhole_101 G_12)
              (zx_gd (zx_in (G_12 8 10) 16) <|
              zx_gd (zx_in (G_12 4 (Int32.toNatClampNeg (G_12 8 10))) 240) <|
              zx_if (x1_15 ≤ (G_12 1 (Int32.toNatClampNeg (G_12 4 (Int32.toNatClampNeg (G_12 8 10))))))
                (f_I_areLinksWhole_101 G_12)
                (f_I_areLinksWhole_102 (1 : Int32) G_12)))
            (zx_gd (zx_01 (1 : Int32)) <| some ((1 : Int32), G_7)))
          (f_I_areLinksWhole_48 G_7)))
      (f_I_areLinksWhole_16 G))
set_option maxRecDepth 100000 in
set_option maxHeartbeats 4000000 in
theorem z_I_areLinksWhole_16 {κ : zx_K} {ad : Nat → Nat} {r : Int32} {G1 : zx_G} (h : zx_C M_I_areLinksWhole κ ad) (hE : zx_E M_I_areLinksWhole κ ad r G1) (G : zx_G) (hf : f_I_areLinksWhole_16 G = some (r, G1)) : zx_Z κ ad 16 [] [] G := by
  unfold f_I_areLinksWhole_16 at hf
  refine zr_iconst (v := (0 : Int32)) h d_I_areLinksWhole_16 rfl (by decide) ?_
  obtain ⟨hb_1, hf⟩ := zx_gd_some hf
  exact zr_zret h hE d_I_areLinksWhole_17 rfl hb_1 hf
set_option maxRecDepth 100000 in
set_option maxHeartbeats 4000000 in
theorem z_I_areLinksWhole_48 {κ : zx_K} {ad : Nat → Nat} {r : Int32} {G1 : zx_G} (h : zx_C M_I_areLinksWhole κ ad) (hE : zx_E M_I_areLinksWhole κ ad r G1) (G : zx_G) (hf : f_I_areLinksWhole_48 G = some (r, G1)) : zx_Z κ ad 48 [] [] G := by
  unfold f_I_areLinksWhole_48 at hf
  refine zr_iconst (v := (0 : Int32)) h d_I_areLinksWhole_48 rfl (by decide) ?_
  obtain ⟨hb_1, hf⟩ := zx_gd_some hf
  exact zr_zret h hE d_I_areLinksWhole_49 rfl hb_1 hf
set_option maxRecDepth 100000 in
set_option maxHeartbeats 4000000 in
theorem z_I_areLinksWhole_102 {κ : zx_K} {ad : Nat → Nat} {r : Int32} {G1 : zx_G} (h : zx_C M_I_areLinksWhole κ ad) (hE : zx_E M_I_areLinksWhole κ ad r G1) (s0 : Int32) (G : zx_G) (hf : f_I_areLinksWhole_102 s0 G = some (r, G1)) : zx_Z κ ad 102 [] [.int s0] G := by
  unfold f_I_areLinksWhole_102 at hf
  obtain ⟨hb_1, hf⟩ := zx_gd_some hf
  exact zr_zret h hE d_I_areLinksWhole_102 rfl hb_1 hf
set_option maxRecDepth 100000 in
set_option maxHeartbeats 4000000 in
theorem z_I_areLinksWhole_101 {κ : zx_K} {ad : Nat → Nat} {r : Int32} {G1 : zx_G} (h : zx_C M_I_areLinksWhole κ ad) (hE : zx_E M_I_areLinksWhole κ ad r G1) (G : zx_G) (hf : f_I_areLinksWhole_101 G = some (r, G1)) : zx_Z κ ad 101 [] [] G := by
  unfold f_I_areLinksWhole_101 at hf
  refine zr_iconst (v := (0 : Int32)) h d_I_areLinksWhole_101 rfl (by decide) ?_
  exact z_I_areLinksWhole_102 h hE (0 : Int32) G hf
set_option maxRecDepth 100000 in
set_option maxHeartbeats 4000000 in
theorem z_I_areLinksWhole_0 {κ : zx_K} {ad : Nat → Nat} {r : Int32} {G1 : zx_G} (h : zx_C M_I_areLinksWhole κ ad) (hE : zx_E M_I_areLinksWhole κ ad r G1) (G : zx_G) (hf : f_I_areLinksWhole G = some (r, G1)) : zx_Z κ ad 0 [(0, .ref (ad 8))] [] G := by
  unfold f_I_areLinksWhole at hf
  refine zr_aload_n h d_I_areLinksWhole_0 rfl rfl 0 rfl ?_
  refine zr_getI h d_I_areLinksWhole_1 rfl fl_I_91 sh_8 rfl ?_
  refine zr_iconst (v := (-1 : Int32)) h d_I_areLinksWhole_4 rfl (by decide) ?_
  rcases zx_if_some hf with ⟨hc_1, hf⟩ | ⟨hc_1, hf⟩
  · refine zr_icmp_eq_t (tgt := 16) h d_I_areLinksWhole_5 rfl hc_1 ?_
    refine zr_sub [] rfl ?_
    exact z_I_areLinksWhole_16 h hE G hf
  · refine zr_icmp_eq_f h 16 d_I_areLinksWhole_5 rfl rfl hc_1 ?_
    refine zr_aload_n h d_I_areLinksWhole_8 rfl rfl 0 rfl ?_
    refine zr_getI h d_I_areLinksWhole_9 rfl fl_I_94 sh_8 rfl ?_
    refine zr_iconst (v := (-1 : Int32)) h d_I_areLinksWhole_12 rfl (by decide) ?_
    rcases zx_if_some hf with ⟨hc_2, hf⟩ | ⟨hc_2, hf⟩
    · refine zr_icmp_ne_t (tgt := 18) h d_I_areLinksWhole_13 rfl hc_2 ?_
      refine zr_aload_n h d_I_areLinksWhole_18 rfl rfl 0 rfl ?_
      refine zr_getR h d_I_areLinksWhole_19 rfl fl_I_18 sh_8 rfl ?_
      refine zr_aload_n h d_I_areLinksWhole_22 rfl rfl 0 rfl ?_
      refine zr_getI h d_I_areLinksWhole_23 rfl fl_I_91 sh_8 rfl ?_
      obtain ⟨r_4, G_3, hq_5, hf⟩ := zx_bd_some hf
      refine zr_callVI (As := [.int (G 8 8)]) (b := 2) h (c_B_contentLength _ _ _ _ _ (G 8 8) G r_4 G_3 hq_5) cc_I_48 d_I_areLinksWhole_26 rfl rfl rfl sh_2 ⟨rfl, rfl, by decide, by decide⟩ (Nat.le_of_ble_eq_true rfl) ?_
      refine zr_iconst (v := (2 : Int32)) h d_I_areLinksWhole_29 rfl (by decide) ?_
      rcases zx_if_some hf with ⟨hc_6, hf⟩ | ⟨hc_6, hf⟩
      · refine zr_icmp_lt_t (tgt := 48) h d_I_areLinksWhole_30 rfl hc_6 ?_
        refine zr_sub [] rfl ?_
        exact z_I_areLinksWhole_48 h hE G_3 hf
      · refine zr_icmp_lt_f h 48 d_I_areLinksWhole_30 rfl rfl hc_6 ?_
        refine zr_aload_n h d_I_areLinksWhole_33 rfl rfl 0 rfl ?_
        refine zr_getR h d_I_areLinksWhole_34 rfl fl_I_18 sh_8 rfl ?_
        refine zr_aload_n h d_I_areLinksWhole_37 rfl rfl 0 rfl ?_
        refine zr_getI h d_I_areLinksWhole_38 rfl fl_I_94 sh_8 rfl ?_
        obtain ⟨r_8, G_7, hq_9, hf⟩ := zx_bd_some hf
        refine zr_callVI (As := [.int (G_3 8 9)]) (b := 2) h (c_B_contentLength _ _ _ _ _ (G_3 8 9) G_3 r_8 G_7 hq_9) cc_I_48 d_I_areLinksWhole_41 rfl rfl rfl sh_2 ⟨rfl, rfl, by decide, by decide⟩ (Nat.le_of_ble_eq_true rfl) ?_
        refine zr_iconst (v := (1 : Int32)) h d_I_areLinksWhole_44 rfl (by decide) ?_
        rcases zx_if_some hf with ⟨hc_10, hf⟩ | ⟨hc_10, hf⟩
        · refine zr_icmp_ge_t (tgt := 50) h d_I_areLinksWhole_45 rfl hc_10 ?_
          refine zr_aload_n h d_I_areLinksWhole_50 rfl rfl 0 rfl ?_
          refine zr_getI h d_I_areLinksWhole_51 rfl fl_I_97 sh_8 rfl ?_
          refine zr_iconst (v := (-1 : Int32)) h d_I_areLinksWhole_54 rfl (by decide) ?_
          rcases zx_if_some hf with ⟨hc_11, hf⟩ | ⟨hc_11, hf⟩
          · refine zr_icmp_ne_t (tgt := 60) h d_I_areLinksWhole_55 rfl hc_11 ?_
            refine zr_aload_n h d_I_areLinksWhole_60 rfl rfl 0 rfl ?_
            refine zr_getR h d_I_areLinksWhole_61 rfl fl_I_18 sh_8 rfl ?_
            refine zr_aload_n h d_I_areLinksWhole_64 rfl rfl 0 rfl ?_
            refine zr_getI h d_I_areLinksWhole_65 rfl fl_I_97 sh_8 rfl ?_
            obtain ⟨r_13, G_12, hq_14, hf⟩ := zx_bd_some hf
            refine zr_callVI (As := [.int (G_7 8 10)]) (b := 2) h (c_B_contentLength _ _ _ _ _ (G_7 8 10) G_7 r_13 G_12 hq_14) cc_I_48 d_I_areLinksWhole_68 rfl rfl rfl sh_2 ⟨rfl, rfl, by decide, by decide⟩ (Nat.le_of_ble_eq_true rfl) ?_
            obtain ⟨x1_15, ex1_15, hf⟩ := zx_lt_some hf
            refine zr_istore_n h d_I_areLinksWhole_71 rfl rfl (by decide) ex1_15 rfl ?_
            refine zr_iload_n h d_I_areLinksWhole_72 rfl rfl 0 rfl ?_
            rcases zx_if_some hf with ⟨hc_16, hf⟩ | ⟨hc_16, hf⟩
            · refine zr_if_le_t (tgt := 101) h d_I_areLinksWhole_73 rfl hc_16 ?_
              refine zr_sub [] rfl ?_
              exact z_I_areLinksWhole_101 h hE G_12 hf
            · refine zr_if_le_f h 101 d_I_areLinksWhole_73 rfl rfl hc_16 ?_
              refine zr_iload_n h d_I_areLinksWhole_76 rfl rfl 0 rfl ?_
              refine zr_aload_n h d_I_areLinksWhole_77 rfl rfl 1 rfl ?_
              refine zr_getR h d_I_areLinksWhole_78 rfl fl_I_15 sh_8 rfl ?_
              refine zr_aload_n h d_I_areLinksWhole_81 rfl rfl 1 rfl ?_
              refine zr_getR h d_I_areLinksWhole_82 rfl fl_I_18 sh_8 rfl ?_
              refine zr_getR h d_I_areLinksWhole_85 rfl fl_I_52 sh_2 rfl ?_
              refine zr_aload_n h d_I_areLinksWhole_88 rfl rfl 1 rfl ?_
              refine zr_getI h d_I_areLinksWhole_89 rfl fl_I_97 sh_8 rfl ?_
              obtain ⟨hb_17, hf⟩ := zx_gd_some hf
              refine zr_iald h d_I_areLinksWhole_92 rfl sh_4 hb_17 ?_
              obtain ⟨hb_18, hf⟩ := zx_gd_some hf
              refine zr_iald h d_I_areLinksWhole_93 rfl sh_1 hb_18 ?_
              rcases zx_if_some hf with ⟨hc_19, hf⟩ | ⟨hc_19, hf⟩
              · refine zr_icmp_le_t (tgt := 101) h d_I_areLinksWhole_94 rfl hc_19 ?_
                refine zr_sub [] rfl ?_
                exact z_I_areLinksWhole_101 h hE G_12 hf
              · refine zr_icmp_le_f h 101 d_I_areLinksWhole_94 rfl rfl hc_19 ?_
                refine zr_iconst (v := (1 : Int32)) h d_I_areLinksWhole_97 rfl (by decide) ?_
                refine zr_goto (tgt := 102) h d_I_areLinksWhole_98 rfl ?_
                refine zr_sub [] rfl ?_
                exact z_I_areLinksWhole_102 h hE (1 : Int32) G_12 hf
          · refine zr_icmp_ne_f h 60 d_I_areLinksWhole_55 rfl rfl hc_11 ?_
            refine zr_iconst (v := (1 : Int32)) h d_I_areLinksWhole_58 rfl (by decide) ?_
            obtain ⟨hb_20, hf⟩ := zx_gd_some hf
            exact zr_zret h hE d_I_areLinksWhole_59 rfl hb_20 hf
        · refine zr_icmp_ge_f h 50 d_I_areLinksWhole_45 rfl rfl hc_10 ?_
          refine zr_sub [] rfl ?_
          exact z_I_areLinksWhole_48 h hE G_7 hf
    · refine zr_icmp_ne_f h 18 d_I_areLinksWhole_13 rfl rfl hc_2 ?_
      refine zr_sub [] rfl ?_
      exact z_I_areLinksWhole_16 h hE G hf
theorem c_I_areLinksWhole (l : Launch) (D : va_G) (cA : ClassId) (ad : Nat → Nat) (A : Nat → Prop) (G : zx_G) (r : Int32) (G1 : zx_G) (hf : f_I_areLinksWhole G = some (r, G1)) : zx_met l y_I_areLinksWhole M_I_areLinksWhole [.ref (ad 8)] D cA ad A G r G1 :=
  zx_toMet (by decide) rfl (Nat.le_of_ble_eq_true rfl) (fun κ h hE => by exact z_I_areLinksWhole_0 h hE G hf)

def f_U_left_10 (G : zx_G) : Option (Int32 × zx_G) :=
  some (((G 10 2) - (G 10 1)), G)
set_option maxRecDepth 100000 in
set_option maxHeartbeats 4000000 in
theorem z_U_left_10_0 {κ : zx_K} {ad : Nat → Nat} {r : Int32} {G1 : zx_G} (h : zx_C M_U_left κ ad) (hE : zx_E M_U_left κ ad r G1) (G : zx_G) (hf : f_U_left_10 G = some (r, G1)) : zx_Z κ ad 0 [(0, .ref (ad 10))] [] G := by
  unfold f_U_left_10 at hf
  refine zr_aload_n h d_U_left_0 rfl rfl 0 rfl ?_
  refine zr_getI h d_U_left_1 rfl fl_U_26 sh_10 rfl ?_
  refine zr_aload_n h d_U_left_4 rfl rfl 0 rfl ?_
  refine zr_getI h d_U_left_5 rfl fl_U_19 sh_10 rfl ?_
  refine zr_isub h d_U_left_8 rfl ?_
  exact zr_iret h hE d_U_left_9 rfl hf
theorem c_U_left_10 (l : Launch) (D : va_G) (cA : ClassId) (ad : Nat → Nat) (A : Nat → Prop) (G : zx_G) (r : Int32) (G1 : zx_G) (hf : f_U_left_10 G = some (r, G1)) : zx_met l y_U_left M_U_left [.ref (ad 10)] D cA ad A G r G1 :=
  zx_toMet (by decide) rfl (Nat.le_of_ble_eq_true rfl) (fun κ h hE => by exact z_U_left_10_0 h hE G hf)

def f_B_property_48 (k5 : Int32 → Int32 → Int32 → Int32 → zx_G → Option (Int32 × zx_G)) (x1 x2 x3 x4 : Int32) (G : zx_G) : Option (Int32 × zx_G) :=
  zx_lt (x4 + (1 : Int32)) fun x4_1 =>
  k5 x1 x2 x3 x4_1 G
def f_B_property_5 : Nat → Int32 → Int32 → Int32 → Int32 → zx_G → Option (Int32 × zx_G)
  | 0, _, _, _, _, _ => none
  | n + 1, x1, x2, x3, x4, G =>
    zx_if ((G 2 6) ≤ x4)
      (some ((-1 : Int32), G))
      (zx_gd (zx_in x4 16) <|
      zx_if (¬ (G 6 (Int32.toNatClampNeg x4)) = x1)
        (f_B_property_48 (f_B_property_5 n) x1 x2 x3 x4 G)
        (zx_gd (zx_in x4 16) <|
        zx_if ((G 3 (Int32.toNatClampNeg x4)) = (97 : Int32))
          (f_B_property_48 (f_B_property_5 n) x1 x2 x3 x4 G)
          (zx_lt (x3 + (1 : Int32)) fun x3_6 =>
          zx_if (¬ x3_6 = x2)
            (f_B_property_48 (f_B_property_5 n) x1 x2 x3_6 x4 G)
            (some (x4, G)))))
def f_B_property (x1 x2 : Int32) (G : zx_G) : Option (Int32 × zx_G) :=
  zx_lt (0 : Int32) fun x3_1 =>
  zx_lt (0 : Int32) fun x4_2 =>
  f_B_property_5 2048 x1 x2 x3_1 x4_2 G
set_option maxRecDepth 100000 in
set_option maxHeartbeats 4000000 in
theorem z_B_property_48 {κ : zx_K} {ad : Nat → Nat} {r : Int32} {G1 : zx_G} (h : zx_C M_B_property κ ad) (hE : zx_E M_B_property κ ad r G1) {k5 : Int32 → Int32 → Int32 → Int32 → zx_G → Option (Int32 × zx_G)} (hk5 : ∀ (x1 x2 x3 x4 : Int32) (G : zx_G), k5 x1 x2 x3 x4 G = some (r, G1) → zx_Z κ ad 5 [(0, .ref (ad 2)), (1, .int x1), (2, .int x2), (3, .int x3), (4, .int x4)] [] G) (x1 x2 x3 x4 : Int32) (G : zx_G) (hf : f_B_property_48 k5 x1 x2 x3 x4 G = some (r, G1)) : zx_Z κ ad 48 [(0, .ref (ad 2)), (1, .int x1), (2, .int x2), (3, .int x3), (4, .int x4)] [] G := by
  unfold f_B_property_48 at hf
  obtain ⟨x4_1, ex4_1, hf⟩ := zx_lt_some hf
  refine zr_iinc (j := 4) h d_B_property_48 rfl rfl (by decide) ex4_1 (by decide) rfl ?_
  refine zr_goto (tgt := 5) h d_B_property_51 rfl ?_
  refine zr_sub [1, 2, 3, 4, 0] rfl ?_
  exact hk5 x1 x2 x3 x4_1 G hf
set_option maxRecDepth 100000 in
set_option maxHeartbeats 4000000 in
theorem z_B_property_5 {κ : zx_K} {ad : Nat → Nat} {r : Int32} {G1 : zx_G} (h : zx_C M_B_property κ ad) (hE : zx_E M_B_property κ ad r G1) : ∀ (n : Nat) (x1 x2 x3 x4 : Int32) (G : zx_G), f_B_property_5 n x1 x2 x3 x4 G = some (r, G1) → zx_Z κ ad 5 [(0, .ref (ad 2)), (1, .int x1), (2, .int x2), (3, .int x3), (4, .int x4)] [] G := by
  intro n
  induction n with
  | zero => intro x1 x2 x3 x4 G hf; cases hf
  | succ n ih =>
    intro x1 x2 x3 x4 G hf
    unfold f_B_property_5 at hf
    refine zr_iload h d_B_property_5 rfl 4 rfl ?_
    refine zr_aload_n h d_B_property_7 rfl rfl 0 rfl ?_
    refine zr_getI h d_B_property_8 rfl fl_B_30 sh_2 rfl ?_
    rcases zx_if_some hf with ⟨hc_1, hf⟩ | ⟨hc_1, hf⟩
    · refine zr_icmp_ge_t (tgt := 54) h d_B_property_11 rfl hc_1 ?_
      refine zr_iconst (v := (-1 : Int32)) h d_B_property_54 rfl (by decide) ?_
      exact zr_iret h hE d_B_property_55 rfl hf
    · refine zr_icmp_ge_f h 54 d_B_property_11 rfl rfl hc_1 ?_
      refine zr_aload_n h d_B_property_14 rfl rfl 0 rfl ?_
      refine zr_getR h d_B_property_15 rfl fl_B_21 sh_2 rfl ?_
      refine zr_iload h d_B_property_18 rfl 4 rfl ?_
      obtain ⟨hb_2, hf⟩ := zx_gd_some hf
      refine zr_iald h d_B_property_20 rfl sh_6 hb_2 ?_
      refine zr_iload_n h d_B_property_21 rfl rfl 1 rfl ?_
      rcases zx_if_some hf with ⟨hc_3, hf⟩ | ⟨hc_3, hf⟩
      · refine zr_icmp_ne_t (tgt := 48) h d_B_property_22 rfl hc_3 ?_
        exact z_B_property_48 h hE ih x1 x2 x3 x4 G hf
      · refine zr_icmp_ne_f h 48 d_B_property_22 rfl rfl hc_3 ?_
        refine zr_aload_n h d_B_property_25 rfl rfl 0 rfl ?_
        refine zr_getR h d_B_property_26 rfl fl_B_11 sh_2 rfl ?_
        refine zr_iload h d_B_property_29 rfl 4 rfl ?_
        obtain ⟨hb_4, hf⟩ := zx_gd_some hf
        refine zr_iald h d_B_property_31 rfl sh_3 hb_4 ?_
        refine zr_bipush (v := (97 : Int32)) h d_B_property_32 rfl (by decide) ?_
        rcases zx_if_some hf with ⟨hc_5, hf⟩ | ⟨hc_5, hf⟩
        · refine zr_icmp_eq_t (tgt := 48) h d_B_property_34 rfl hc_5 ?_
          exact z_B_property_48 h hE ih x1 x2 x3 x4 G hf
        · refine zr_icmp_eq_f h 48 d_B_property_34 rfl rfl hc_5 ?_
          obtain ⟨x3_6, ex3_6, hf⟩ := zx_lt_some hf
          refine zr_iinc (j := 3) h d_B_property_37 rfl rfl (by decide) ex3_6 (by decide) rfl ?_
          refine zr_iload_n h d_B_property_40 rfl rfl 0 rfl ?_
          refine zr_iload_n h d_B_property_41 rfl rfl 3 rfl ?_
          rcases zx_if_some hf with ⟨hc_7, hf⟩ | ⟨hc_7, hf⟩
          · refine zr_icmp_ne_t (tgt := 48) h d_B_property_42 rfl hc_7 ?_
            refine zr_sub [1, 2, 3, 0, 4] rfl ?_
            exact z_B_property_48 h hE ih x1 x2 x3_6 x4 G hf
          · refine zr_icmp_ne_f h 48 d_B_property_42 rfl rfl hc_7 ?_
            refine zr_iload h d_B_property_45 rfl 4 rfl ?_
            exact zr_iret h hE d_B_property_47 rfl hf
set_option maxRecDepth 100000 in
set_option maxHeartbeats 4000000 in
theorem z_B_property_0 {κ : zx_K} {ad : Nat → Nat} {r : Int32} {G1 : zx_G} (h : zx_C M_B_property κ ad) (hE : zx_E M_B_property κ ad r G1) (x1 x2 : Int32) (G : zx_G) (hf : f_B_property x1 x2 G = some (r, G1)) : zx_Z κ ad 0 [(0, .ref (ad 2)), (1, .int x1), (2, .int x2)] [] G := by
  unfold f_B_property at hf
  refine zr_iconst (v := (0 : Int32)) h d_B_property_0 rfl (by decide) ?_
  obtain ⟨x3_1, ex3_1, hf⟩ := zx_lt_some hf
  refine zr_istore_n h d_B_property_1 rfl rfl (by decide) ex3_1 rfl ?_
  refine zr_iconst (v := (0 : Int32)) h d_B_property_2 rfl (by decide) ?_
  obtain ⟨x4_2, ex4_2, hf⟩ := zx_lt_some hf
  refine zr_istore h d_B_property_3 rfl (by decide) ex4_2 rfl ?_
  refine zr_sub [2, 3, 4, 1, 0] rfl ?_
  exact z_B_property_5 h hE 2048 x1 x2 x3_1 x4_2 G hf
theorem c_B_property (l : Launch) (D : va_G) (cA : ClassId) (ad : Nat → Nat) (A : Nat → Prop) (x1 x2 : Int32) (G : zx_G) (r : Int32) (G1 : zx_G) (hf : f_B_property x1 x2 G = some (r, G1)) : zx_met l y_B_property M_B_property [.ref (ad 2), .int x1, .int x2] D cA ad A G r G1 :=
  zx_toMet (by decide) rfl (Nat.le_of_ble_eq_true rfl) (fun κ h hE => by exact z_B_property_0 h hE x1 x2 G hf)

def f_I_link_140 (G : zx_G) : Option (Int32 × zx_G) :=
  some ((0 : Int32), G)
def f_I_link_65 (s1 : Int32) (G : zx_G) : Option (Int32 × zx_G) :=
  zx_lt (zx_up G 8 8 s1) fun G_1 =>
  f_I_link_140 G_1
def f_I_link_95 (s1 : Int32) (G : zx_G) : Option (Int32 × zx_G) :=
  zx_lt (zx_up G 8 9 s1) fun G_1 =>
  f_I_link_140 G_1
def f_I_link_125 (s1 : Int32) (G : zx_G) : Option (Int32 × zx_G) :=
  zx_lt (zx_up G 8 10 s1) fun G_1 =>
  f_I_link_140 G_1
def f_I_link (x1 : Int32) (G : zx_G) : Option (Int32 × zx_G) :=
  zx_lt (x1 &&& (127 : Int32)) fun x2_1 =>
  zx_if (¬ x2_1 = 0)
    (zx_bd (f_B_property (G 8 7) x2_1 G) fun r_4 G_3 =>
    zx_lt r_4 fun x3_6 =>
    zx_if (0 ≤ x3_6)
      (zx_gd (zx_in x3_6 16) <|
      zx_lt (G_3 3 (Int32.toNatClampNeg x3_6)) fun x4_9 =>
      zx_if (¬ x4_9 = (115 : Int32))
        (zx_if (¬ x4_9 = (99 : Int32))
          (zx_if (¬ x4_9 = (120 : Int32))
            (zx_if (x1 < (128 : Int32))
              (f_I_link_140 G_3)
              (some ((5 : Int32), G_3)))
            (zx_if (¬ (G_3 8 10) = (-1 : Int32))
              (f_I_link_125 (G_3 8 10) G_3)
              (f_I_link_125 x3_6 G_3)))
          (zx_if (¬ (G_3 8 9) = (-1 : Int32))
            (f_I_link_95 (G_3 8 9) G_3)
            (f_I_link_95 x3_6 G_3)))
        (zx_if (¬ (G_3 8 8) = (-1 : Int32))
          (f_I_link_65 (G_3 8 8) G_3)
          (f_I_link_65 x3_6 G_3)))
      (some ((3 : Int32), G_3)))
    (some ((0 : Int32), G))
set_option maxRecDepth 100000 in
set_option maxHeartbeats 4000000 in
theorem z_I_link_140 {κ : zx_K} {ad : Nat → Nat} {r : Int32} {G1 : zx_G} (h : zx_C M_I_link κ ad) (hE : zx_E M_I_link κ ad r G1) (G : zx_G) (hf : f_I_link_140 G = some (r, G1)) : zx_Z κ ad 140 [] [] G := by
  unfold f_I_link_140 at hf
  refine zr_iconst (v := (0 : Int32)) h d_I_link_140 rfl (by decide) ?_
  exact zr_iret h hE d_I_link_141 rfl hf
set_option maxRecDepth 100000 in
set_option maxHeartbeats 4000000 in
theorem z_I_link_65 {κ : zx_K} {ad : Nat → Nat} {r : Int32} {G1 : zx_G} (h : zx_C M_I_link κ ad) (hE : zx_E M_I_link κ ad r G1) (s1 : Int32) (G : zx_G) (hf : f_I_link_65 s1 G = some (r, G1)) : zx_Z κ ad 65 [] [.int s1, .ref (ad 8)] G := by
  unfold f_I_link_65 at hf
  obtain ⟨G_1, eG_1, hf⟩ := zx_lt_some hf
  refine zr_putI h d_I_link_65 rfl fl_I_91 pl_I_8 sh_8 rfl rfl rfl eG_1 ?_
  refine zr_goto (tgt := 140) h d_I_link_68 rfl ?_
  exact z_I_link_140 h hE G_1 hf
set_option maxRecDepth 100000 in
set_option maxHeartbeats 4000000 in
theorem z_I_link_95 {κ : zx_K} {ad : Nat → Nat} {r : Int32} {G1 : zx_G} (h : zx_C M_I_link κ ad) (hE : zx_E M_I_link κ ad r G1) (s1 : Int32) (G : zx_G) (hf : f_I_link_95 s1 G = some (r, G1)) : zx_Z κ ad 95 [] [.int s1, .ref (ad 8)] G := by
  unfold f_I_link_95 at hf
  obtain ⟨G_1, eG_1, hf⟩ := zx_lt_some hf
  refine zr_putI h d_I_link_95 rfl fl_I_94 pl_I_9 sh_8 rfl rfl rfl eG_1 ?_
  refine zr_goto (tgt := 140) h d_I_link_98 rfl ?_
  exact z_I_link_140 h hE G_1 hf
set_option maxRecDepth 100000 in
set_option maxHeartbeats 4000000 in
theorem z_I_link_125 {κ : zx_K} {ad : Nat → Nat} {r : Int32} {G1 : zx_G} (h : zx_C M_I_link κ ad) (hE : zx_E M_I_link κ ad r G1) (s1 : Int32) (G : zx_G) (hf : f_I_link_125 s1 G = some (r, G1)) : zx_Z κ ad 125 [] [.int s1, .ref (ad 8)] G := by
  unfold f_I_link_125 at hf
  obtain ⟨G_1, eG_1, hf⟩ := zx_lt_some hf
  refine zr_putI h d_I_link_125 rfl fl_I_97 pl_I_10 sh_8 rfl rfl rfl eG_1 ?_
  refine zr_goto (tgt := 140) h d_I_link_128 rfl ?_
  exact z_I_link_140 h hE G_1 hf
set_option maxRecDepth 100000 in
set_option maxHeartbeats 4000000 in
theorem z_I_link_0 {κ : zx_K} {ad : Nat → Nat} {r : Int32} {G1 : zx_G} (h : zx_C M_I_link κ ad) (hE : zx_E M_I_link κ ad r G1) (x1 : Int32) (G : zx_G) (hf : f_I_link x1 G = some (r, G1)) : zx_Z κ ad 0 [(0, .ref (ad 8)), (1, .int x1)] [] G := by
  unfold f_I_link at hf
  refine zr_iload_n h d_I_link_0 rfl rfl 1 rfl ?_
  refine zr_bipush (v := (127 : Int32)) h d_I_link_1 rfl (by decide) ?_
  refine zr_iand h d_I_link_3 rfl ?_
  obtain ⟨x2_1, ex2_1, hf⟩ := zx_lt_some hf
  refine zr_istore_n h d_I_link_4 rfl rfl (by decide) ex2_1 rfl ?_
  refine zr_iload_n h d_I_link_5 rfl rfl 0 rfl ?_
  rcases zx_if_some hf with ⟨hc_2, hf⟩ | ⟨hc_2, hf⟩
  · refine zr_if_ne_t (tgt := 11) h d_I_link_6 rfl hc_2 ?_
    refine zr_aload_n h d_I_link_11 rfl rfl 1 rfl ?_
    refine zr_getR h d_I_link_12 rfl fl_I_18 sh_8 rfl ?_
    refine zr_aload_n h d_I_link_15 rfl rfl 1 rfl ?_
    refine zr_getI h d_I_link_16 rfl fl_I_45 sh_8 rfl ?_
    refine zr_iload_n h d_I_link_19 rfl rfl 0 rfl ?_
    obtain ⟨r_4, G_3, hq_5, hf⟩ := zx_bd_some hf
    refine zr_callVI (As := [.int (G 8 7), .int x2_1]) (b := 2) h (c_B_property _ _ _ _ _ (G 8 7) x2_1 G r_4 G_3 hq_5) cc_I_112 d_I_link_20 rfl rfl rfl sh_2 ⟨rfl, rfl, by decide, by decide⟩ (Nat.le_of_ble_eq_true rfl) ?_
    obtain ⟨x3_6, ex3_6, hf⟩ := zx_lt_some hf
    refine zr_istore_n h d_I_link_23 rfl rfl (by decide) ex3_6 rfl ?_
    refine zr_iload_n h d_I_link_24 rfl rfl 0 rfl ?_
    rcases zx_if_some hf with ⟨hc_7, hf⟩ | ⟨hc_7, hf⟩
    · refine zr_if_ge_t (tgt := 30) h d_I_link_25 rfl hc_7 ?_
      refine zr_aload_n h d_I_link_30 rfl rfl 2 rfl ?_
      refine zr_getR h d_I_link_31 rfl fl_I_18 sh_8 rfl ?_
      refine zr_getR h d_I_link_34 rfl fl_I_115 sh_2 rfl ?_
      refine zr_iload_n h d_I_link_37 rfl rfl 0 rfl ?_
      obtain ⟨hb_8, hf⟩ := zx_gd_some hf
      refine zr_iald h d_I_link_38 rfl sh_3 hb_8 ?_
      obtain ⟨x4_9, ex4_9, hf⟩ := zx_lt_some hf
      refine zr_istore h d_I_link_39 rfl (by decide) ex4_9 rfl ?_
      refine zr_iload h d_I_link_41 rfl 0 rfl ?_
      refine zr_bipush (v := (115 : Int32)) h d_I_link_43 rfl (by decide) ?_
      rcases zx_if_some hf with ⟨hc_10, hf⟩ | ⟨hc_10, hf⟩
      · refine zr_icmp_ne_t (tgt := 71) h d_I_link_45 rfl hc_10 ?_
        refine zr_iload h d_I_link_71 rfl 0 rfl ?_
        refine zr_bipush (v := (99 : Int32)) h d_I_link_73 rfl (by decide) ?_
        rcases zx_if_some hf with ⟨hc_11, hf⟩ | ⟨hc_11, hf⟩
        · refine zr_icmp_ne_t (tgt := 101) h d_I_link_75 rfl hc_11 ?_
          refine zr_iload h d_I_link_101 rfl 0 rfl ?_
          refine zr_bipush (v := (120 : Int32)) h d_I_link_103 rfl (by decide) ?_
          rcases zx_if_some hf with ⟨hc_12, hf⟩ | ⟨hc_12, hf⟩
          · refine zr_icmp_ne_t (tgt := 131) h d_I_link_105 rfl hc_12 ?_
            refine zr_iload_n h d_I_link_131 rfl rfl 4 rfl ?_
            refine zr_sipush (v := (128 : Int32)) h d_I_link_132 rfl (by decide) ?_
            rcases zx_if_some hf with ⟨hc_13, hf⟩ | ⟨hc_13, hf⟩
            · refine zr_icmp_lt_t (tgt := 140) h d_I_link_135 rfl hc_13 ?_
              refine zr_sub [] rfl ?_
              exact z_I_link_140 h hE G_3 hf
            · refine zr_icmp_lt_f h 140 d_I_link_135 rfl rfl hc_13 ?_
              refine zr_iconst (v := (5 : Int32)) h d_I_link_138 rfl (by decide) ?_
              exact zr_iret h hE d_I_link_139 rfl hf
          · refine zr_icmp_ne_f h 131 d_I_link_105 rfl rfl hc_12 ?_
            refine zr_aload_n h d_I_link_108 rfl rfl 3 rfl ?_
            refine zr_aload_n h d_I_link_109 rfl rfl 3 rfl ?_
            refine zr_getI h d_I_link_110 rfl fl_I_97 sh_8 rfl ?_
            refine zr_iconst (v := (-1 : Int32)) h d_I_link_113 rfl (by decide) ?_
            rcases zx_if_some hf with ⟨hc_14, hf⟩ | ⟨hc_14, hf⟩
            · refine zr_icmp_ne_t (tgt := 121) h d_I_link_114 rfl hc_14 ?_
              refine zr_aload_n h d_I_link_121 rfl rfl 3 rfl ?_
              refine zr_getI h d_I_link_122 rfl fl_I_97 sh_8 rfl ?_
              refine zr_sub [] rfl ?_
              exact z_I_link_125 h hE (G_3 8 10) G_3 hf
            · refine zr_icmp_ne_f h 121 d_I_link_114 rfl rfl hc_14 ?_
              refine zr_iload_n h d_I_link_117 rfl rfl 1 rfl ?_
              refine zr_goto (tgt := 125) h d_I_link_118 rfl ?_
              refine zr_sub [] rfl ?_
              exact z_I_link_125 h hE x3_6 G_3 hf
        · refine zr_icmp_ne_f h 101 d_I_link_75 rfl rfl hc_11 ?_
          refine zr_aload_n h d_I_link_78 rfl rfl 3 rfl ?_
          refine zr_aload_n h d_I_link_79 rfl rfl 3 rfl ?_
          refine zr_getI h d_I_link_80 rfl fl_I_94 sh_8 rfl ?_
          refine zr_iconst (v := (-1 : Int32)) h d_I_link_83 rfl (by decide) ?_
          rcases zx_if_some hf with ⟨hc_15, hf⟩ | ⟨hc_15, hf⟩
          · refine zr_icmp_ne_t (tgt := 91) h d_I_link_84 rfl hc_15 ?_
            refine zr_aload_n h d_I_link_91 rfl rfl 3 rfl ?_
            refine zr_getI h d_I_link_92 rfl fl_I_94 sh_8 rfl ?_
            refine zr_sub [] rfl ?_
            exact z_I_link_95 h hE (G_3 8 9) G_3 hf
          · refine zr_icmp_ne_f h 91 d_I_link_84 rfl rfl hc_15 ?_
            refine zr_iload_n h d_I_link_87 rfl rfl 1 rfl ?_
            refine zr_goto (tgt := 95) h d_I_link_88 rfl ?_
            refine zr_sub [] rfl ?_
            exact z_I_link_95 h hE x3_6 G_3 hf
      · refine zr_icmp_ne_f h 71 d_I_link_45 rfl rfl hc_10 ?_
        refine zr_aload_n h d_I_link_48 rfl rfl 3 rfl ?_
        refine zr_aload_n h d_I_link_49 rfl rfl 3 rfl ?_
        refine zr_getI h d_I_link_50 rfl fl_I_91 sh_8 rfl ?_
        refine zr_iconst (v := (-1 : Int32)) h d_I_link_53 rfl (by decide) ?_
        rcases zx_if_some hf with ⟨hc_16, hf⟩ | ⟨hc_16, hf⟩
        · refine zr_icmp_ne_t (tgt := 61) h d_I_link_54 rfl hc_16 ?_
          refine zr_aload_n h d_I_link_61 rfl rfl 3 rfl ?_
          refine zr_getI h d_I_link_62 rfl fl_I_91 sh_8 rfl ?_
          refine zr_sub [] rfl ?_
          exact z_I_link_65 h hE (G_3 8 8) G_3 hf
        · refine zr_icmp_ne_f h 61 d_I_link_54 rfl rfl hc_16 ?_
          refine zr_iload_n h d_I_link_57 rfl rfl 1 rfl ?_
          refine zr_goto (tgt := 65) h d_I_link_58 rfl ?_
          refine zr_sub [] rfl ?_
          exact z_I_link_65 h hE x3_6 G_3 hf
    · refine zr_if_ge_f h 30 d_I_link_25 rfl rfl hc_7 ?_
      refine zr_iconst (v := (3 : Int32)) h d_I_link_28 rfl (by decide) ?_
      exact zr_iret h hE d_I_link_29 rfl hf
  · refine zr_if_ne_f h 11 d_I_link_6 rfl rfl hc_2 ?_
    refine zr_iconst (v := (0 : Int32)) h d_I_link_9 rfl (by decide) ?_
    exact zr_iret h hE d_I_link_10 rfl hf
theorem c_I_link (l : Launch) (D : va_G) (cA : ClassId) (ad : Nat → Nat) (A : Nat → Prop) (x1 : Int32) (G : zx_G) (r : Int32) (G1 : zx_G) (hf : f_I_link x1 G = some (r, G1)) : zx_met l y_I_link M_I_link [.ref (ad 8), .int x1] D cA ad A G r G1 :=
  zx_toMet (by decide) rfl (Nat.le_of_ble_eq_true rfl) (fun κ h hE => by exact z_I_link_0 h hE x1 G hf)

def f_I_readLink_63 (k24 : Int32 → Int32 → Int32 → zx_G → Option (Int32 × zx_G)) (x1 x2 x3 s0 : Int32) (G : zx_G) : Option (Int32 × zx_G) :=
  zx_lt s0 fun x5_1 =>
  zx_if (x5_1 = 0)
    (zx_lt (x3 + (1 : Int32)) fun x3_3 =>
    k24 x1 x2 x3_3 G)
    (some (x5_1, G))
def f_I_readLink_24 : Nat → Int32 → Int32 → Int32 → zx_G → Option (Int32 × zx_G)
  | 0, _, _, _, _ => none
  | n + 1, x1, x2, x3, G =>
    zx_if (x2 ≤ x3)
      (some ((0 : Int32), G))
      (zx_bd (f_U_nextByte_10 G) fun r_3 G_2 =>
      zx_lt r_3 fun x4_5 =>
      zx_if (0 ≤ x4_5)
        (zx_if (¬ x1 = (G_2 8 6))
          (f_I_readLink_63 (f_I_readLink_24 n) x1 x2 x3 (0 : Int32) G_2)
          (zx_bd (f_I_link x4_5 G_2) fun r_9 G_8 =>
          f_I_readLink_63 (f_I_readLink_24 n) x1 x2 x3 r_9 G_8))
        (some ((3 : Int32), G_2)))
def f_I_readLink (G : zx_G) : Option (Int32 × zx_G) :=
  zx_bd (f_U_nextByte_10 G) fun r_2 G_1 =>
  zx_lt r_2 fun x1_4 =>
  zx_bd (f_U_nextByte_10 G_1) fun r_6 G_5 =>
  zx_lt r_6 fun x2_8 =>
  zx_if (0 ≤ x2_8)
    (zx_lt (0 : Int32) fun x3_10 =>
    f_I_readLink_24 2048 x1_4 x2_8 x3_10 G_5)
    (some ((3 : Int32), G_5))
set_option maxRecDepth 100000 in
set_option maxHeartbeats 4000000 in
theorem z_I_readLink_63 {κ : zx_K} {ad : Nat → Nat} {r : Int32} {G1 : zx_G} (h : zx_C M_I_readLink κ ad) (hE : zx_E M_I_readLink κ ad r G1) {k24 : Int32 → Int32 → Int32 → zx_G → Option (Int32 × zx_G)} (hk24 : ∀ (x1 x2 x3 : Int32) (G : zx_G), k24 x1 x2 x3 G = some (r, G1) → zx_Z κ ad 24 [(0, .ref (ad 8)), (1, .int x1), (2, .int x2), (3, .int x3)] [] G) (x1 x2 x3 s0 : Int32) (G : zx_G) (hf : f_I_readLink_63 k24 x1 x2 x3 s0 G = some (r, G1)) : zx_Z κ ad 63 [(0, .ref (ad 8)), (1, .int x1), (2, .int x2), (3, .int x3)] [.int s0] G := by
  unfold f_I_readLink_63 at hf
  obtain ⟨x5_1, ex5_1, hf⟩ := zx_lt_some hf
  refine zr_istore h d_I_readLink_63 rfl (by decide) ex5_1 rfl ?_
  refine zr_iload h d_I_readLink_65 rfl 0 rfl ?_
  rcases zx_if_some hf with ⟨hc_2, hf⟩ | ⟨hc_2, hf⟩
  · refine zr_if_eq_t (tgt := 73) h d_I_readLink_67 rfl hc_2 ?_
    obtain ⟨x3_3, ex3_3, hf⟩ := zx_lt_some hf
    refine zr_iinc (j := 4) h d_I_readLink_73 rfl rfl (by decide) ex3_3 (by decide) rfl ?_
    refine zr_goto (tgt := 24) h d_I_readLink_76 rfl ?_
    refine zr_sub [2, 3, 4, 0] rfl ?_
    exact hk24 x1 x2 x3_3 G hf
  · refine zr_if_eq_f h 73 d_I_readLink_67 rfl rfl hc_2 ?_
    refine zr_iload h d_I_readLink_70 rfl 0 rfl ?_
    exact zr_iret h hE d_I_readLink_72 rfl hf
set_option maxRecDepth 100000 in
set_option maxHeartbeats 4000000 in
theorem z_I_readLink_24 {κ : zx_K} {ad : Nat → Nat} {r : Int32} {G1 : zx_G} (h : zx_C M_I_readLink κ ad) (hE : zx_E M_I_readLink κ ad r G1) : ∀ (n : Nat) (x1 x2 x3 : Int32) (G : zx_G), f_I_readLink_24 n x1 x2 x3 G = some (r, G1) → zx_Z κ ad 24 [(0, .ref (ad 8)), (1, .int x1), (2, .int x2), (3, .int x3)] [] G := by
  intro n
  induction n with
  | zero => intro x1 x2 x3 G hf; cases hf
  | succ n ih =>
    intro x1 x2 x3 G hf
    unfold f_I_readLink_24 at hf
    refine zr_iload_n h d_I_readLink_24 rfl rfl 3 rfl ?_
    refine zr_iload_n h d_I_readLink_25 rfl rfl 2 rfl ?_
    rcases zx_if_some hf with ⟨hc_1, hf⟩ | ⟨hc_1, hf⟩
    · refine zr_icmp_ge_t (tgt := 79) h d_I_readLink_26 rfl hc_1 ?_
      refine zr_iconst (v := (0 : Int32)) h d_I_readLink_79 rfl (by decide) ?_
      exact zr_iret h hE d_I_readLink_80 rfl hf
    · refine zr_icmp_ge_f h 79 d_I_readLink_26 rfl rfl hc_1 ?_
      refine zr_aload_n h d_I_readLink_29 rfl rfl 0 rfl ?_
      refine zr_getR h d_I_readLink_30 rfl fl_I_27 sh_8 rfl ?_
      obtain ⟨r_3, G_2, hq_4, hf⟩ := zx_bd_some hf
      refine zr_callVI (As := []) (b := 10) h (c_U_nextByte_10 _ _ _ _ _ G r_3 G_2 hq_4) cc_I_71 d_I_readLink_33 rfl rfl rfl sh_10 ⟨rfl, rfl, by decide, by decide⟩ (Nat.le_of_ble_eq_true rfl) ?_
      obtain ⟨x4_5, ex4_5, hf⟩ := zx_lt_some hf
      refine zr_istore h d_I_readLink_36 rfl (by decide) ex4_5 rfl ?_
      refine zr_iload h d_I_readLink_38 rfl 0 rfl ?_
      rcases zx_if_some hf with ⟨hc_6, hf⟩ | ⟨hc_6, hf⟩
      · refine zr_if_ge_t (tgt := 45) h d_I_readLink_40 rfl hc_6 ?_
        refine zr_iload_n h d_I_readLink_45 rfl rfl 2 rfl ?_
        refine zr_aload_n h d_I_readLink_46 rfl rfl 1 rfl ?_
        refine zr_getI h d_I_readLink_47 rfl fl_I_55 sh_8 rfl ?_
        rcases zx_if_some hf with ⟨hc_7, hf⟩ | ⟨hc_7, hf⟩
        · refine zr_icmp_ne_t (tgt := 62) h d_I_readLink_50 rfl hc_7 ?_
          refine zr_iconst (v := (0 : Int32)) h d_I_readLink_62 rfl (by decide) ?_
          refine zr_sub [1, 2, 3, 4] rfl ?_
          exact z_I_readLink_63 h hE ih x1 x2 x3 (0 : Int32) G_2 hf
        · refine zr_icmp_ne_f h 62 d_I_readLink_50 rfl rfl hc_7 ?_
          refine zr_aload_n h d_I_readLink_53 rfl rfl 1 rfl ?_
          refine zr_iload h d_I_readLink_54 rfl 0 rfl ?_
          obtain ⟨r_9, G_8, hq_10, hf⟩ := zx_bd_some hf
          refine zr_callVI (As := [.int x4_5]) (b := 8) h (c_I_link _ _ _ _ _ x4_5 G_2 r_9 G_8 hq_10) cc_I_109 d_I_readLink_56 rfl rfl rfl sh_8 ⟨rfl, rfl, by decide, by decide⟩ (Nat.le_of_ble_eq_true rfl) ?_
          refine zr_goto (tgt := 63) h d_I_readLink_59 rfl ?_
          refine zr_sub [1, 2, 3, 4] rfl ?_
          exact z_I_readLink_63 h hE ih x1 x2 x3 r_9 G_8 hf
      · refine zr_if_ge_f h 45 d_I_readLink_40 rfl rfl hc_6 ?_
        refine zr_iconst (v := (3 : Int32)) h d_I_readLink_43 rfl (by decide) ?_
        exact zr_iret h hE d_I_readLink_44 rfl hf
set_option maxRecDepth 100000 in
set_option maxHeartbeats 4000000 in
theorem z_I_readLink_0 {κ : zx_K} {ad : Nat → Nat} {r : Int32} {G1 : zx_G} (h : zx_C M_I_readLink κ ad) (hE : zx_E M_I_readLink κ ad r G1) (G : zx_G) (hf : f_I_readLink G = some (r, G1)) : zx_Z κ ad 0 [(0, .ref (ad 8))] [] G := by
  unfold f_I_readLink at hf
  refine zr_aload_n h d_I_readLink_0 rfl rfl 0 rfl ?_
  refine zr_getR h d_I_readLink_1 rfl fl_I_27 sh_8 rfl ?_
  obtain ⟨r_2, G_1, hq_3, hf⟩ := zx_bd_some hf
  refine zr_callVI (As := []) (b := 10) h (c_U_nextByte_10 _ _ _ _ _ G r_2 G_1 hq_3) cc_I_71 d_I_readLink_4 rfl rfl rfl sh_10 ⟨rfl, rfl, by decide, by decide⟩ (Nat.le_of_ble_eq_true rfl) ?_
  obtain ⟨x1_4, ex1_4, hf⟩ := zx_lt_some hf
  refine zr_istore_n h d_I_readLink_7 rfl rfl (by decide) ex1_4 rfl ?_
  refine zr_aload_n h d_I_readLink_8 rfl rfl 1 rfl ?_
  refine zr_getR h d_I_readLink_9 rfl fl_I_27 sh_8 rfl ?_
  obtain ⟨r_6, G_5, hq_7, hf⟩ := zx_bd_some hf
  refine zr_callVI (As := []) (b := 10) h (c_U_nextByte_10 _ _ _ _ _ G_1 r_6 G_5 hq_7) cc_I_71 d_I_readLink_12 rfl rfl rfl sh_10 ⟨rfl, rfl, by decide, by decide⟩ (Nat.le_of_ble_eq_true rfl) ?_
  obtain ⟨x2_8, ex2_8, hf⟩ := zx_lt_some hf
  refine zr_istore_n h d_I_readLink_15 rfl rfl (by decide) ex2_8 rfl ?_
  refine zr_iload_n h d_I_readLink_16 rfl rfl 0 rfl ?_
  rcases zx_if_some hf with ⟨hc_9, hf⟩ | ⟨hc_9, hf⟩
  · refine zr_if_ge_t (tgt := 22) h d_I_readLink_17 rfl hc_9 ?_
    refine zr_iconst (v := (0 : Int32)) h d_I_readLink_22 rfl (by decide) ?_
    obtain ⟨x3_10, ex3_10, hf⟩ := zx_lt_some hf
    refine zr_istore_n h d_I_readLink_23 rfl rfl (by decide) ex3_10 rfl ?_
    refine zr_sub [3, 2, 1, 0] rfl ?_
    exact z_I_readLink_24 h hE 2048 x1_4 x2_8 x3_10 G_5 hf
  · refine zr_if_ge_f h 22 d_I_readLink_17 rfl rfl hc_9 ?_
    refine zr_iconst (v := (3 : Int32)) h d_I_readLink_20 rfl (by decide) ?_
    exact zr_iret h hE d_I_readLink_21 rfl hf
theorem c_I_readLink (l : Launch) (D : va_G) (cA : ClassId) (ad : Nat → Nat) (A : Nat → Prop) (G : zx_G) (r : Int32) (G1 : zx_G) (hf : f_I_readLink G = some (r, G1)) : zx_met l y_I_readLink M_I_readLink [.ref (ad 8)] D cA ad A G r G1 :=
  zx_toMet (by decide) rfl (Nat.le_of_ble_eq_true rfl) (fun κ h hE => by exact z_I_readLink_0 h hE G hf)

def f_I_readLinks_88 (s0 : Int32) (G : zx_G) : Option (Int32 × zx_G) :=
  some (s0, G)
def f_I_readLinks_76 (G : zx_G) : Option (Int32 × zx_G) :=
  zx_bd (f_I_areLinksWhole G) fun r_2 G_1 =>
  zx_if (r_2 = 0)
    (f_I_readLinks_88 (3 : Int32) G_1)
    (f_I_readLinks_88 (0 : Int32) G_1)
def f_I_readLinks_42 : Nat → Int32 → zx_G → Option (Int32 × zx_G)
  | 0, _, _ => none
  | n + 1, x2, G =>
    zx_if ((240 : Int32) ≤ x2)
      (f_I_readLinks_76 G)
      (zx_bd (f_U_left_10 G) fun r_3 G_2 =>
      zx_if (r_3 ≤ 0)
        (f_I_readLinks_76 G_2)
        (zx_bd (f_I_readLink G_2) fun r_7 G_6 =>
        zx_lt r_7 fun x3_9 =>
        zx_if (x3_9 = 0)
          (zx_lt (x2 + (1 : Int32)) fun x2_11 =>
          f_I_readLinks_42 n x2_11 G_6)
          (some (x3_9, G_6))))
def f_I_readLinks (x1 : Int32) (G : zx_G) : Option (Int32 × zx_G) :=
  zx_lt (zx_up G 8 8 (-1 : Int32)) fun G_1 =>
  zx_lt (zx_up G_1 8 9 (-1 : Int32)) fun G_2 =>
  zx_lt (zx_up G_2 8 10 (-1 : Int32)) fun G_3 =>
  zx_gd (zx_in x1 16) <|
  zx_gd (zx_in x1 16) <|
  zx_bd (f_U_open_10 (G_3 4 (Int32.toNatClampNeg x1)) (G_3 5 (Int32.toNatClampNeg x1)) G_3) fun r_7 G_6 =>
  zx_lt (0 : Int32) fun x2_9 =>
  f_I_readLinks_42 2048 x2_9 G_6
set_option maxRecDepth 100000 in
set_option maxHeartbeats 4000000 in
theorem z_I_readLinks_88 {κ : zx_K} {ad : Nat → Nat} {r : Int32} {G1 : zx_G} (h : zx_C M_I_readLinks κ ad) (hE : zx_E M_I_readLinks κ ad r G1) (s0 : Int32) (G : zx_G) (hf : f_I_readLinks_88 s0 G = some (r, G1)) : zx_Z κ ad 88 [] [.int s0] G := by
  unfold f_I_readLinks_88 at hf
  exact zr_iret h hE d_I_readLinks_88 rfl hf
set_option maxRecDepth 100000 in
set_option maxHeartbeats 4000000 in
theorem z_I_readLinks_76 {κ : zx_K} {ad : Nat → Nat} {r : Int32} {G1 : zx_G} (h : zx_C M_I_readLinks κ ad) (hE : zx_E M_I_readLinks κ ad r G1) (G : zx_G) (hf : f_I_readLinks_76 G = some (r, G1)) : zx_Z κ ad 76 [(0, .ref (ad 8))] [] G := by
  unfold f_I_readLinks_76 at hf
  refine zr_aload_n h d_I_readLinks_76 rfl rfl 0 rfl ?_
  obtain ⟨r_2, G_1, hq_3, hf⟩ := zx_bd_some hf
  refine zr_callVI (As := []) (b := 8) h (c_I_areLinksWhole _ _ _ _ _ G r_2 G_1 hq_3) cc_I_106 d_I_readLinks_77 rfl rfl rfl sh_8 ⟨rfl, rfl, by decide, by decide⟩ (Nat.le_of_ble_eq_true rfl) ?_
  rcases zx_if_some hf with ⟨hc_4, hf⟩ | ⟨hc_4, hf⟩
  · refine zr_if_eq_t (tgt := 87) h d_I_readLinks_80 rfl hc_4 ?_
    refine zr_iconst (v := (3 : Int32)) h d_I_readLinks_87 rfl (by decide) ?_
    refine zr_sub [] rfl ?_
    exact z_I_readLinks_88 h hE (3 : Int32) G_1 hf
  · refine zr_if_eq_f h 87 d_I_readLinks_80 rfl rfl hc_4 ?_
    refine zr_iconst (v := (0 : Int32)) h d_I_readLinks_83 rfl (by decide) ?_
    refine zr_goto (tgt := 88) h d_I_readLinks_84 rfl ?_
    refine zr_sub [] rfl ?_
    exact z_I_readLinks_88 h hE (0 : Int32) G_1 hf
set_option maxRecDepth 100000 in
set_option maxHeartbeats 4000000 in
theorem z_I_readLinks_42 {κ : zx_K} {ad : Nat → Nat} {r : Int32} {G1 : zx_G} (h : zx_C M_I_readLinks κ ad) (hE : zx_E M_I_readLinks κ ad r G1) : ∀ (n : Nat) (x2 : Int32) (G : zx_G), f_I_readLinks_42 n x2 G = some (r, G1) → zx_Z κ ad 42 [(0, .ref (ad 8)), (2, .int x2)] [] G := by
  intro n
  induction n with
  | zero => intro x2 G hf; cases hf
  | succ n ih =>
    intro x2 G hf
    unfold f_I_readLinks_42 at hf
    refine zr_iload_n h d_I_readLinks_42 rfl rfl 1 rfl ?_
    refine zr_sipush (v := (240 : Int32)) h d_I_readLinks_43 rfl (by decide) ?_
    rcases zx_if_some hf with ⟨hc_1, hf⟩ | ⟨hc_1, hf⟩
    · refine zr_icmp_ge_t (tgt := 76) h d_I_readLinks_46 rfl hc_1 ?_
      refine zr_sub [0] rfl ?_
      exact z_I_readLinks_76 h hE G hf
    · refine zr_icmp_ge_f h 76 d_I_readLinks_46 rfl rfl hc_1 ?_
      refine zr_aload_n h d_I_readLinks_49 rfl rfl 0 rfl ?_
      refine zr_getR h d_I_readLinks_50 rfl fl_I_27 sh_8 rfl ?_
      obtain ⟨r_3, G_2, hq_4, hf⟩ := zx_bd_some hf
      refine zr_callVI (As := []) (b := 10) h (c_U_left_10 _ _ _ _ _ G r_3 G_2 hq_4) cc_I_100 d_I_readLinks_53 rfl rfl rfl sh_10 ⟨rfl, rfl, by decide, by decide⟩ (Nat.le_of_ble_eq_true rfl) ?_
      rcases zx_if_some hf with ⟨hc_5, hf⟩ | ⟨hc_5, hf⟩
      · refine zr_if_le_t (tgt := 76) h d_I_readLinks_56 rfl hc_5 ?_
        refine zr_sub [0] rfl ?_
        exact z_I_readLinks_76 h hE G_2 hf
      · refine zr_if_le_f h 76 d_I_readLinks_56 rfl rfl hc_5 ?_
        refine zr_aload_n h d_I_readLinks_59 rfl rfl 0 rfl ?_
        obtain ⟨r_7, G_6, hq_8, hf⟩ := zx_bd_some hf
        refine zr_callVI (As := []) (b := 8) h (c_I_readLink _ _ _ _ _ G_2 r_7 G_6 hq_8) cc_I_103 d_I_readLinks_60 rfl rfl rfl sh_8 ⟨rfl, rfl, by decide, by decide⟩ (Nat.le_of_ble_eq_true rfl) ?_
        obtain ⟨x3_9, ex3_9, hf⟩ := zx_lt_some hf
        refine zr_istore_n h d_I_readLinks_63 rfl rfl (by decide) ex3_9 rfl ?_
        refine zr_iload_n h d_I_readLinks_64 rfl rfl 0 rfl ?_
        rcases zx_if_some hf with ⟨hc_10, hf⟩ | ⟨hc_10, hf⟩
        · refine zr_if_eq_t (tgt := 70) h d_I_readLinks_65 rfl hc_10 ?_
          obtain ⟨x2_11, ex2_11, hf⟩ := zx_lt_some hf
          refine zr_iinc (j := 2) h d_I_readLinks_70 rfl rfl (by decide) ex2_11 (by decide) rfl ?_
          refine zr_goto (tgt := 42) h d_I_readLinks_73 rfl ?_
          refine zr_sub [2, 0] rfl ?_
          exact ih x2_11 G_6 hf
        · refine zr_if_eq_f h 70 d_I_readLinks_65 rfl rfl hc_10 ?_
          refine zr_iload_n h d_I_readLinks_68 rfl rfl 0 rfl ?_
          exact zr_iret h hE d_I_readLinks_69 rfl hf
set_option maxRecDepth 100000 in
set_option maxHeartbeats 4000000 in
theorem z_I_readLinks_0 {κ : zx_K} {ad : Nat → Nat} {r : Int32} {G1 : zx_G} (h : zx_C M_I_readLinks κ ad) (hE : zx_E M_I_readLinks κ ad r G1) (x1 : Int32) (G : zx_G) (hf : f_I_readLinks x1 G = some (r, G1)) : zx_Z κ ad 0 [(0, .ref (ad 8)), (1, .int x1)] [] G := by
  unfold f_I_readLinks at hf
  refine zr_aload_n h d_I_readLinks_0 rfl rfl 0 rfl ?_
  refine zr_iconst (v := (-1 : Int32)) h d_I_readLinks_1 rfl (by decide) ?_
  obtain ⟨G_1, eG_1, hf⟩ := zx_lt_some hf
  refine zr_putI h d_I_readLinks_2 rfl fl_I_91 pl_I_8 sh_8 rfl rfl rfl eG_1 ?_
  refine zr_aload_n h d_I_readLinks_5 rfl rfl 0 rfl ?_
  refine zr_iconst (v := (-1 : Int32)) h d_I_readLinks_6 rfl (by decide) ?_
  obtain ⟨G_2, eG_2, hf⟩ := zx_lt_some hf
  refine zr_putI h d_I_readLinks_7 rfl fl_I_94 pl_I_9 sh_8 rfl rfl rfl eG_2 ?_
  refine zr_aload_n h d_I_readLinks_10 rfl rfl 0 rfl ?_
  refine zr_iconst (v := (-1 : Int32)) h d_I_readLinks_11 rfl (by decide) ?_
  obtain ⟨G_3, eG_3, hf⟩ := zx_lt_some hf
  refine zr_putI h d_I_readLinks_12 rfl fl_I_97 pl_I_10 sh_8 rfl rfl rfl eG_3 ?_
  refine zr_aload_n h d_I_readLinks_15 rfl rfl 0 rfl ?_
  refine zr_getR h d_I_readLinks_16 rfl fl_I_27 sh_8 rfl ?_
  refine zr_aload_n h d_I_readLinks_19 rfl rfl 0 rfl ?_
  refine zr_getR h d_I_readLinks_20 rfl fl_I_18 sh_8 rfl ?_
  refine zr_getR h d_I_readLinks_23 rfl fl_I_52 sh_2 rfl ?_
  refine zr_iload_n h d_I_readLinks_26 rfl rfl 1 rfl ?_
  obtain ⟨hb_4, hf⟩ := zx_gd_some hf
  refine zr_iald h d_I_readLinks_27 rfl sh_4 hb_4 ?_
  refine zr_aload_n h d_I_readLinks_28 rfl rfl 0 rfl ?_
  refine zr_getR h d_I_readLinks_29 rfl fl_I_18 sh_8 rfl ?_
  refine zr_getR h d_I_readLinks_32 rfl fl_I_64 sh_2 rfl ?_
  refine zr_iload_n h d_I_readLinks_35 rfl rfl 1 rfl ?_
  obtain ⟨hb_5, hf⟩ := zx_gd_some hf
  refine zr_iald h d_I_readLinks_36 rfl sh_5 hb_5 ?_
  obtain ⟨r_7, G_6, hq_8, hf⟩ := zx_bd_some hf
  refine zr_callVV (As := [.int (G_3 4 (Int32.toNatClampNeg x1)), .int (G_3 5 (Int32.toNatClampNeg x1))]) (b := 10) h (c_U_open_10 _ _ _ _ _ (G_3 4 (Int32.toNatClampNeg x1)) (G_3 5 (Int32.toNatClampNeg x1)) G_3 r_7 G_6 hq_8) cc_I_67 d_I_readLinks_37 rfl rfl rfl sh_10 ⟨rfl, rfl, by decide, by decide⟩ (Nat.le_of_ble_eq_true rfl) ?_
  refine zr_iconst (v := (0 : Int32)) h d_I_readLinks_40 rfl (by decide) ?_
  obtain ⟨x2_9, ex2_9, hf⟩ := zx_lt_some hf
  refine zr_istore_n h d_I_readLinks_41 rfl rfl (by decide) ex2_9 rfl ?_
  refine zr_sub [1, 0] rfl ?_
  exact z_I_readLinks_42 h hE 2048 x2_9 G_6 hf
theorem c_I_readLinks (l : Launch) (D : va_G) (cA : ClassId) (ad : Nat → Nat) (A : Nat → Prop) (x1 : Int32) (G : zx_G) (r : Int32) (G1 : zx_G) (hf : f_I_readLinks x1 G = some (r, G1)) : zx_met l y_I_readLinks M_I_readLinks [.ref (ad 8), .int x1] D cA ad A G r G1 :=
  zx_toMet (by decide) rfl (Nat.le_of_ble_eq_true rfl) (fun κ h hE => by exact z_I_readLinks_0 h hE x1 G hf)

def f_I_find_87 (G : zx_G) : Option (Int32 × zx_G) :=
  some ((3 : Int32), G)
def f_I_find_120 (G : zx_G) : Option (Int32 × zx_G) :=
  some ((3 : Int32), G)
def f_I_find_164 (s0 : Int32) (G : zx_G) : Option (Int32 × zx_G) :=
  some (s0, G)
def f_I_find (x1 : Int32) (G : zx_G) : Option (Int32 × zx_G) :=
  zx_lt (zx_up G 8 5 x1) fun G_1 =>
  zx_bd (f_B_isBranded G_1) fun r_3 G_2 =>
  zx_if (¬ r_3 = 0)
    (zx_bd (f_B_first (-1 : Int32) (109 : Int32) G_2) fun r_7 G_6 =>
    zx_lt r_7 fun x2_9 =>
    zx_if (0 ≤ x2_9)
      (zx_bd (f_B_first x2_9 (112 : Int32) G_6) fun r_12 G_11 =>
      zx_lt r_12 fun x3_14 =>
      zx_bd (f_B_first x2_9 (108 : Int32) G_11) fun r_16 G_15 =>
      zx_lt r_16 fun x4_18 =>
      zx_bd (f_B_first x2_9 (114 : Int32) G_15) fun r_20 G_19 =>
      zx_lt (zx_up G_19 8 7 r_20) fun G_22 =>
      zx_if (x3_14 < 0)
        (f_I_find_87 G_22)
        (zx_if (x4_18 < 0)
          (f_I_find_87 G_22)
          (zx_if (0 ≤ (G_22 8 7))
            (zx_bd (f_B_first (G_22 8 7) (97 : Int32) G_22) fun r_27 G_26 =>
            zx_lt r_27 fun x5_29 =>
            zx_if (x5_29 < 0)
              (f_I_find_120 G_26)
              (zx_bd (f_B_contentLength x3_14 G_26) fun r_32 G_31 =>
              zx_if (¬ r_32 = 0)
                (zx_gd (zx_in x3_14 16) <|
                zx_gd (zx_in (G_31 4 (Int32.toNatClampNeg x3_14)) 240) <|
                zx_lt (zx_up G_31 8 6 (G_31 1 (Int32.toNatClampNeg (G_31 4 (Int32.toNatClampNeg x3_14))))) fun G_37 =>
                zx_bd (f_I_readPlaces x4_18 G_37) fun r_39 G_38 =>
                zx_lt r_39 fun x6_41 =>
                zx_if (¬ x6_41 = 0)
                  (f_I_find_164 x6_41 G_38)
                  (zx_bd (f_I_readLinks x5_29 G_38) fun r_44 G_43 =>
                  f_I_find_164 r_44 G_43))
                (f_I_find_120 G_31)))
            (f_I_find_87 G_22))))
      (some ((3 : Int32), G_6)))
    (some ((2 : Int32), G_2))
set_option maxRecDepth 100000 in
set_option maxHeartbeats 4000000 in
theorem z_I_find_87 {κ : zx_K} {ad : Nat → Nat} {r : Int32} {G1 : zx_G} (h : zx_C M_I_find κ ad) (hE : zx_E M_I_find κ ad r G1) (G : zx_G) (hf : f_I_find_87 G = some (r, G1)) : zx_Z κ ad 87 [] [] G := by
  unfold f_I_find_87 at hf
  refine zr_iconst (v := (3 : Int32)) h d_I_find_87 rfl (by decide) ?_
  exact zr_iret h hE d_I_find_88 rfl hf
set_option maxRecDepth 100000 in
set_option maxHeartbeats 4000000 in
theorem z_I_find_120 {κ : zx_K} {ad : Nat → Nat} {r : Int32} {G1 : zx_G} (h : zx_C M_I_find κ ad) (hE : zx_E M_I_find κ ad r G1) (G : zx_G) (hf : f_I_find_120 G = some (r, G1)) : zx_Z κ ad 120 [] [] G := by
  unfold f_I_find_120 at hf
  refine zr_iconst (v := (3 : Int32)) h d_I_find_120 rfl (by decide) ?_
  exact zr_iret h hE d_I_find_121 rfl hf
set_option maxRecDepth 100000 in
set_option maxHeartbeats 4000000 in
theorem z_I_find_164 {κ : zx_K} {ad : Nat → Nat} {r : Int32} {G1 : zx_G} (h : zx_C M_I_find κ ad) (hE : zx_E M_I_find κ ad r G1) (s0 : Int32) (G : zx_G) (hf : f_I_find_164 s0 G = some (r, G1)) : zx_Z κ ad 164 [] [.int s0] G := by
  unfold f_I_find_164 at hf
  exact zr_iret h hE d_I_find_164 rfl hf
set_option maxRecDepth 100000 in
set_option maxHeartbeats 4000000 in
theorem z_I_find_0 {κ : zx_K} {ad : Nat → Nat} {r : Int32} {G1 : zx_G} (h : zx_C M_I_find κ ad) (hE : zx_E M_I_find κ ad r G1) (x1 : Int32) (G : zx_G) (hf : f_I_find x1 G = some (r, G1)) : zx_Z κ ad 0 [(0, .ref (ad 8)), (1, .int x1)] [] G := by
  unfold f_I_find at hf
  refine zr_aload_n h d_I_find_0 rfl rfl 0 rfl ?_
  refine zr_iload_n h d_I_find_1 rfl rfl 1 rfl ?_
  obtain ⟨G_1, eG_1, hf⟩ := zx_lt_some hf
  refine zr_putI h d_I_find_2 rfl fl_I_31 pl_I_5 sh_8 rfl rfl rfl eG_1 ?_
  refine zr_aload_n h d_I_find_5 rfl rfl 0 rfl ?_
  refine zr_getR h d_I_find_6 rfl fl_I_18 sh_8 rfl ?_
  obtain ⟨r_3, G_2, hq_4, hf⟩ := zx_bd_some hf
  refine zr_callVI (As := []) (b := 2) h (c_B_isBranded _ _ _ _ _ G_1 r_3 G_2 hq_4) cc_I_35 d_I_find_9 rfl rfl rfl sh_2 ⟨rfl, rfl, by decide, by decide⟩ (Nat.le_of_ble_eq_true rfl) ?_
  rcases zx_if_some hf with ⟨hc_5, hf⟩ | ⟨hc_5, hf⟩
  · refine zr_if_ne_t (tgt := 17) h d_I_find_12 rfl hc_5 ?_
    refine zr_aload_n h d_I_find_17 rfl rfl 0 rfl ?_
    refine zr_getR h d_I_find_18 rfl fl_I_18 sh_8 rfl ?_
    refine zr_iconst (v := (-1 : Int32)) h d_I_find_21 rfl (by decide) ?_
    refine zr_bipush (v := (109 : Int32)) h d_I_find_22 rfl (by decide) ?_
    obtain ⟨r_7, G_6, hq_8, hf⟩ := zx_bd_some hf
    refine zr_callVI (As := [.int (-1 : Int32), .int (109 : Int32)]) (b := 2) h (c_B_first _ _ _ _ _ (-1 : Int32) (109 : Int32) G_2 r_7 G_6 hq_8) cc_I_41 d_I_find_24 rfl rfl rfl sh_2 ⟨rfl, rfl, by decide, by decide⟩ (Nat.le_of_ble_eq_true rfl) ?_
    obtain ⟨x2_9, ex2_9, hf⟩ := zx_lt_some hf
    refine zr_istore_n h d_I_find_27 rfl rfl (by decide) ex2_9 rfl ?_
    refine zr_iload_n h d_I_find_28 rfl rfl 0 rfl ?_
    rcases zx_if_some hf with ⟨hc_10, hf⟩ | ⟨hc_10, hf⟩
    · refine zr_if_ge_t (tgt := 34) h d_I_find_29 rfl hc_10 ?_
      refine zr_aload_n h d_I_find_34 rfl rfl 1 rfl ?_
      refine zr_getR h d_I_find_35 rfl fl_I_18 sh_8 rfl ?_
      refine zr_iload_n h d_I_find_38 rfl rfl 0 rfl ?_
      refine zr_bipush (v := (112 : Int32)) h d_I_find_39 rfl (by decide) ?_
      obtain ⟨r_12, G_11, hq_13, hf⟩ := zx_bd_some hf
      refine zr_callVI (As := [.int x2_9, .int (112 : Int32)]) (b := 2) h (c_B_first _ _ _ _ _ x2_9 (112 : Int32) G_6 r_12 G_11 hq_13) cc_I_41 d_I_find_41 rfl rfl rfl sh_2 ⟨rfl, rfl, by decide, by decide⟩ (Nat.le_of_ble_eq_true rfl) ?_
      obtain ⟨x3_14, ex3_14, hf⟩ := zx_lt_some hf
      refine zr_istore_n h d_I_find_44 rfl rfl (by decide) ex3_14 rfl ?_
      refine zr_aload_n h d_I_find_45 rfl rfl 2 rfl ?_
      refine zr_getR h d_I_find_46 rfl fl_I_18 sh_8 rfl ?_
      refine zr_iload_n h d_I_find_49 rfl rfl 1 rfl ?_
      refine zr_bipush (v := (108 : Int32)) h d_I_find_50 rfl (by decide) ?_
      obtain ⟨r_16, G_15, hq_17, hf⟩ := zx_bd_some hf
      refine zr_callVI (As := [.int x2_9, .int (108 : Int32)]) (b := 2) h (c_B_first _ _ _ _ _ x2_9 (108 : Int32) G_11 r_16 G_15 hq_17) cc_I_41 d_I_find_52 rfl rfl rfl sh_2 ⟨rfl, rfl, by decide, by decide⟩ (Nat.le_of_ble_eq_true rfl) ?_
      obtain ⟨x4_18, ex4_18, hf⟩ := zx_lt_some hf
      refine zr_istore h d_I_find_55 rfl (by decide) ex4_18 rfl ?_
      refine zr_aload_n h d_I_find_57 rfl rfl 3 rfl ?_
      refine zr_aload_n h d_I_find_58 rfl rfl 3 rfl ?_
      refine zr_getR h d_I_find_59 rfl fl_I_18 sh_8 rfl ?_
      refine zr_iload_n h d_I_find_62 rfl rfl 2 rfl ?_
      refine zr_bipush (v := (114 : Int32)) h d_I_find_63 rfl (by decide) ?_
      obtain ⟨r_20, G_19, hq_21, hf⟩ := zx_bd_some hf
      refine zr_callVI (As := [.int x2_9, .int (114 : Int32)]) (b := 2) h (c_B_first _ _ _ _ _ x2_9 (114 : Int32) G_15 r_20 G_19 hq_21) cc_I_41 d_I_find_65 rfl rfl rfl sh_2 ⟨rfl, rfl, by decide, by decide⟩ (Nat.le_of_ble_eq_true rfl) ?_
      obtain ⟨G_22, eG_22, hf⟩ := zx_lt_some hf
      refine zr_putI h d_I_find_68 rfl fl_I_45 pl_I_7 sh_8 rfl rfl rfl eG_22 ?_
      refine zr_iload_n h d_I_find_71 rfl rfl 1 rfl ?_
      rcases zx_if_some hf with ⟨hc_23, hf⟩ | ⟨hc_23, hf⟩
      · refine zr_if_lt_t (tgt := 87) h d_I_find_72 rfl hc_23 ?_
        refine zr_sub [] rfl ?_
        exact z_I_find_87 h hE G_22 hf
      · refine zr_if_lt_f h 87 d_I_find_72 rfl rfl hc_23 ?_
        refine zr_iload h d_I_find_75 rfl 0 rfl ?_
        rcases zx_if_some hf with ⟨hc_24, hf⟩ | ⟨hc_24, hf⟩
        · refine zr_if_lt_t (tgt := 87) h d_I_find_77 rfl hc_24 ?_
          refine zr_sub [] rfl ?_
          exact z_I_find_87 h hE G_22 hf
        · refine zr_if_lt_f h 87 d_I_find_77 rfl rfl hc_24 ?_
          refine zr_aload_n h d_I_find_80 rfl rfl 3 rfl ?_
          refine zr_getI h d_I_find_81 rfl fl_I_45 sh_8 rfl ?_
          rcases zx_if_some hf with ⟨hc_25, hf⟩ | ⟨hc_25, hf⟩
          · refine zr_if_ge_t (tgt := 89) h d_I_find_84 rfl hc_25 ?_
            refine zr_aload_n h d_I_find_89 rfl rfl 3 rfl ?_
            refine zr_getR h d_I_find_90 rfl fl_I_18 sh_8 rfl ?_
            refine zr_aload_n h d_I_find_93 rfl rfl 3 rfl ?_
            refine zr_getI h d_I_find_94 rfl fl_I_45 sh_8 rfl ?_
            refine zr_bipush (v := (97 : Int32)) h d_I_find_97 rfl (by decide) ?_
            obtain ⟨r_27, G_26, hq_28, hf⟩ := zx_bd_some hf
            refine zr_callVI (As := [.int (G_22 8 7), .int (97 : Int32)]) (b := 2) h (c_B_first _ _ _ _ _ (G_22 8 7) (97 : Int32) G_22 r_27 G_26 hq_28) cc_I_41 d_I_find_99 rfl rfl rfl sh_2 ⟨rfl, rfl, by decide, by decide⟩ (Nat.le_of_ble_eq_true rfl) ?_
            obtain ⟨x5_29, ex5_29, hf⟩ := zx_lt_some hf
            refine zr_istore h d_I_find_102 rfl (by decide) ex5_29 rfl ?_
            refine zr_iload h d_I_find_104 rfl 0 rfl ?_
            rcases zx_if_some hf with ⟨hc_30, hf⟩ | ⟨hc_30, hf⟩
            · refine zr_if_lt_t (tgt := 120) h d_I_find_106 rfl hc_30 ?_
              refine zr_sub [] rfl ?_
              exact z_I_find_120 h hE G_26 hf
            · refine zr_if_lt_f h 120 d_I_find_106 rfl rfl hc_30 ?_
              refine zr_aload_n h d_I_find_109 rfl rfl 4 rfl ?_
              refine zr_getR h d_I_find_110 rfl fl_I_18 sh_8 rfl ?_
              refine zr_iload_n h d_I_find_113 rfl rfl 2 rfl ?_
              obtain ⟨r_32, G_31, hq_33, hf⟩ := zx_bd_some hf
              refine zr_callVI (As := [.int x3_14]) (b := 2) h (c_B_contentLength _ _ _ _ _ x3_14 G_26 r_32 G_31 hq_33) cc_I_48 d_I_find_114 rfl rfl rfl sh_2 ⟨rfl, rfl, by decide, by decide⟩ (Nat.le_of_ble_eq_true rfl) ?_
              rcases zx_if_some hf with ⟨hc_34, hf⟩ | ⟨hc_34, hf⟩
              · refine zr_if_ne_t (tgt := 122) h d_I_find_117 rfl hc_34 ?_
                refine zr_aload_n h d_I_find_122 rfl rfl 4 rfl ?_
                refine zr_aload_n h d_I_find_123 rfl rfl 4 rfl ?_
                refine zr_getR h d_I_find_124 rfl fl_I_15 sh_8 rfl ?_
                refine zr_aload_n h d_I_find_127 rfl rfl 4 rfl ?_
                refine zr_getR h d_I_find_128 rfl fl_I_18 sh_8 rfl ?_
                refine zr_getR h d_I_find_131 rfl fl_I_52 sh_2 rfl ?_
                refine zr_iload_n h d_I_find_134 rfl rfl 2 rfl ?_
                obtain ⟨hb_35, hf⟩ := zx_gd_some hf
                refine zr_iald h d_I_find_135 rfl sh_4 hb_35 ?_
                obtain ⟨hb_36, hf⟩ := zx_gd_some hf
                refine zr_iald h d_I_find_136 rfl sh_1 hb_36 ?_
                obtain ⟨G_37, eG_37, hf⟩ := zx_lt_some hf
                refine zr_putI h d_I_find_137 rfl fl_I_55 pl_I_6 sh_8 rfl rfl rfl eG_37 ?_
                refine zr_aload_n h d_I_find_140 rfl rfl 4 rfl ?_
                refine zr_iload h d_I_find_141 rfl 1 rfl ?_
                obtain ⟨r_39, G_38, hq_40, hf⟩ := zx_bd_some hf
                refine zr_callVI (As := [.int x4_18]) (b := 8) h (c_I_readPlaces _ _ _ _ _ x4_18 G_37 r_39 G_38 hq_40) cc_I_58 d_I_find_143 rfl rfl rfl sh_8 ⟨rfl, rfl, by decide, by decide⟩ (Nat.le_of_ble_eq_true rfl) ?_
                obtain ⟨x6_41, ex6_41, hf⟩ := zx_lt_some hf
                refine zr_istore h d_I_find_146 rfl (by decide) ex6_41 rfl ?_
                refine zr_iload h d_I_find_148 rfl 0 rfl ?_
                rcases zx_if_some hf with ⟨hc_42, hf⟩ | ⟨hc_42, hf⟩
                · refine zr_if_ne_t (tgt := 162) h d_I_find_150 rfl hc_42 ?_
                  refine zr_iload h d_I_find_162 rfl 0 rfl ?_
                  refine zr_sub [] rfl ?_
                  exact z_I_find_164 h hE x6_41 G_38 hf
                · refine zr_if_ne_f h 162 d_I_find_150 rfl rfl hc_42 ?_
                  refine zr_aload_n h d_I_find_153 rfl rfl 5 rfl ?_
                  refine zr_iload h d_I_find_154 rfl 1 rfl ?_
                  obtain ⟨r_44, G_43, hq_45, hf⟩ := zx_bd_some hf
                  refine zr_callVI (As := [.int x5_29]) (b := 8) h (c_I_readLinks _ _ _ _ _ x5_29 G_38 r_44 G_43 hq_45) cc_I_61 d_I_find_156 rfl rfl rfl sh_8 ⟨rfl, rfl, by decide, by decide⟩ (Nat.le_of_ble_eq_true rfl) ?_
                  refine zr_goto (tgt := 164) h d_I_find_159 rfl ?_
                  refine zr_sub [] rfl ?_
                  exact z_I_find_164 h hE r_44 G_43 hf
              · refine zr_if_ne_f h 122 d_I_find_117 rfl rfl hc_34 ?_
                refine zr_sub [] rfl ?_
                exact z_I_find_120 h hE G_31 hf
          · refine zr_if_ge_f h 89 d_I_find_84 rfl rfl hc_25 ?_
            refine zr_sub [] rfl ?_
            exact z_I_find_87 h hE G_22 hf
    · refine zr_if_ge_f h 34 d_I_find_29 rfl rfl hc_10 ?_
      refine zr_iconst (v := (3 : Int32)) h d_I_find_32 rfl (by decide) ?_
      exact zr_iret h hE d_I_find_33 rfl hf
  · refine zr_if_ne_f h 17 d_I_find_12 rfl rfl hc_5 ?_
    refine zr_iconst (v := (2 : Int32)) h d_I_find_15 rfl (by decide) ?_
    exact zr_iret h hE d_I_find_16 rfl hf
theorem c_I_find (l : Launch) (D : va_G) (cA : ClassId) (ad : Nat → Nat) (A : Nat → Prop) (x1 : Int32) (G : zx_G) (r : Int32) (G1 : zx_G) (hf : f_I_find x1 G = some (r, G1)) : zx_met l y_I_find M_I_find [.ref (ad 8), .int x1] D cA ad A G r G1 :=
  zx_toMet (by decide) rfl (Nat.le_of_ble_eq_true rfl) (fun κ h hE => by exact z_I_find_0 h hE x1 G hf)

def f_S_decode_73 (x1 : Int32) (G : zx_G) : Option (Int32 × zx_G) :=
  some (x1, G)
def f_S_decode_57 (x1 : Int32) (G : zx_G) : Option (Int32 × zx_G) :=
  zx_if (¬ x1 = 0)
    (f_S_decode_73 x1 G)
    (zx_bd (f_F_run G) fun r_3 G_2 =>
    zx_gd (zx_01 (1 : Int32)) <|
    zx_lt (zx_up G_2 0 9 (1 : Int32)) fun G_6 =>
    f_S_decode_73 x1 G_6)
def f_S_decode_45 (x1 : Int32) (G : zx_G) : Option (Int32 × zx_G) :=
  zx_if (¬ x1 = 0)
    (f_S_decode_57 x1 G)
    (zx_bd (f_T_read G) fun r_3 G_2 =>
    zx_lt r_3 fun x1_5 =>
    f_S_decode_57 x1_5 G_2)
def f_S_decode_33 (x1 : Int32) (G : zx_G) : Option (Int32 × zx_G) :=
  zx_if (¬ x1 = 0)
    (f_S_decode_45 x1 G)
    (zx_bd (f_H_read G) fun r_3 G_2 =>
    zx_lt r_3 fun x1_5 =>
    f_S_decode_45 x1_5 G_2)
def f_S_decode (G : zx_G) : Option (Int32 × zx_G) :=
  zx_gd (zx_01 (0 : Int32)) <|
  zx_lt (zx_up G 0 9 (0 : Int32)) fun G_2 =>
  zx_bd (f_B_read (G_2 0 8) G_2) fun r_4 G_3 =>
  zx_lt r_4 fun x1_6 =>
  zx_if (¬ x1_6 = 0)
    (f_S_decode_33 x1_6 G_3)
    (zx_bd (f_I_find (G_3 0 8) G_3) fun r_9 G_8 =>
    zx_lt r_9 fun x1_11 =>
    f_S_decode_33 x1_11 G_8)
set_option maxRecDepth 100000 in
set_option maxHeartbeats 4000000 in
theorem z_S_decode_73 {κ : zx_K} {ad : Nat → Nat} {r : Int32} {G1 : zx_G} (h : zx_C M_S_decode κ ad) (hE : zx_E M_S_decode κ ad r G1) (x1 : Int32) (G : zx_G) (hf : f_S_decode_73 x1 G = some (r, G1)) : zx_Z κ ad 73 [(1, .int x1)] [] G := by
  unfold f_S_decode_73 at hf
  refine zr_iload_n h d_S_decode_73 rfl rfl 0 rfl ?_
  exact zr_iret h hE d_S_decode_74 rfl hf
set_option maxRecDepth 100000 in
set_option maxHeartbeats 4000000 in
theorem z_S_decode_57 {κ : zx_K} {ad : Nat → Nat} {r : Int32} {G1 : zx_G} (h : zx_C M_S_decode κ ad) (hE : zx_E M_S_decode κ ad r G1) (x1 : Int32) (G : zx_G) (hf : f_S_decode_57 x1 G = some (r, G1)) : zx_Z κ ad 57 [(0, .ref (ad 0)), (1, .int x1)] [] G := by
  unfold f_S_decode_57 at hf
  refine zr_iload_n h d_S_decode_57 rfl rfl 1 rfl ?_
  rcases zx_if_some hf with ⟨hc_1, hf⟩ | ⟨hc_1, hf⟩
  · refine zr_if_ne_t (tgt := 73) h d_S_decode_58 rfl hc_1 ?_
    refine zr_sub [1] rfl ?_
    exact z_S_decode_73 h hE x1 G hf
  · refine zr_if_ne_f h 73 d_S_decode_58 rfl rfl hc_1 ?_
    refine zr_aload_n h d_S_decode_61 rfl rfl 0 rfl ?_
    refine zr_getR h d_S_decode_62 rfl fl_S_71 sh_0 rfl ?_
    obtain ⟨r_3, G_2, hq_4, hf⟩ := zx_bd_some hf
    refine zr_callVV (As := []) (b := 30) h (c_F_run _ _ _ _ _ G r_3 G_2 hq_4) cc_S_98 d_S_decode_65 rfl rfl rfl sh_30 ⟨rfl, rfl, by decide, by decide⟩ (Nat.le_of_ble_eq_true rfl) ?_
    refine zr_aload_n h d_S_decode_68 rfl rfl 0 rfl ?_
    refine zr_iconst (v := (1 : Int32)) h d_S_decode_69 rfl (by decide) ?_
    obtain ⟨hb_5, hf⟩ := zx_gd_some hf
    obtain ⟨G_6, eG_6, hf⟩ := zx_lt_some hf
    refine zr_putI h d_S_decode_70 rfl fl_S_79 pl_S_9 sh_0 rfl (zx_01_n hb_5) (zx_01_f hb_5) eG_6 ?_
    refine zr_sub [1] rfl ?_
    exact z_S_decode_73 h hE x1 G_6 hf
set_option maxRecDepth 100000 in
set_option maxHeartbeats 4000000 in
theorem z_S_decode_45 {κ : zx_K} {ad : Nat → Nat} {r : Int32} {G1 : zx_G} (h : zx_C M_S_decode κ ad) (hE : zx_E M_S_decode κ ad r G1) (x1 : Int32) (G : zx_G) (hf : f_S_decode_45 x1 G = some (r, G1)) : zx_Z κ ad 45 [(0, .ref (ad 0)), (1, .int x1)] [] G := by
  unfold f_S_decode_45 at hf
  refine zr_iload_n h d_S_decode_45 rfl rfl 1 rfl ?_
  rcases zx_if_some hf with ⟨hc_1, hf⟩ | ⟨hc_1, hf⟩
  · refine zr_if_ne_t (tgt := 57) h d_S_decode_46 rfl hc_1 ?_
    exact z_S_decode_57 h hE x1 G hf
  · refine zr_if_ne_f h 57 d_S_decode_46 rfl rfl hc_1 ?_
    refine zr_aload_n h d_S_decode_49 rfl rfl 0 rfl ?_
    refine zr_getR h d_S_decode_50 rfl fl_S_62 sh_0 rfl ?_
    obtain ⟨r_3, G_2, hq_4, hf⟩ := zx_bd_some hf
    refine zr_callVI (As := []) (b := 21) h (c_T_read _ _ _ _ _ G r_3 G_2 hq_4) cc_S_97 d_S_decode_53 rfl rfl rfl sh_21 ⟨rfl, rfl, by decide, by decide⟩ (Nat.le_of_ble_eq_true rfl) ?_
    obtain ⟨x1_5, ex1_5, hf⟩ := zx_lt_some hf
    refine zr_istore_n h d_S_decode_56 rfl rfl (by decide) ex1_5 rfl ?_
    refine zr_sub [1, 0] rfl ?_
    exact z_S_decode_57 h hE x1_5 G_2 hf
set_option maxRecDepth 100000 in
set_option maxHeartbeats 4000000 in
theorem z_S_decode_33 {κ : zx_K} {ad : Nat → Nat} {r : Int32} {G1 : zx_G} (h : zx_C M_S_decode κ ad) (hE : zx_E M_S_decode κ ad r G1) (x1 : Int32) (G : zx_G) (hf : f_S_decode_33 x1 G = some (r, G1)) : zx_Z κ ad 33 [(0, .ref (ad 0)), (1, .int x1)] [] G := by
  unfold f_S_decode_33 at hf
  refine zr_iload_n h d_S_decode_33 rfl rfl 1 rfl ?_
  rcases zx_if_some hf with ⟨hc_1, hf⟩ | ⟨hc_1, hf⟩
  · refine zr_if_ne_t (tgt := 45) h d_S_decode_34 rfl hc_1 ?_
    exact z_S_decode_45 h hE x1 G hf
  · refine zr_if_ne_f h 45 d_S_decode_34 rfl rfl hc_1 ?_
    refine zr_aload_n h d_S_decode_37 rfl rfl 0 rfl ?_
    refine zr_getR h d_S_decode_38 rfl fl_S_36 sh_0 rfl ?_
    obtain ⟨r_3, G_2, hq_4, hf⟩ := zx_bd_some hf
    refine zr_callVI (As := []) (b := 11) h (c_H_read _ _ _ _ _ G r_3 G_2 hq_4) cc_S_94 d_S_decode_41 rfl rfl rfl sh_11 ⟨rfl, rfl, by decide, by decide⟩ (Nat.le_of_ble_eq_true rfl) ?_
    obtain ⟨x1_5, ex1_5, hf⟩ := zx_lt_some hf
    refine zr_istore_n h d_S_decode_44 rfl rfl (by decide) ex1_5 rfl ?_
    refine zr_sub [1, 0] rfl ?_
    exact z_S_decode_45 h hE x1_5 G_2 hf
set_option maxRecDepth 100000 in
set_option maxHeartbeats 4000000 in
theorem z_S_decode_0 {κ : zx_K} {ad : Nat → Nat} {r : Int32} {G1 : zx_G} (h : zx_C M_S_decode κ ad) (hE : zx_E M_S_decode κ ad r G1) (G : zx_G) (hf : f_S_decode G = some (r, G1)) : zx_Z κ ad 0 [(0, .ref (ad 0))] [] G := by
  unfold f_S_decode at hf
  refine zr_aload_n h d_S_decode_0 rfl rfl 0 rfl ?_
  refine zr_iconst (v := (0 : Int32)) h d_S_decode_1 rfl (by decide) ?_
  obtain ⟨hb_1, hf⟩ := zx_gd_some hf
  obtain ⟨G_2, eG_2, hf⟩ := zx_lt_some hf
  refine zr_putI h d_S_decode_2 rfl fl_S_79 pl_S_9 sh_0 rfl (zx_01_n hb_1) (zx_01_f hb_1) eG_2 ?_
  refine zr_aload_n h d_S_decode_5 rfl rfl 0 rfl ?_
  refine zr_getR h d_S_decode_6 rfl fl_S_18 sh_0 rfl ?_
  refine zr_aload_n h d_S_decode_9 rfl rfl 0 rfl ?_
  refine zr_getI h d_S_decode_10 rfl fl_S_75 sh_0 rfl ?_
  obtain ⟨r_4, G_3, hq_5, hf⟩ := zx_bd_some hf
  refine zr_callVI (As := [.int (G_2 0 8)]) (b := 2) h (c_B_read _ _ _ _ _ (G_2 0 8) G_2 r_4 G_3 hq_5) cc_S_87 d_S_decode_13 rfl rfl rfl sh_2 ⟨rfl, rfl, by decide, by decide⟩ (Nat.le_of_ble_eq_true rfl) ?_
  obtain ⟨x1_6, ex1_6, hf⟩ := zx_lt_some hf
  refine zr_istore_n h d_S_decode_16 rfl rfl (by decide) ex1_6 rfl ?_
  refine zr_iload_n h d_S_decode_17 rfl rfl 0 rfl ?_
  rcases zx_if_some hf with ⟨hc_7, hf⟩ | ⟨hc_7, hf⟩
  · refine zr_if_ne_t (tgt := 33) h d_S_decode_18 rfl hc_7 ?_
    refine zr_sub [1, 0] rfl ?_
    exact z_S_decode_33 h hE x1_6 G_3 hf
  · refine zr_if_ne_f h 33 d_S_decode_18 rfl rfl hc_7 ?_
    refine zr_aload_n h d_S_decode_21 rfl rfl 1 rfl ?_
    refine zr_getR h d_S_decode_22 rfl fl_S_27 sh_0 rfl ?_
    refine zr_aload_n h d_S_decode_25 rfl rfl 1 rfl ?_
    refine zr_getI h d_S_decode_26 rfl fl_S_75 sh_0 rfl ?_
    obtain ⟨r_9, G_8, hq_10, hf⟩ := zx_bd_some hf
    refine zr_callVI (As := [.int (G_3 0 8)]) (b := 8) h (c_I_find _ _ _ _ _ (G_3 0 8) G_3 r_9 G_8 hq_10) cc_S_91 d_S_decode_29 rfl rfl rfl sh_8 ⟨rfl, rfl, by decide, by decide⟩ (Nat.le_of_ble_eq_true rfl) ?_
    obtain ⟨x1_11, ex1_11, hf⟩ := zx_lt_some hf
    refine zr_istore_n h d_S_decode_32 rfl rfl (by decide) ex1_11 rfl ?_
    refine zr_sub [1, 0] rfl ?_
    exact z_S_decode_33 h hE x1_11 G_8 hf
theorem c_S_decode (l : Launch) (D : va_G) (cA : ClassId) (ad : Nat → Nat) (A : Nat → Prop) (G : zx_G) (r : Int32) (G1 : zx_G) (hf : f_S_decode G = some (r, G1)) : zx_met l y_S_decode M_S_decode [.ref (ad 0)] D cA ad A G r G1 :=
  zx_toMet (by decide) rfl (Nat.le_of_ble_eq_true rfl) (fun κ h hE => by exact z_S_decode_0 h hE G hf)

def f_S_planes_18 (s0 : Int32) (G : zx_G) : Option (Int32 × zx_G) :=
  some (s0, G)
def f_S_planes (G : zx_G) : Option (Int32 × zx_G) :=
  zx_if ((G 0 9) = 0)
    (f_S_planes_18 (0 : Int32) G)
    (f_S_planes_18 (G 11 6) G)
set_option maxRecDepth 100000 in
set_option maxHeartbeats 4000000 in
theorem z_S_planes_18 {κ : zx_K} {ad : Nat → Nat} {r : Int32} {G1 : zx_G} (h : zx_C M_S_planes κ ad) (hE : zx_E M_S_planes κ ad r G1) (s0 : Int32) (G : zx_G) (hf : f_S_planes_18 s0 G = some (r, G1)) : zx_Z κ ad 18 [] [.int s0] G := by
  unfold f_S_planes_18 at hf
  exact zr_iret h hE d_S_planes_18 rfl hf
set_option maxRecDepth 100000 in
set_option maxHeartbeats 4000000 in
theorem z_S_planes_0 {κ : zx_K} {ad : Nat → Nat} {r : Int32} {G1 : zx_G} (h : zx_C M_S_planes κ ad) (hE : zx_E M_S_planes κ ad r G1) (G : zx_G) (hf : f_S_planes G = some (r, G1)) : zx_Z κ ad 0 [(0, .ref (ad 0))] [] G := by
  unfold f_S_planes at hf
  refine zr_aload_n h d_S_planes_0 rfl rfl 0 rfl ?_
  refine zr_getI h d_S_planes_1 rfl fl_S_79 sh_0 rfl ?_
  rcases zx_if_some hf with ⟨hc_1, hf⟩ | ⟨hc_1, hf⟩
  · refine zr_if_eq_t (tgt := 17) h d_S_planes_4 rfl hc_1 ?_
    refine zr_iconst (v := (0 : Int32)) h d_S_planes_17 rfl (by decide) ?_
    refine zr_sub [] rfl ?_
    exact z_S_planes_18 h hE (0 : Int32) G hf
  · refine zr_if_eq_f h 17 d_S_planes_4 rfl rfl hc_1 ?_
    refine zr_aload_n h d_S_planes_7 rfl rfl 0 rfl ?_
    refine zr_getR h d_S_planes_8 rfl fl_S_36 sh_0 rfl ?_
    refine zr_getI h d_S_planes_11 rfl fl_S_101 sh_11 rfl ?_
    refine zr_goto (tgt := 18) h d_S_planes_14 rfl ?_
    refine zr_sub [] rfl ?_
    exact z_S_planes_18 h hE (G 11 6) G hf
theorem c_S_planes (l : Launch) (D : va_G) (cA : ClassId) (ad : Nat → Nat) (A : Nat → Prop) (G : zx_G) (r : Int32) (G1 : zx_G) (hf : f_S_planes G = some (r, G1)) : zx_met l y_S_planes M_S_planes [.ref (ad 0)] D cA ad A G r G1 :=
  zx_toMet (by decide) rfl (Nat.le_of_ble_eq_true rfl) (fun κ h hE => by exact z_S_planes_0 h hE G hf)

def f_S_width_18 (s0 : Int32) (G : zx_G) : Option (Int32 × zx_G) :=
  some (s0, G)
def f_S_width (G : zx_G) : Option (Int32 × zx_G) :=
  zx_if ((G 0 9) = 0)
    (f_S_width_18 (0 : Int32) G)
    (f_S_width_18 (G 11 7) G)
set_option maxRecDepth 100000 in
set_option maxHeartbeats 4000000 in
theorem z_S_width_18 {κ : zx_K} {ad : Nat → Nat} {r : Int32} {G1 : zx_G} (h : zx_C M_S_width κ ad) (hE : zx_E M_S_width κ ad r G1) (s0 : Int32) (G : zx_G) (hf : f_S_width_18 s0 G = some (r, G1)) : zx_Z κ ad 18 [] [.int s0] G := by
  unfold f_S_width_18 at hf
  exact zr_iret h hE d_S_width_18 rfl hf
set_option maxRecDepth 100000 in
set_option maxHeartbeats 4000000 in
theorem z_S_width_0 {κ : zx_K} {ad : Nat → Nat} {r : Int32} {G1 : zx_G} (h : zx_C M_S_width κ ad) (hE : zx_E M_S_width κ ad r G1) (G : zx_G) (hf : f_S_width G = some (r, G1)) : zx_Z κ ad 0 [(0, .ref (ad 0))] [] G := by
  unfold f_S_width at hf
  refine zr_aload_n h d_S_width_0 rfl rfl 0 rfl ?_
  refine zr_getI h d_S_width_1 rfl fl_S_79 sh_0 rfl ?_
  rcases zx_if_some hf with ⟨hc_1, hf⟩ | ⟨hc_1, hf⟩
  · refine zr_if_eq_t (tgt := 17) h d_S_width_4 rfl hc_1 ?_
    refine zr_iconst (v := (0 : Int32)) h d_S_width_17 rfl (by decide) ?_
    refine zr_sub [] rfl ?_
    exact z_S_width_18 h hE (0 : Int32) G hf
  · refine zr_if_eq_f h 17 d_S_width_4 rfl rfl hc_1 ?_
    refine zr_aload_n h d_S_width_7 rfl rfl 0 rfl ?_
    refine zr_getR h d_S_width_8 rfl fl_S_36 sh_0 rfl ?_
    refine zr_getI h d_S_width_11 rfl fl_S_104 sh_11 rfl ?_
    refine zr_goto (tgt := 18) h d_S_width_14 rfl ?_
    refine zr_sub [] rfl ?_
    exact z_S_width_18 h hE (G 11 7) G hf
theorem c_S_width (l : Launch) (D : va_G) (cA : ClassId) (ad : Nat → Nat) (A : Nat → Prop) (G : zx_G) (r : Int32) (G1 : zx_G) (hf : f_S_width G = some (r, G1)) : zx_met l y_S_width M_S_width [.ref (ad 0)] D cA ad A G r G1 :=
  zx_toMet (by decide) rfl (Nat.le_of_ble_eq_true rfl) (fun κ h hE => by exact z_S_width_0 h hE G hf)

def f_S_height_18 (s0 : Int32) (G : zx_G) : Option (Int32 × zx_G) :=
  some (s0, G)
def f_S_height (G : zx_G) : Option (Int32 × zx_G) :=
  zx_if ((G 0 9) = 0)
    (f_S_height_18 (0 : Int32) G)
    (f_S_height_18 (G 11 8) G)
set_option maxRecDepth 100000 in
set_option maxHeartbeats 4000000 in
theorem z_S_height_18 {κ : zx_K} {ad : Nat → Nat} {r : Int32} {G1 : zx_G} (h : zx_C M_S_height κ ad) (hE : zx_E M_S_height κ ad r G1) (s0 : Int32) (G : zx_G) (hf : f_S_height_18 s0 G = some (r, G1)) : zx_Z κ ad 18 [] [.int s0] G := by
  unfold f_S_height_18 at hf
  exact zr_iret h hE d_S_height_18 rfl hf
set_option maxRecDepth 100000 in
set_option maxHeartbeats 4000000 in
theorem z_S_height_0 {κ : zx_K} {ad : Nat → Nat} {r : Int32} {G1 : zx_G} (h : zx_C M_S_height κ ad) (hE : zx_E M_S_height κ ad r G1) (G : zx_G) (hf : f_S_height G = some (r, G1)) : zx_Z κ ad 0 [(0, .ref (ad 0))] [] G := by
  unfold f_S_height at hf
  refine zr_aload_n h d_S_height_0 rfl rfl 0 rfl ?_
  refine zr_getI h d_S_height_1 rfl fl_S_79 sh_0 rfl ?_
  rcases zx_if_some hf with ⟨hc_1, hf⟩ | ⟨hc_1, hf⟩
  · refine zr_if_eq_t (tgt := 17) h d_S_height_4 rfl hc_1 ?_
    refine zr_iconst (v := (0 : Int32)) h d_S_height_17 rfl (by decide) ?_
    refine zr_sub [] rfl ?_
    exact z_S_height_18 h hE (0 : Int32) G hf
  · refine zr_if_eq_f h 17 d_S_height_4 rfl rfl hc_1 ?_
    refine zr_aload_n h d_S_height_7 rfl rfl 0 rfl ?_
    refine zr_getR h d_S_height_8 rfl fl_S_36 sh_0 rfl ?_
    refine zr_getI h d_S_height_11 rfl fl_S_107 sh_11 rfl ?_
    refine zr_goto (tgt := 18) h d_S_height_14 rfl ?_
    refine zr_sub [] rfl ?_
    exact z_S_height_18 h hE (G 11 8) G hf
theorem c_S_height (l : Launch) (D : va_G) (cA : ClassId) (ad : Nat → Nat) (A : Nat → Prop) (G : zx_G) (r : Int32) (G1 : zx_G) (hf : f_S_height G = some (r, G1)) : zx_met l y_S_height M_S_height [.ref (ad 0)] D cA ad A G r G1 :=
  zx_toMet (by decide) rfl (Nat.le_of_ble_eq_true rfl) (fun κ h hE => by exact z_S_height_0 h hE G hf)

def f_S_depth_18 (s0 : Int32) (G : zx_G) : Option (Int32 × zx_G) :=
  some (s0, G)
def f_S_depth (G : zx_G) : Option (Int32 × zx_G) :=
  zx_if ((G 0 9) = 0)
    (f_S_depth_18 (0 : Int32) G)
    (f_S_depth_18 (G 11 9) G)
set_option maxRecDepth 100000 in
set_option maxHeartbeats 4000000 in
theorem z_S_depth_18 {κ : zx_K} {ad : Nat → Nat} {r : Int32} {G1 : zx_G} (h : zx_C M_S_depth κ ad) (hE : zx_E M_S_depth κ ad r G1) (s0 : Int32) (G : zx_G) (hf : f_S_depth_18 s0 G = some (r, G1)) : zx_Z κ ad 18 [] [.int s0] G := by
  unfold f_S_depth_18 at hf
  exact zr_iret h hE d_S_depth_18 rfl hf
set_option maxRecDepth 100000 in
set_option maxHeartbeats 4000000 in
theorem z_S_depth_0 {κ : zx_K} {ad : Nat → Nat} {r : Int32} {G1 : zx_G} (h : zx_C M_S_depth κ ad) (hE : zx_E M_S_depth κ ad r G1) (G : zx_G) (hf : f_S_depth G = some (r, G1)) : zx_Z κ ad 0 [(0, .ref (ad 0))] [] G := by
  unfold f_S_depth at hf
  refine zr_aload_n h d_S_depth_0 rfl rfl 0 rfl ?_
  refine zr_getI h d_S_depth_1 rfl fl_S_79 sh_0 rfl ?_
  rcases zx_if_some hf with ⟨hc_1, hf⟩ | ⟨hc_1, hf⟩
  · refine zr_if_eq_t (tgt := 17) h d_S_depth_4 rfl hc_1 ?_
    refine zr_iconst (v := (0 : Int32)) h d_S_depth_17 rfl (by decide) ?_
    refine zr_sub [] rfl ?_
    exact z_S_depth_18 h hE (0 : Int32) G hf
  · refine zr_if_eq_f h 17 d_S_depth_4 rfl rfl hc_1 ?_
    refine zr_aload_n h d_S_depth_7 rfl rfl 0 rfl ?_
    refine zr_getR h d_S_depth_8 rfl fl_S_36 sh_0 rfl ?_
    refine zr_getI h d_S_depth_11 rfl fl_S_110 sh_11 rfl ?_
    refine zr_goto (tgt := 18) h d_S_depth_14 rfl ?_
    refine zr_sub [] rfl ?_
    exact z_S_depth_18 h hE (G 11 9) G hf
theorem c_S_depth (l : Launch) (D : va_G) (cA : ClassId) (ad : Nat → Nat) (A : Nat → Prop) (G : zx_G) (r : Int32) (G1 : zx_G) (hf : f_S_depth G = some (r, G1)) : zx_met l y_S_depth M_S_depth [.ref (ad 0)] D cA ad A G r G1 :=
  zx_toMet (by decide) rfl (Nat.le_of_ble_eq_true rfl) (fun κ h hE => by exact z_S_depth_0 h hE G hf)

def f_S_isInPicture_42 (s0 : Int32) (G : zx_G) : Option (Int32 × zx_G) :=
  zx_gd (zx_01 s0) <| some (s0, G)
def f_S_isInPicture_41 (G : zx_G) : Option (Int32 × zx_G) :=
  f_S_isInPicture_42 (0 : Int32) G
def f_S_isInPicture (x1 x2 : Int32) (G : zx_G) : Option (Int32 × zx_G) :=
  zx_if ((G 0 9) = 0)
    (f_S_isInPicture_41 G)
    (zx_if (x1 < 0)
      (f_S_isInPicture_41 G)
      (zx_if ((G 11 7) ≤ x1)
        (f_S_isInPicture_41 G)
        (zx_if (x2 < 0)
          (f_S_isInPicture_41 G)
          (zx_if ((G 11 8) ≤ x2)
            (f_S_isInPicture_41 G)
            (f_S_isInPicture_42 (1 : Int32) G)))))
set_option maxRecDepth 100000 in
set_option maxHeartbeats 4000000 in
theorem z_S_isInPicture_42 {κ : zx_K} {ad : Nat → Nat} {r : Int32} {G1 : zx_G} (h : zx_C M_S_isInPicture κ ad) (hE : zx_E M_S_isInPicture κ ad r G1) (s0 : Int32) (G : zx_G) (hf : f_S_isInPicture_42 s0 G = some (r, G1)) : zx_Z κ ad 42 [] [.int s0] G := by
  unfold f_S_isInPicture_42 at hf
  obtain ⟨hb_1, hf⟩ := zx_gd_some hf
  exact zr_zret h hE d_S_isInPicture_42 rfl hb_1 hf
set_option maxRecDepth 100000 in
set_option maxHeartbeats 4000000 in
theorem z_S_isInPicture_41 {κ : zx_K} {ad : Nat → Nat} {r : Int32} {G1 : zx_G} (h : zx_C M_S_isInPicture κ ad) (hE : zx_E M_S_isInPicture κ ad r G1) (G : zx_G) (hf : f_S_isInPicture_41 G = some (r, G1)) : zx_Z κ ad 41 [] [] G := by
  unfold f_S_isInPicture_41 at hf
  refine zr_iconst (v := (0 : Int32)) h d_S_isInPicture_41 rfl (by decide) ?_
  exact z_S_isInPicture_42 h hE (0 : Int32) G hf
set_option maxRecDepth 100000 in
set_option maxHeartbeats 4000000 in
theorem z_S_isInPicture_0 {κ : zx_K} {ad : Nat → Nat} {r : Int32} {G1 : zx_G} (h : zx_C M_S_isInPicture κ ad) (hE : zx_E M_S_isInPicture κ ad r G1) (x1 x2 : Int32) (G : zx_G) (hf : f_S_isInPicture x1 x2 G = some (r, G1)) : zx_Z κ ad 0 [(0, .ref (ad 0)), (1, .int x1), (2, .int x2)] [] G := by
  unfold f_S_isInPicture at hf
  refine zr_aload_n h d_S_isInPicture_0 rfl rfl 0 rfl ?_
  refine zr_getI h d_S_isInPicture_1 rfl fl_S_79 sh_0 rfl ?_
  rcases zx_if_some hf with ⟨hc_1, hf⟩ | ⟨hc_1, hf⟩
  · refine zr_if_eq_t (tgt := 41) h d_S_isInPicture_4 rfl hc_1 ?_
    refine zr_sub [] rfl ?_
    exact z_S_isInPicture_41 h hE G hf
  · refine zr_if_eq_f h 41 d_S_isInPicture_4 rfl rfl hc_1 ?_
    refine zr_iload_n h d_S_isInPicture_7 rfl rfl 1 rfl ?_
    rcases zx_if_some hf with ⟨hc_2, hf⟩ | ⟨hc_2, hf⟩
    · refine zr_if_lt_t (tgt := 41) h d_S_isInPicture_8 rfl hc_2 ?_
      refine zr_sub [] rfl ?_
      exact z_S_isInPicture_41 h hE G hf
    · refine zr_if_lt_f h 41 d_S_isInPicture_8 rfl rfl hc_2 ?_
      refine zr_iload_n h d_S_isInPicture_11 rfl rfl 1 rfl ?_
      refine zr_aload_n h d_S_isInPicture_12 rfl rfl 0 rfl ?_
      refine zr_getR h d_S_isInPicture_13 rfl fl_S_36 sh_0 rfl ?_
      refine zr_getI h d_S_isInPicture_16 rfl fl_S_104 sh_11 rfl ?_
      rcases zx_if_some hf with ⟨hc_3, hf⟩ | ⟨hc_3, hf⟩
      · refine zr_icmp_ge_t (tgt := 41) h d_S_isInPicture_19 rfl hc_3 ?_
        refine zr_sub [] rfl ?_
        exact z_S_isInPicture_41 h hE G hf
      · refine zr_icmp_ge_f h 41 d_S_isInPicture_19 rfl rfl hc_3 ?_
        refine zr_iload_n h d_S_isInPicture_22 rfl rfl 2 rfl ?_
        rcases zx_if_some hf with ⟨hc_4, hf⟩ | ⟨hc_4, hf⟩
        · refine zr_if_lt_t (tgt := 41) h d_S_isInPicture_23 rfl hc_4 ?_
          refine zr_sub [] rfl ?_
          exact z_S_isInPicture_41 h hE G hf
        · refine zr_if_lt_f h 41 d_S_isInPicture_23 rfl rfl hc_4 ?_
          refine zr_iload_n h d_S_isInPicture_26 rfl rfl 2 rfl ?_
          refine zr_aload_n h d_S_isInPicture_27 rfl rfl 0 rfl ?_
          refine zr_getR h d_S_isInPicture_28 rfl fl_S_36 sh_0 rfl ?_
          refine zr_getI h d_S_isInPicture_31 rfl fl_S_107 sh_11 rfl ?_
          rcases zx_if_some hf with ⟨hc_5, hf⟩ | ⟨hc_5, hf⟩
          · refine zr_icmp_ge_t (tgt := 41) h d_S_isInPicture_34 rfl hc_5 ?_
            refine zr_sub [] rfl ?_
            exact z_S_isInPicture_41 h hE G hf
          · refine zr_icmp_ge_f h 41 d_S_isInPicture_34 rfl rfl hc_5 ?_
            refine zr_iconst (v := (1 : Int32)) h d_S_isInPicture_37 rfl (by decide) ?_
            refine zr_goto (tgt := 42) h d_S_isInPicture_38 rfl ?_
            refine zr_sub [] rfl ?_
            exact z_S_isInPicture_42 h hE (1 : Int32) G hf
theorem c_S_isInPicture (l : Launch) (D : va_G) (cA : ClassId) (ad : Nat → Nat) (A : Nat → Prop) (x1 x2 : Int32) (G : zx_G) (r : Int32) (G1 : zx_G) (hf : f_S_isInPicture x1 x2 G = some (r, G1)) : zx_met l y_S_isInPicture M_S_isInPicture [.ref (ad 0), .int x1, .int x2] D cA ad A G r G1 :=
  zx_toMet (by decide) rfl (Nat.le_of_ble_eq_true rfl) (fun κ h hE => by exact z_S_isInPicture_0 h hE x1 x2 G hf)

def f_S_sample_24 (G : zx_G) : Option (Int32 × zx_G) :=
  some ((-1 : Int32), G)
def f_S_sample (x1 x2 x3 : Int32) (G : zx_G) : Option (Int32 × zx_G) :=
  zx_bd (f_S_isInPicture x2 x3 G) fun r_2 G_1 =>
  zx_if (r_2 = 0)
    (f_S_sample_24 G_1)
    (zx_if (x1 < 0)
      (f_S_sample_24 G_1)
      (zx_if (x1 < (G_1 11 6))
        (zx_bd (f_P_placeOf x1 x2 x3 G_1) fun r_8 G_7 =>
        zx_gd (zx_in r_8 768) <|
        some ((G_7 18 (Int32.toNatClampNeg r_8)), G_7))
        (f_S_sample_24 G_1)))
set_option maxRecDepth 100000 in
set_option maxHeartbeats 4000000 in
theorem z_S_sample_24 {κ : zx_K} {ad : Nat → Nat} {r : Int32} {G1 : zx_G} (h : zx_C M_S_sample κ ad) (hE : zx_E M_S_sample κ ad r G1) (G : zx_G) (hf : f_S_sample_24 G = some (r, G1)) : zx_Z κ ad 24 [] [] G := by
  unfold f_S_sample_24 at hf
  refine zr_iconst (v := (-1 : Int32)) h d_S_sample_24 rfl (by decide) ?_
  exact zr_iret h hE d_S_sample_25 rfl hf
set_option maxRecDepth 100000 in
set_option maxHeartbeats 4000000 in
theorem z_S_sample_0 {κ : zx_K} {ad : Nat → Nat} {r : Int32} {G1 : zx_G} (h : zx_C M_S_sample κ ad) (hE : zx_E M_S_sample κ ad r G1) (x1 x2 x3 : Int32) (G : zx_G) (hf : f_S_sample x1 x2 x3 G = some (r, G1)) : zx_Z κ ad 0 [(0, .ref (ad 0)), (1, .int x1), (2, .int x2), (3, .int x3)] [] G := by
  unfold f_S_sample at hf
  refine zr_aload_n h d_S_sample_0 rfl rfl 0 rfl ?_
  refine zr_iload_n h d_S_sample_1 rfl rfl 2 rfl ?_
  refine zr_iload_n h d_S_sample_2 rfl rfl 3 rfl ?_
  obtain ⟨r_2, G_1, hq_3, hf⟩ := zx_bd_some hf
  refine zr_callVI (As := [.int x2, .int x3]) (b := 0) h (c_S_isInPicture _ _ _ _ _ x2 x3 G r_2 G_1 hq_3) cc_S_113 d_S_sample_3 rfl rfl rfl sh_0 ⟨rfl, rfl, by decide, by decide⟩ (Nat.le_of_ble_eq_true rfl) ?_
  rcases zx_if_some hf with ⟨hc_4, hf⟩ | ⟨hc_4, hf⟩
  · refine zr_if_eq_t (tgt := 24) h d_S_sample_6 rfl hc_4 ?_
    refine zr_sub [] rfl ?_
    exact z_S_sample_24 h hE G_1 hf
  · refine zr_if_eq_f h 24 d_S_sample_6 rfl rfl hc_4 ?_
    refine zr_iload_n h d_S_sample_9 rfl rfl 1 rfl ?_
    rcases zx_if_some hf with ⟨hc_5, hf⟩ | ⟨hc_5, hf⟩
    · refine zr_if_lt_t (tgt := 24) h d_S_sample_10 rfl hc_5 ?_
      refine zr_sub [] rfl ?_
      exact z_S_sample_24 h hE G_1 hf
    · refine zr_if_lt_f h 24 d_S_sample_10 rfl rfl hc_5 ?_
      refine zr_iload_n h d_S_sample_13 rfl rfl 1 rfl ?_
      refine zr_aload_n h d_S_sample_14 rfl rfl 0 rfl ?_
      refine zr_getR h d_S_sample_15 rfl fl_S_36 sh_0 rfl ?_
      refine zr_getI h d_S_sample_18 rfl fl_S_101 sh_11 rfl ?_
      rcases zx_if_some hf with ⟨hc_6, hf⟩ | ⟨hc_6, hf⟩
      · refine zr_icmp_lt_t (tgt := 26) h d_S_sample_21 rfl hc_6 ?_
        refine zr_aload_n h d_S_sample_26 rfl rfl 0 rfl ?_
        refine zr_getR h d_S_sample_27 rfl fl_S_53 sh_0 rfl ?_
        refine zr_getR h d_S_sample_30 rfl fl_S_117 sh_17 rfl ?_
        refine zr_iload_n h d_S_sample_33 rfl rfl 1 rfl ?_
        refine zr_iload_n h d_S_sample_34 rfl rfl 2 rfl ?_
        refine zr_iload_n h d_S_sample_35 rfl rfl 3 rfl ?_
        obtain ⟨r_8, G_7, hq_9, hf⟩ := zx_bd_some hf
        refine zr_callSI (As := [.int x1, .int x2, .int x3]) h (c_P_placeOf _ _ _ _ _ x1 x2 x3 G_1 r_8 G_7 hq_9) cc_S_120 d_S_sample_36 rfl rfl rfl ⟨rfl, by decide, by decide⟩ (Nat.le_of_ble_eq_true rfl) ?_
        obtain ⟨hb_10, hf⟩ := zx_gd_some hf
        refine zr_iald h d_S_sample_39 rfl sh_18 hb_10 ?_
        exact zr_iret h hE d_S_sample_40 rfl hf
      · refine zr_icmp_lt_f h 26 d_S_sample_21 rfl rfl hc_6 ?_
        refine zr_sub [] rfl ?_
        exact z_S_sample_24 h hE G_1 hf
theorem c_S_sample (l : Launch) (D : va_G) (cA : ClassId) (ad : Nat → Nat) (A : Nat → Prop) (x1 x2 x3 : Int32) (G : zx_G) (r : Int32) (G1 : zx_G) (hf : f_S_sample x1 x2 x3 G = some (r, G1)) : zx_met l y_S_sample M_S_sample [.ref (ad 0), .int x1, .int x2, .int x3] D cA ad A G r G1 :=
  zx_toMet (by decide) rfl (Nat.le_of_ble_eq_true rfl) (fun κ h hE => by exact z_S_sample_0 h hE x1 x2 x3 G hf)

def f_S_block_18 (G : zx_G) : Option (Int32 × zx_G) :=
  some ((-1 : Int32), G)
def f_S_block (x1 x2 x3 : Int32) (G : zx_G) : Option (Int32 × zx_G) :=
  zx_bd (f_S_isInPicture x1 x2 G) fun r_2 G_1 =>
  zx_if (r_2 = 0)
    (f_S_block_18 G_1)
    (zx_if (x3 < 0)
      (f_S_block_18 G_1)
      (zx_if (x3 ≤ (3 : Int32))
        (zx_bd (f_P_ownerAt x1 x2 G_1) fun r_8 G_7 =>
        zx_bd (f_P_tellOf r_8 x3 G_7) fun r_11 G_10 =>
        some (r_11, G_10))
        (f_S_block_18 G_1)))
set_option maxRecDepth 100000 in
set_option maxHeartbeats 4000000 in
theorem z_S_block_18 {κ : zx_K} {ad : Nat → Nat} {r : Int32} {G1 : zx_G} (h : zx_C M_S_block κ ad) (hE : zx_E M_S_block κ ad r G1) (G : zx_G) (hf : f_S_block_18 G = some (r, G1)) : zx_Z κ ad 18 [] [] G := by
  unfold f_S_block_18 at hf
  refine zr_iconst (v := (-1 : Int32)) h d_S_block_18 rfl (by decide) ?_
  exact zr_iret h hE d_S_block_19 rfl hf
set_option maxRecDepth 100000 in
set_option maxHeartbeats 4000000 in
theorem z_S_block_0 {κ : zx_K} {ad : Nat → Nat} {r : Int32} {G1 : zx_G} (h : zx_C M_S_block κ ad) (hE : zx_E M_S_block κ ad r G1) (x1 x2 x3 : Int32) (G : zx_G) (hf : f_S_block x1 x2 x3 G = some (r, G1)) : zx_Z κ ad 0 [(0, .ref (ad 0)), (1, .int x1), (2, .int x2), (3, .int x3)] [] G := by
  unfold f_S_block at hf
  refine zr_aload_n h d_S_block_0 rfl rfl 0 rfl ?_
  refine zr_iload_n h d_S_block_1 rfl rfl 1 rfl ?_
  refine zr_iload_n h d_S_block_2 rfl rfl 2 rfl ?_
  obtain ⟨r_2, G_1, hq_3, hf⟩ := zx_bd_some hf
  refine zr_callVI (As := [.int x1, .int x2]) (b := 0) h (c_S_isInPicture _ _ _ _ _ x1 x2 G r_2 G_1 hq_3) cc_S_113 d_S_block_3 rfl rfl rfl sh_0 ⟨rfl, rfl, by decide, by decide⟩ (Nat.le_of_ble_eq_true rfl) ?_
  rcases zx_if_some hf with ⟨hc_4, hf⟩ | ⟨hc_4, hf⟩
  · refine zr_if_eq_t (tgt := 18) h d_S_block_6 rfl hc_4 ?_
    refine zr_sub [] rfl ?_
    exact z_S_block_18 h hE G_1 hf
  · refine zr_if_eq_f h 18 d_S_block_6 rfl rfl hc_4 ?_
    refine zr_iload_n h d_S_block_9 rfl rfl 3 rfl ?_
    rcases zx_if_some hf with ⟨hc_5, hf⟩ | ⟨hc_5, hf⟩
    · refine zr_if_lt_t (tgt := 18) h d_S_block_10 rfl hc_5 ?_
      refine zr_sub [] rfl ?_
      exact z_S_block_18 h hE G_1 hf
    · refine zr_if_lt_f h 18 d_S_block_10 rfl rfl hc_5 ?_
      refine zr_iload_n h d_S_block_13 rfl rfl 3 rfl ?_
      refine zr_iconst (v := (3 : Int32)) h d_S_block_14 rfl (by decide) ?_
      rcases zx_if_some hf with ⟨hc_6, hf⟩ | ⟨hc_6, hf⟩
      · refine zr_icmp_le_t (tgt := 20) h d_S_block_15 rfl hc_6 ?_
        refine zr_aload_n h d_S_block_20 rfl rfl 0 rfl ?_
        refine zr_getR h d_S_block_21 rfl fl_S_53 sh_0 rfl ?_
        refine zr_aload_n h d_S_block_24 rfl rfl 0 rfl ?_
        refine zr_getR h d_S_block_25 rfl fl_S_53 sh_0 rfl ?_
        refine zr_iload_n h d_S_block_28 rfl rfl 1 rfl ?_
        refine zr_iload_n h d_S_block_29 rfl rfl 2 rfl ?_
        obtain ⟨r_8, G_7, hq_9, hf⟩ := zx_bd_some hf
        refine zr_callVI (As := [.int x1, .int x2]) (b := 17) h (c_P_ownerAt _ _ _ _ _ x1 x2 G_1 r_8 G_7 hq_9) cc_S_124 d_S_block_30 rfl rfl rfl sh_17 ⟨rfl, rfl, by decide, by decide⟩ (Nat.le_of_ble_eq_true rfl) ?_
        refine zr_iload_n h d_S_block_33 rfl rfl 3 rfl ?_
        obtain ⟨r_11, G_10, hq_12, hf⟩ := zx_bd_some hf
        refine zr_callVI (As := [.int r_8, .int x3]) (b := 17) h (c_P_tellOf _ _ _ _ _ r_8 x3 G_7 r_11 G_10 hq_12) cc_S_128 d_S_block_34 rfl rfl rfl sh_17 ⟨rfl, rfl, by decide, by decide⟩ (Nat.le_of_ble_eq_true rfl) ?_
        exact zr_iret h hE d_S_block_37 rfl hf
      · refine zr_icmp_le_f h 20 d_S_block_15 rfl rfl hc_6 ?_
        refine zr_sub [] rfl ?_
        exact z_S_block_18 h hE G_1 hf
theorem c_S_block (l : Launch) (D : va_G) (cA : ClassId) (ad : Nat → Nat) (A : Nat → Prop) (x1 x2 x3 : Int32) (G : zx_G) (r : Int32) (G1 : zx_G) (hf : f_S_block x1 x2 x3 G = some (r, G1)) : zx_met l y_S_block M_S_block [.ref (ad 0), .int x1, .int x2, .int x3] D cA ad A G r G1 :=
  zx_toMet (by decide) rfl (Nat.le_of_ble_eq_true rfl) (fun κ h hE => by exact z_S_block_0 h hE x1 x2 x3 G hf)

def f_S_blocks_18 (s0 : Int32) (G : zx_G) : Option (Int32 × zx_G) :=
  some (s0, G)
def f_S_blocks (G : zx_G) : Option (Int32 × zx_G) :=
  zx_if ((G 0 9) = 0)
    (f_S_blocks_18 (0 : Int32) G)
    (f_S_blocks_18 (G 17 3) G)
set_option maxRecDepth 100000 in
set_option maxHeartbeats 4000000 in
theorem z_S_blocks_18 {κ : zx_K} {ad : Nat → Nat} {r : Int32} {G1 : zx_G} (h : zx_C M_S_blocks κ ad) (hE : zx_E M_S_blocks κ ad r G1) (s0 : Int32) (G : zx_G) (hf : f_S_blocks_18 s0 G = some (r, G1)) : zx_Z κ ad 18 [] [.int s0] G := by
  unfold f_S_blocks_18 at hf
  exact zr_iret h hE d_S_blocks_18 rfl hf
set_option maxRecDepth 100000 in
set_option maxHeartbeats 4000000 in
theorem z_S_blocks_0 {κ : zx_K} {ad : Nat → Nat} {r : Int32} {G1 : zx_G} (h : zx_C M_S_blocks κ ad) (hE : zx_E M_S_blocks κ ad r G1) (G : zx_G) (hf : f_S_blocks G = some (r, G1)) : zx_Z κ ad 0 [(0, .ref (ad 0))] [] G := by
  unfold f_S_blocks at hf
  refine zr_aload_n h d_S_blocks_0 rfl rfl 0 rfl ?_
  refine zr_getI h d_S_blocks_1 rfl fl_S_79 sh_0 rfl ?_
  rcases zx_if_some hf with ⟨hc_1, hf⟩ | ⟨hc_1, hf⟩
  · refine zr_if_eq_t (tgt := 17) h d_S_blocks_4 rfl hc_1 ?_
    refine zr_iconst (v := (0 : Int32)) h d_S_blocks_17 rfl (by decide) ?_
    refine zr_sub [] rfl ?_
    exact z_S_blocks_18 h hE (0 : Int32) G hf
  · refine zr_if_eq_f h 17 d_S_blocks_4 rfl rfl hc_1 ?_
    refine zr_aload_n h d_S_blocks_7 rfl rfl 0 rfl ?_
    refine zr_getR h d_S_blocks_8 rfl fl_S_53 sh_0 rfl ?_
    refine zr_getI h d_S_blocks_11 rfl fl_S_131 sh_17 rfl ?_
    refine zr_goto (tgt := 18) h d_S_blocks_14 rfl ?_
    refine zr_sub [] rfl ?_
    exact z_S_blocks_18 h hE (G 17 3) G hf
theorem c_S_blocks (l : Launch) (D : va_G) (cA : ClassId) (ad : Nat → Nat) (A : Nat → Prop) (G : zx_G) (r : Int32) (G1 : zx_G) (hf : f_S_blocks G = some (r, G1)) : zx_met l y_S_blocks M_S_blocks [.ref (ad 0)] D cA ad A G r G1 :=
  zx_toMet (by decide) rfl (Nat.le_of_ble_eq_true rfl) (fun κ h hE => by exact z_S_blocks_0 h hE G hf)

def f_S_symbols_18 (s0 : Int32) (G : zx_G) : Option (Int32 × zx_G) :=
  some (s0, G)
def f_S_symbols (G : zx_G) : Option (Int32 × zx_G) :=
  zx_if ((G 0 9) = 0)
    (f_S_symbols_18 (0 : Int32) G)
    (f_S_symbols_18 (G 14 9) G)
set_option maxRecDepth 100000 in
set_option maxHeartbeats 4000000 in
theorem z_S_symbols_18 {κ : zx_K} {ad : Nat → Nat} {r : Int32} {G1 : zx_G} (h : zx_C M_S_symbols κ ad) (hE : zx_E M_S_symbols κ ad r G1) (s0 : Int32) (G : zx_G) (hf : f_S_symbols_18 s0 G = some (r, G1)) : zx_Z κ ad 18 [] [.int s0] G := by
  unfold f_S_symbols_18 at hf
  exact zr_iret h hE d_S_symbols_18 rfl hf
set_option maxRecDepth 100000 in
set_option maxHeartbeats 4000000 in
theorem z_S_symbols_0 {κ : zx_K} {ad : Nat → Nat} {r : Int32} {G1 : zx_G} (h : zx_C M_S_symbols κ ad) (hE : zx_E M_S_symbols κ ad r G1) (G : zx_G) (hf : f_S_symbols G = some (r, G1)) : zx_Z κ ad 0 [(0, .ref (ad 0))] [] G := by
  unfold f_S_symbols at hf
  refine zr_aload_n h d_S_symbols_0 rfl rfl 0 rfl ?_
  refine zr_getI h d_S_symbols_1 rfl fl_S_79 sh_0 rfl ?_
  rcases zx_if_some hf with ⟨hc_1, hf⟩ | ⟨hc_1, hf⟩
  · refine zr_if_eq_t (tgt := 17) h d_S_symbols_4 rfl hc_1 ?_
    refine zr_iconst (v := (0 : Int32)) h d_S_symbols_17 rfl (by decide) ?_
    refine zr_sub [] rfl ?_
    exact z_S_symbols_18 h hE (0 : Int32) G hf
  · refine zr_if_eq_f h 17 d_S_symbols_4 rfl rfl hc_1 ?_
    refine zr_aload_n h d_S_symbols_7 rfl rfl 0 rfl ?_
    refine zr_getR h d_S_symbols_8 rfl fl_S_46 sh_0 rfl ?_
    refine zr_getI h d_S_symbols_11 rfl fl_S_134 sh_14 rfl ?_
    refine zr_goto (tgt := 18) h d_S_symbols_14 rfl ?_
    refine zr_sub [] rfl ?_
    exact z_S_symbols_18 h hE (G 14 9) G hf
theorem c_S_symbols (l : Launch) (D : va_G) (cA : ClassId) (ad : Nat → Nat) (A : Nat → Prop) (G : zx_G) (r : Int32) (G1 : zx_G) (hf : f_S_symbols G = some (r, G1)) : zx_met l y_S_symbols M_S_symbols [.ref (ad 0)] D cA ad A G r G1 :=
  zx_toMet (by decide) rfl (Nat.le_of_ble_eq_true rfl) (fun κ h hE => by exact z_S_symbols_0 h hE G hf)

def f_S_taken_18 (s0 : Int32) (G : zx_G) : Option (Int32 × zx_G) :=
  some (s0, G)
def f_S_taken (G : zx_G) : Option (Int32 × zx_G) :=
  zx_if ((G 0 9) = 0)
    (f_S_taken_18 (0 : Int32) G)
    (f_S_taken_18 (G 14 8) G)
set_option maxRecDepth 100000 in
set_option maxHeartbeats 4000000 in
theorem z_S_taken_18 {κ : zx_K} {ad : Nat → Nat} {r : Int32} {G1 : zx_G} (h : zx_C M_S_taken κ ad) (hE : zx_E M_S_taken κ ad r G1) (s0 : Int32) (G : zx_G) (hf : f_S_taken_18 s0 G = some (r, G1)) : zx_Z κ ad 18 [] [.int s0] G := by
  unfold f_S_taken_18 at hf
  exact zr_iret h hE d_S_taken_18 rfl hf
set_option maxRecDepth 100000 in
set_option maxHeartbeats 4000000 in
theorem z_S_taken_0 {κ : zx_K} {ad : Nat → Nat} {r : Int32} {G1 : zx_G} (h : zx_C M_S_taken κ ad) (hE : zx_E M_S_taken κ ad r G1) (G : zx_G) (hf : f_S_taken G = some (r, G1)) : zx_Z κ ad 0 [(0, .ref (ad 0))] [] G := by
  unfold f_S_taken at hf
  refine zr_aload_n h d_S_taken_0 rfl rfl 0 rfl ?_
  refine zr_getI h d_S_taken_1 rfl fl_S_79 sh_0 rfl ?_
  rcases zx_if_some hf with ⟨hc_1, hf⟩ | ⟨hc_1, hf⟩
  · refine zr_if_eq_t (tgt := 17) h d_S_taken_4 rfl hc_1 ?_
    refine zr_iconst (v := (0 : Int32)) h d_S_taken_17 rfl (by decide) ?_
    refine zr_sub [] rfl ?_
    exact z_S_taken_18 h hE (0 : Int32) G hf
  · refine zr_if_eq_f h 17 d_S_taken_4 rfl rfl hc_1 ?_
    refine zr_aload_n h d_S_taken_7 rfl rfl 0 rfl ?_
    refine zr_getR h d_S_taken_8 rfl fl_S_46 sh_0 rfl ?_
    refine zr_getI h d_S_taken_11 rfl fl_S_137 sh_14 rfl ?_
    refine zr_goto (tgt := 18) h d_S_taken_14 rfl ?_
    refine zr_sub [] rfl ?_
    exact z_S_taken_18 h hE (G 14 8) G hf
theorem c_S_taken (l : Launch) (D : va_G) (cA : ClassId) (ad : Nat → Nat) (A : Nat → Prop) (G : zx_G) (r : Int32) (G1 : zx_G) (hf : f_S_taken G = some (r, G1)) : zx_met l y_S_taken M_S_taken [.ref (ad 0)] D cA ad A G r G1 :=
  zx_toMet (by decide) rfl (Nat.le_of_ble_eq_true rfl) (fun κ h hE => by exact z_S_taken_0 h hE G hf)
