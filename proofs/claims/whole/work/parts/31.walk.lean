/-! the methods as functions, and the rows that tie them to the machine; written by a program -/
def f_M_stretch_163 (k3 : Int32 → Int32 → Int32 → Int32 → zx_G → Option (Int32 × zx_G)) (x2 x3 x4 x5 : Int32) (G : zx_G) : Option (Int32 × zx_G) :=
  k3 x2 x3 x4 x5 G
def f_M_stretch_72 (k3 : Int32 → Int32 → Int32 → Int32 → zx_G → Option (Int32 × zx_G)) (x2 x3 x4 x5 : Int32) (G : zx_G) : Option (Int32 × zx_G) :=
  zx_bd (f_M_fail (1 : Int32) G) fun r_2 G_1 =>
  f_M_stretch_163 k3 x2 x3 x4 x5 G_1
def f_M_stretch_40 (k3 : Int32 → Int32 → Int32 → Int32 → zx_G → Option (Int32 × zx_G)) (x2 x3 x4 x5 s0 : Int32) (G : zx_G) : Option (Int32 × zx_G) :=
  zx_lt s0 fun x6_1 =>
  zx_if (x6_1 < (2 : Int32))
    (f_M_stretch_72 k3 x2 x3 x4 x5 G)
    (zx_if (x2 < (x5 + x6_1))
      (f_M_stretch_72 k3 x2 x3 x4 x5 G)
      (zx_if ((16 : Int32) ≤ (G 32 2))
        (f_M_stretch_72 k3 x2 x3 x4 x5 G)
        (zx_if (x4 < (5 : Int32))
          (zx_gd (zx_in (G 32 2) 16) <|
          zx_lt (zx_up G 34 (Int32.toNatClampNeg (G 32 2)) (x5 + (2 : Int32))) fun G_7 =>
          zx_gd (zx_in (G_7 32 2) 16) <|
          zx_lt (zx_up G_7 35 (Int32.toNatClampNeg (G_7 32 2)) (x5 + x6_1)) fun G_9 =>
          zx_gd (zx_in (x5 + (1 : Int32)) 240) <|
          zx_gd (zx_in (G_9 32 2) 16) <|
          zx_lt (zx_up G_9 36 (Int32.toNatClampNeg (G_9 32 2)) (G_9 33 (Int32.toNatClampNeg (x5 + (1 : Int32))))) fun G_12 =>
          zx_gd (zx_in (G_12 32 2) 16) <|
          zx_lt (zx_up G_12 37 (Int32.toNatClampNeg (G_12 32 2)) x3) fun G_14 =>
          zx_gd (zx_in (G_14 32 2) 16) <|
          zx_lt (zx_up G_14 38 (Int32.toNatClampNeg (G_14 32 2)) x4) fun G_16 =>
          zx_lt (zx_up G_16 32 2 ((G_16 32 2) + (1 : Int32))) fun G_17 =>
          zx_lt (x5 + x6_1) fun x5_18 =>
          f_M_stretch_163 k3 x2 x3 x4 x5_18 G_17)
          (f_M_stretch_72 k3 x2 x3 x4 x5 G))))
def f_M_stretch_166 (G : zx_G) : Option (Int32 × zx_G) :=
  some ((0 : Int32), G)
def f_M_stretch_3 : Nat → Int32 → Int32 → Int32 → Int32 → zx_G → Option (Int32 × zx_G)
  | 0, _, _, _, _, _ => none
  | n + 1, x2, x3, x4, x5, G =>
    zx_if (x2 ≤ x5)
      (f_M_stretch_166 G)
      (zx_if (¬ (G 32 10) = 0)
        (f_M_stretch_166 G)
        (zx_gd (zx_in x5 240) <|
        zx_if (¬ (G 33 (Int32.toNatClampNeg x5)) = 0)
          (zx_gd (zx_in x5 240) <|
          f_M_stretch_40 (f_M_stretch_3 n) x2 x3 x4 x5 (G 33 (Int32.toNatClampNeg x5)) G)
          (f_M_stretch_40 (f_M_stretch_3 n) x2 x3 x4 x5 (x2 - x5) G)))
def f_M_stretch (x1 x2 x3 x4 : Int32) (G : zx_G) : Option (Int32 × zx_G) :=
  zx_lt x1 fun x5_1 =>
  f_M_stretch_3 2048 x2 x3 x4 x5_1 G
set_option maxRecDepth 100000 in
set_option maxHeartbeats 4000000 in
theorem z_M_stretch_163 {κ : zx_K} {ad : Nat → Nat} {r : Int32} {G1 : zx_G} (h : zx_C M_M_stretch κ ad) (hE : zx_E M_M_stretch κ ad r G1) {k3 : Int32 → Int32 → Int32 → Int32 → zx_G → Option (Int32 × zx_G)} (hk3 : ∀ (x2 x3 x4 x5 : Int32) (G : zx_G), k3 x2 x3 x4 x5 G = some (r, G1) → zx_Z κ ad 3 [(0, .ref (ad 32)), (2, .int x2), (3, .int x3), (4, .int x4), (5, .int x5)] [] G) (x2 x3 x4 x5 : Int32) (G : zx_G) (hf : f_M_stretch_163 k3 x2 x3 x4 x5 G = some (r, G1)) : zx_Z κ ad 163 [(0, .ref (ad 32)), (2, .int x2), (3, .int x3), (4, .int x4), (5, .int x5)] [] G := by
  unfold f_M_stretch_163 at hf
  refine zr_goto (tgt := 3) h d_M_stretch_163 rfl ?_
  exact hk3 x2 x3 x4 x5 G hf
set_option maxRecDepth 100000 in
set_option maxHeartbeats 4000000 in
theorem z_M_stretch_72 {κ : zx_K} {ad : Nat → Nat} {r : Int32} {G1 : zx_G} (h : zx_C M_M_stretch κ ad) (hE : zx_E M_M_stretch κ ad r G1) {k3 : Int32 → Int32 → Int32 → Int32 → zx_G → Option (Int32 × zx_G)} (hk3 : ∀ (x2 x3 x4 x5 : Int32) (G : zx_G), k3 x2 x3 x4 x5 G = some (r, G1) → zx_Z κ ad 3 [(0, .ref (ad 32)), (2, .int x2), (3, .int x3), (4, .int x4), (5, .int x5)] [] G) (x2 x3 x4 x5 : Int32) (G : zx_G) (hf : f_M_stretch_72 k3 x2 x3 x4 x5 G = some (r, G1)) : zx_Z κ ad 72 [(0, .ref (ad 32)), (2, .int x2), (3, .int x3), (4, .int x4), (5, .int x5)] [] G := by
  unfold f_M_stretch_72 at hf
  refine zr_aload_n h d_M_stretch_72 rfl rfl 0 rfl ?_
  refine zr_iconst (v := (1 : Int32)) h d_M_stretch_73 rfl (by decide) ?_
  obtain ⟨r_2, G_1, hq_3, hf⟩ := zx_bd_some hf
  refine zr_callVV (As := [.int (1 : Int32)]) (b := 32) h (c_M_fail _ _ _ _ _ (1 : Int32) G r_2 G_1 hq_3) cc_M_119 d_M_stretch_74 rfl rfl rfl sh_32 ⟨rfl, rfl, by decide, by decide⟩ (Nat.le_of_ble_eq_true rfl) ?_
  refine zr_goto (tgt := 163) h d_M_stretch_77 rfl ?_
  exact z_M_stretch_163 h hE hk3 x2 x3 x4 x5 G_1 hf
set_option maxRecDepth 100000 in
set_option maxHeartbeats 4000000 in
theorem z_M_stretch_40 {κ : zx_K} {ad : Nat → Nat} {r : Int32} {G1 : zx_G} (h : zx_C M_M_stretch κ ad) (hE : zx_E M_M_stretch κ ad r G1) {k3 : Int32 → Int32 → Int32 → Int32 → zx_G → Option (Int32 × zx_G)} (hk3 : ∀ (x2 x3 x4 x5 : Int32) (G : zx_G), k3 x2 x3 x4 x5 G = some (r, G1) → zx_Z κ ad 3 [(0, .ref (ad 32)), (2, .int x2), (3, .int x3), (4, .int x4), (5, .int x5)] [] G) (x2 x3 x4 x5 s0 : Int32) (G : zx_G) (hf : f_M_stretch_40 k3 x2 x3 x4 x5 s0 G = some (r, G1)) : zx_Z κ ad 40 [(0, .ref (ad 32)), (2, .int x2), (3, .int x3), (4, .int x4), (5, .int x5)] [.int s0] G := by
  unfold f_M_stretch_40 at hf
  obtain ⟨x6_1, ex6_1, hf⟩ := zx_lt_some hf
  refine zr_istore h d_M_stretch_40 rfl (by decide) ex6_1 rfl ?_
  refine zr_iload h d_M_stretch_42 rfl 0 rfl ?_
  refine zr_iconst (v := (2 : Int32)) h d_M_stretch_44 rfl (by decide) ?_
  rcases zx_if_some hf with ⟨hc_2, hf⟩ | ⟨hc_2, hf⟩
  · refine zr_icmp_lt_t (tgt := 72) h d_M_stretch_45 rfl hc_2 ?_
    refine zr_sub [1, 2, 3, 4, 5] rfl ?_
    exact z_M_stretch_72 h hE hk3 x2 x3 x4 x5 G hf
  · refine zr_icmp_lt_f h 72 d_M_stretch_45 rfl rfl hc_2 ?_
    refine zr_iload h d_M_stretch_48 rfl 5 rfl ?_
    refine zr_iload h d_M_stretch_50 rfl 0 rfl ?_
    refine zr_iadd h d_M_stretch_52 rfl ?_
    refine zr_iload_n h d_M_stretch_53 rfl rfl 2 rfl ?_
    rcases zx_if_some hf with ⟨hc_3, hf⟩ | ⟨hc_3, hf⟩
    · refine zr_icmp_gt_t (tgt := 72) h d_M_stretch_54 rfl hc_3 ?_
      refine zr_sub [1, 2, 3, 4, 5] rfl ?_
      exact z_M_stretch_72 h hE hk3 x2 x3 x4 x5 G hf
    · refine zr_icmp_gt_f h 72 d_M_stretch_54 rfl rfl hc_3 ?_
      refine zr_aload_n h d_M_stretch_57 rfl rfl 1 rfl ?_
      refine zr_getI h d_M_stretch_58 rfl fl_M_112 sh_32 rfl ?_
      refine zr_bipush (v := (16 : Int32)) h d_M_stretch_61 rfl (by decide) ?_
      rcases zx_if_some hf with ⟨hc_4, hf⟩ | ⟨hc_4, hf⟩
      · refine zr_icmp_ge_t (tgt := 72) h d_M_stretch_63 rfl hc_4 ?_
        refine zr_sub [1, 2, 3, 4, 5] rfl ?_
        exact z_M_stretch_72 h hE hk3 x2 x3 x4 x5 G hf
      · refine zr_icmp_ge_f h 72 d_M_stretch_63 rfl rfl hc_4 ?_
        refine zr_iload h d_M_stretch_66 rfl 4 rfl ?_
        refine zr_iconst (v := (5 : Int32)) h d_M_stretch_68 rfl (by decide) ?_
        rcases zx_if_some hf with ⟨hc_5, hf⟩ | ⟨hc_5, hf⟩
        · refine zr_icmp_lt_t (tgt := 80) h d_M_stretch_69 rfl hc_5 ?_
          refine zr_aload_n h d_M_stretch_80 rfl rfl 1 rfl ?_
          refine zr_getR h d_M_stretch_81 rfl fl_M_13 sh_32 rfl ?_
          refine zr_aload_n h d_M_stretch_84 rfl rfl 1 rfl ?_
          refine zr_getI h d_M_stretch_85 rfl fl_M_112 sh_32 rfl ?_
          refine zr_iload h d_M_stretch_88 rfl 5 rfl ?_
          refine zr_iconst (v := (2 : Int32)) h d_M_stretch_90 rfl (by decide) ?_
          refine zr_iadd h d_M_stretch_91 rfl ?_
          obtain ⟨hb_6, hf⟩ := zx_gd_some hf
          obtain ⟨G_7, eG_7, hf⟩ := zx_lt_some hf
          refine zr_iast h d_M_stretch_92 rfl sh_34 hb_6 eG_7 ?_
          refine zr_aload_n h d_M_stretch_93 rfl rfl 1 rfl ?_
          refine zr_getR h d_M_stretch_94 rfl fl_M_16 sh_32 rfl ?_
          refine zr_aload_n h d_M_stretch_97 rfl rfl 1 rfl ?_
          refine zr_getI h d_M_stretch_98 rfl fl_M_112 sh_32 rfl ?_
          refine zr_iload h d_M_stretch_101 rfl 5 rfl ?_
          refine zr_iload h d_M_stretch_103 rfl 0 rfl ?_
          refine zr_iadd h d_M_stretch_105 rfl ?_
          obtain ⟨hb_8, hf⟩ := zx_gd_some hf
          obtain ⟨G_9, eG_9, hf⟩ := zx_lt_some hf
          refine zr_iast h d_M_stretch_106 rfl sh_35 hb_8 eG_9 ?_
          refine zr_aload_n h d_M_stretch_107 rfl rfl 1 rfl ?_
          refine zr_getR h d_M_stretch_108 rfl fl_M_19 sh_32 rfl ?_
          refine zr_aload_n h d_M_stretch_111 rfl rfl 1 rfl ?_
          refine zr_getI h d_M_stretch_112 rfl fl_M_112 sh_32 rfl ?_
          refine zr_aload_n h d_M_stretch_115 rfl rfl 1 rfl ?_
          refine zr_getR h d_M_stretch_116 rfl fl_M_7 sh_32 rfl ?_
          refine zr_iload h d_M_stretch_119 rfl 5 rfl ?_
          refine zr_iconst (v := (1 : Int32)) h d_M_stretch_121 rfl (by decide) ?_
          refine zr_iadd h d_M_stretch_122 rfl ?_
          obtain ⟨hb_10, hf⟩ := zx_gd_some hf
          refine zr_iald h d_M_stretch_123 rfl sh_33 hb_10 ?_
          obtain ⟨hb_11, hf⟩ := zx_gd_some hf
          obtain ⟨G_12, eG_12, hf⟩ := zx_lt_some hf
          refine zr_iast h d_M_stretch_124 rfl sh_36 hb_11 eG_12 ?_
          refine zr_aload_n h d_M_stretch_125 rfl rfl 1 rfl ?_
          refine zr_getR h d_M_stretch_126 rfl fl_M_22 sh_32 rfl ?_
          refine zr_aload_n h d_M_stretch_129 rfl rfl 1 rfl ?_
          refine zr_getI h d_M_stretch_130 rfl fl_M_112 sh_32 rfl ?_
          refine zr_iload_n h d_M_stretch_133 rfl rfl 3 rfl ?_
          obtain ⟨hb_13, hf⟩ := zx_gd_some hf
          obtain ⟨G_14, eG_14, hf⟩ := zx_lt_some hf
          refine zr_iast h d_M_stretch_134 rfl sh_37 hb_13 eG_14 ?_
          refine zr_aload_n h d_M_stretch_135 rfl rfl 1 rfl ?_
          refine zr_getR h d_M_stretch_136 rfl fl_M_25 sh_32 rfl ?_
          refine zr_aload_n h d_M_stretch_139 rfl rfl 1 rfl ?_
          refine zr_getI h d_M_stretch_140 rfl fl_M_112 sh_32 rfl ?_
          refine zr_iload h d_M_stretch_143 rfl 4 rfl ?_
          obtain ⟨hb_15, hf⟩ := zx_gd_some hf
          obtain ⟨G_16, eG_16, hf⟩ := zx_lt_some hf
          refine zr_iast h d_M_stretch_145 rfl sh_38 hb_15 eG_16 ?_
          refine zr_aload_n h d_M_stretch_146 rfl rfl 1 rfl ?_
          refine zr_dup h d_M_stretch_147 rfl rfl ?_
          refine zr_getI h d_M_stretch_148 rfl fl_M_112 sh_32 rfl ?_
          refine zr_iconst (v := (1 : Int32)) h d_M_stretch_151 rfl (by decide) ?_
          refine zr_iadd h d_M_stretch_152 rfl ?_
          obtain ⟨G_17, eG_17, hf⟩ := zx_lt_some hf
          refine zr_putI h d_M_stretch_153 rfl fl_M_112 pl_M_2 sh_32 rfl rfl rfl eG_17 ?_
          refine zr_iload h d_M_stretch_156 rfl 5 rfl ?_
          refine zr_iload h d_M_stretch_158 rfl 0 rfl ?_
          refine zr_iadd h d_M_stretch_160 rfl ?_
          obtain ⟨x5_18, ex5_18, hf⟩ := zx_lt_some hf
          refine zr_istore h d_M_stretch_161 rfl (by decide) ex5_18 rfl ?_
          refine zr_sub [2, 3, 4, 5, 0] rfl ?_
          exact z_M_stretch_163 h hE hk3 x2 x3 x4 x5_18 G_17 hf
        · refine zr_icmp_lt_f h 80 d_M_stretch_69 rfl rfl hc_5 ?_
          refine zr_sub [1, 2, 3, 4, 5] rfl ?_
          exact z_M_stretch_72 h hE hk3 x2 x3 x4 x5 G hf
set_option maxRecDepth 100000 in
set_option maxHeartbeats 4000000 in
theorem z_M_stretch_166 {κ : zx_K} {ad : Nat → Nat} {r : Int32} {G1 : zx_G} (h : zx_C M_M_stretch κ ad) (hE : zx_E M_M_stretch κ ad r G1) (G : zx_G) (hf : f_M_stretch_166 G = some (r, G1)) : zx_Z κ ad 166 [] [] G := by
  unfold f_M_stretch_166 at hf
  exact zr_vret h hE d_M_stretch_166 rfl hf
set_option maxRecDepth 100000 in
set_option maxHeartbeats 4000000 in
theorem z_M_stretch_3 {κ : zx_K} {ad : Nat → Nat} {r : Int32} {G1 : zx_G} (h : zx_C M_M_stretch κ ad) (hE : zx_E M_M_stretch κ ad r G1) : ∀ (n : Nat) (x2 x3 x4 x5 : Int32) (G : zx_G), f_M_stretch_3 n x2 x3 x4 x5 G = some (r, G1) → zx_Z κ ad 3 [(0, .ref (ad 32)), (2, .int x2), (3, .int x3), (4, .int x4), (5, .int x5)] [] G := by
  intro n
  induction n with
  | zero => intro x2 x3 x4 x5 G hf; cases hf
  | succ n ih =>
    intro x2 x3 x4 x5 G hf
    unfold f_M_stretch_3 at hf
    refine zr_iload h d_M_stretch_3 rfl 4 rfl ?_
    refine zr_iload_n h d_M_stretch_5 rfl rfl 1 rfl ?_
    rcases zx_if_some hf with ⟨hc_1, hf⟩ | ⟨hc_1, hf⟩
    · refine zr_icmp_ge_t (tgt := 166) h d_M_stretch_6 rfl hc_1 ?_
      refine zr_sub [] rfl ?_
      exact z_M_stretch_166 h hE G hf
    · refine zr_icmp_ge_f h 166 d_M_stretch_6 rfl rfl hc_1 ?_
      refine zr_aload_n h d_M_stretch_9 rfl rfl 0 rfl ?_
      refine zr_getI h d_M_stretch_10 rfl fl_M_78 sh_32 rfl ?_
      rcases zx_if_some hf with ⟨hc_2, hf⟩ | ⟨hc_2, hf⟩
      · refine zr_if_ne_t (tgt := 166) h d_M_stretch_13 rfl hc_2 ?_
        refine zr_sub [] rfl ?_
        exact z_M_stretch_166 h hE G hf
      · refine zr_if_ne_f h 166 d_M_stretch_13 rfl rfl hc_2 ?_
        refine zr_aload_n h d_M_stretch_16 rfl rfl 0 rfl ?_
        refine zr_getR h d_M_stretch_17 rfl fl_M_7 sh_32 rfl ?_
        refine zr_iload h d_M_stretch_20 rfl 4 rfl ?_
        obtain ⟨hb_3, hf⟩ := zx_gd_some hf
        refine zr_iald h d_M_stretch_22 rfl sh_33 hb_3 ?_
        rcases zx_if_some hf with ⟨hc_4, hf⟩ | ⟨hc_4, hf⟩
        · refine zr_if_ne_t (tgt := 33) h d_M_stretch_23 rfl hc_4 ?_
          refine zr_aload_n h d_M_stretch_33 rfl rfl 0 rfl ?_
          refine zr_getR h d_M_stretch_34 rfl fl_M_7 sh_32 rfl ?_
          refine zr_iload h d_M_stretch_37 rfl 4 rfl ?_
          obtain ⟨hb_5, hf⟩ := zx_gd_some hf
          refine zr_iald h d_M_stretch_39 rfl sh_33 hb_5 ?_
          exact z_M_stretch_40 h hE ih x2 x3 x4 x5 (G 33 (Int32.toNatClampNeg x5)) G hf
        · refine zr_if_ne_f h 33 d_M_stretch_23 rfl rfl hc_4 ?_
          refine zr_iload_n h d_M_stretch_26 rfl rfl 1 rfl ?_
          refine zr_iload h d_M_stretch_27 rfl 4 rfl ?_
          refine zr_isub h d_M_stretch_29 rfl ?_
          refine zr_goto (tgt := 40) h d_M_stretch_30 rfl ?_
          exact z_M_stretch_40 h hE ih x2 x3 x4 x5 (x2 - x5) G hf
set_option maxRecDepth 100000 in
set_option maxHeartbeats 4000000 in
theorem z_M_stretch_0 {κ : zx_K} {ad : Nat → Nat} {r : Int32} {G1 : zx_G} (h : zx_C M_M_stretch κ ad) (hE : zx_E M_M_stretch κ ad r G1) (x1 x2 x3 x4 : Int32) (G : zx_G) (hf : f_M_stretch x1 x2 x3 x4 G = some (r, G1)) : zx_Z κ ad 0 [(0, .ref (ad 32)), (1, .int x1), (2, .int x2), (3, .int x3), (4, .int x4)] [] G := by
  unfold f_M_stretch at hf
  refine zr_iload_n h d_M_stretch_0 rfl rfl 1 rfl ?_
  obtain ⟨x5_1, ex5_1, hf⟩ := zx_lt_some hf
  refine zr_istore h d_M_stretch_1 rfl (by decide) ex5_1 rfl ?_
  refine zr_sub [1, 3, 4, 5, 0] rfl ?_
  exact z_M_stretch_3 h hE 2048 x2 x3 x4 x5_1 G hf
theorem c_M_stretch (l : Launch) (D : va_G) (cA : ClassId) (ad : Nat → Nat) (A : Nat → Prop) (x1 x2 x3 x4 : Int32) (G : zx_G) (r : Int32) (G1 : zx_G) (hf : f_M_stretch x1 x2 x3 x4 G = some (r, G1)) : zx_met l y_M_stretch M_M_stretch [.ref (ad 32), .int x1, .int x2, .int x3, .int x4] D cA ad A G r G1 :=
  zx_toMet (by decide) rfl (Nat.le_of_ble_eq_true rfl) (fun κ h hE => by exact z_M_stretch_0 h hE x1 x2 x3 x4 G hf)

def f_M_split_80 (k18 : Int32 → zx_G → Option (Int32 × zx_G)) (x1 : Int32) (G : zx_G) : Option (Int32 × zx_G) :=
  zx_lt (x1 + (1 : Int32)) fun x1_1 =>
  k18 x1_1 G
def f_M_split_55 (k18 : Int32 → zx_G → Option (Int32 × zx_G)) (x1 : Int32) (G : zx_G) : Option (Int32 × zx_G) :=
  zx_gd (zx_in x1 16) <|
  zx_gd (zx_in x1 16) <|
  zx_gd (zx_in x1 16) <|
  zx_bd (f_M_stretch (G 34 (Int32.toNatClampNeg x1)) (G 35 (Int32.toNatClampNeg x1)) x1 ((G 38 (Int32.toNatClampNeg x1)) + (1 : Int32)) G) fun r_5 G_4 =>
  f_M_split_80 k18 x1 G_4
def f_M_split_86 (G : zx_G) : Option (Int32 × zx_G) :=
  some ((0 : Int32), G)
def f_M_split_18 : Nat → Int32 → zx_G → Option (Int32 × zx_G)
  | 0, _, _ => none
  | n + 1, x1, G =>
    zx_if ((G 32 2) ≤ x1)
      (f_M_split_86 G)
      (zx_if (¬ (G 32 10) = 0)
        (f_M_split_86 G)
        (zx_gd (zx_in x1 16) <|
        zx_if ((G 36 (Int32.toNatClampNeg x1)) = (109 : Int32))
          (f_M_split_55 (f_M_split_18 n) x1 G)
          (zx_gd (zx_in x1 16) <|
          zx_if (¬ (G 36 (Int32.toNatClampNeg x1)) = (114 : Int32))
            (f_M_split_80 (f_M_split_18 n) x1 G)
            (f_M_split_55 (f_M_split_18 n) x1 G))))
def f_M_split (G : zx_G) : Option (Int32 × zx_G) :=
  zx_lt (zx_up G 32 2 (0 : Int32)) fun G_1 =>
  zx_bd (f_M_stretch (0 : Int32) (G_1 32 0) (-1 : Int32) (1 : Int32) G_1) fun r_3 G_2 =>
  zx_lt (0 : Int32) fun x1_5 =>
  f_M_split_18 2048 x1_5 G_2
set_option maxRecDepth 100000 in
set_option maxHeartbeats 4000000 in
theorem z_M_split_80 {κ : zx_K} {ad : Nat → Nat} {r : Int32} {G1 : zx_G} (h : zx_C M_M_split κ ad) (hE : zx_E M_M_split κ ad r G1) {k18 : Int32 → zx_G → Option (Int32 × zx_G)} (hk18 : ∀ (x1 : Int32) (G : zx_G), k18 x1 G = some (r, G1) → zx_Z κ ad 18 [(0, .ref (ad 32)), (1, .int x1)] [] G) (x1 : Int32) (G : zx_G) (hf : f_M_split_80 k18 x1 G = some (r, G1)) : zx_Z κ ad 80 [(0, .ref (ad 32)), (1, .int x1)] [] G := by
  unfold f_M_split_80 at hf
  obtain ⟨x1_1, ex1_1, hf⟩ := zx_lt_some hf
  refine zr_iinc (j := 1) h d_M_split_80 rfl rfl (by decide) ex1_1 (by decide) rfl ?_
  refine zr_goto (tgt := 18) h d_M_split_83 rfl ?_
  refine zr_sub [1, 0] rfl ?_
  exact hk18 x1_1 G hf
set_option maxRecDepth 100000 in
set_option maxHeartbeats 4000000 in
theorem z_M_split_55 {κ : zx_K} {ad : Nat → Nat} {r : Int32} {G1 : zx_G} (h : zx_C M_M_split κ ad) (hE : zx_E M_M_split κ ad r G1) {k18 : Int32 → zx_G → Option (Int32 × zx_G)} (hk18 : ∀ (x1 : Int32) (G : zx_G), k18 x1 G = some (r, G1) → zx_Z κ ad 18 [(0, .ref (ad 32)), (1, .int x1)] [] G) (x1 : Int32) (G : zx_G) (hf : f_M_split_55 k18 x1 G = some (r, G1)) : zx_Z κ ad 55 [(0, .ref (ad 32)), (1, .int x1)] [] G := by
  unfold f_M_split_55 at hf
  refine zr_aload_n h d_M_split_55 rfl rfl 0 rfl ?_
  refine zr_aload_n h d_M_split_56 rfl rfl 0 rfl ?_
  refine zr_getR h d_M_split_57 rfl fl_M_13 sh_32 rfl ?_
  refine zr_iload_n h d_M_split_60 rfl rfl 1 rfl ?_
  obtain ⟨hb_1, hf⟩ := zx_gd_some hf
  refine zr_iald h d_M_split_61 rfl sh_34 hb_1 ?_
  refine zr_aload_n h d_M_split_62 rfl rfl 0 rfl ?_
  refine zr_getR h d_M_split_63 rfl fl_M_16 sh_32 rfl ?_
  refine zr_iload_n h d_M_split_66 rfl rfl 1 rfl ?_
  obtain ⟨hb_2, hf⟩ := zx_gd_some hf
  refine zr_iald h d_M_split_67 rfl sh_35 hb_2 ?_
  refine zr_iload_n h d_M_split_68 rfl rfl 1 rfl ?_
  refine zr_aload_n h d_M_split_69 rfl rfl 0 rfl ?_
  refine zr_getR h d_M_split_70 rfl fl_M_25 sh_32 rfl ?_
  refine zr_iload_n h d_M_split_73 rfl rfl 1 rfl ?_
  obtain ⟨hb_3, hf⟩ := zx_gd_some hf
  refine zr_iald h d_M_split_74 rfl sh_38 hb_3 ?_
  refine zr_iconst (v := (1 : Int32)) h d_M_split_75 rfl (by decide) ?_
  refine zr_iadd h d_M_split_76 rfl ?_
  obtain ⟨r_5, G_4, hq_6, hf⟩ := zx_bd_some hf
  refine zr_callVV (As := [.int (G 34 (Int32.toNatClampNeg x1)), .int (G 35 (Int32.toNatClampNeg x1)), .int x1, .int ((G 38 (Int32.toNatClampNeg x1)) + (1 : Int32))]) (b := 32) h (c_M_stretch _ _ _ _ _ (G 34 (Int32.toNatClampNeg x1)) (G 35 (Int32.toNatClampNeg x1)) x1 ((G 38 (Int32.toNatClampNeg x1)) + (1 : Int32)) G r_5 G_4 hq_6) cc_M_115 d_M_split_77 rfl rfl rfl sh_32 ⟨rfl, rfl, by decide, by decide⟩ (Nat.le_of_ble_eq_true rfl) ?_
  exact z_M_split_80 h hE hk18 x1 G_4 hf
set_option maxRecDepth 100000 in
set_option maxHeartbeats 4000000 in
theorem z_M_split_86 {κ : zx_K} {ad : Nat → Nat} {r : Int32} {G1 : zx_G} (h : zx_C M_M_split κ ad) (hE : zx_E M_M_split κ ad r G1) (G : zx_G) (hf : f_M_split_86 G = some (r, G1)) : zx_Z κ ad 86 [] [] G := by
  unfold f_M_split_86 at hf
  exact zr_vret h hE d_M_split_86 rfl hf
set_option maxRecDepth 100000 in
set_option maxHeartbeats 4000000 in
theorem z_M_split_18 {κ : zx_K} {ad : Nat → Nat} {r : Int32} {G1 : zx_G} (h : zx_C M_M_split κ ad) (hE : zx_E M_M_split κ ad r G1) : ∀ (n : Nat) (x1 : Int32) (G : zx_G), f_M_split_18 n x1 G = some (r, G1) → zx_Z κ ad 18 [(0, .ref (ad 32)), (1, .int x1)] [] G := by
  intro n
  induction n with
  | zero => intro x1 G hf; cases hf
  | succ n ih =>
    intro x1 G hf
    unfold f_M_split_18 at hf
    refine zr_iload_n h d_M_split_18 rfl rfl 1 rfl ?_
    refine zr_aload_n h d_M_split_19 rfl rfl 0 rfl ?_
    refine zr_getI h d_M_split_20 rfl fl_M_112 sh_32 rfl ?_
    rcases zx_if_some hf with ⟨hc_1, hf⟩ | ⟨hc_1, hf⟩
    · refine zr_icmp_ge_t (tgt := 86) h d_M_split_23 rfl hc_1 ?_
      refine zr_sub [] rfl ?_
      exact z_M_split_86 h hE G hf
    · refine zr_icmp_ge_f h 86 d_M_split_23 rfl rfl hc_1 ?_
      refine zr_aload_n h d_M_split_26 rfl rfl 0 rfl ?_
      refine zr_getI h d_M_split_27 rfl fl_M_78 sh_32 rfl ?_
      rcases zx_if_some hf with ⟨hc_2, hf⟩ | ⟨hc_2, hf⟩
      · refine zr_if_ne_t (tgt := 86) h d_M_split_30 rfl hc_2 ?_
        refine zr_sub [] rfl ?_
        exact z_M_split_86 h hE G hf
      · refine zr_if_ne_f h 86 d_M_split_30 rfl rfl hc_2 ?_
        refine zr_aload_n h d_M_split_33 rfl rfl 0 rfl ?_
        refine zr_getR h d_M_split_34 rfl fl_M_19 sh_32 rfl ?_
        refine zr_iload_n h d_M_split_37 rfl rfl 1 rfl ?_
        obtain ⟨hb_3, hf⟩ := zx_gd_some hf
        refine zr_iald h d_M_split_38 rfl sh_36 hb_3 ?_
        refine zr_bipush (v := (109 : Int32)) h d_M_split_39 rfl (by decide) ?_
        rcases zx_if_some hf with ⟨hc_4, hf⟩ | ⟨hc_4, hf⟩
        · refine zr_icmp_eq_t (tgt := 55) h d_M_split_41 rfl hc_4 ?_
          exact z_M_split_55 h hE ih x1 G hf
        · refine zr_icmp_eq_f h 55 d_M_split_41 rfl rfl hc_4 ?_
          refine zr_aload_n h d_M_split_44 rfl rfl 0 rfl ?_
          refine zr_getR h d_M_split_45 rfl fl_M_19 sh_32 rfl ?_
          refine zr_iload_n h d_M_split_48 rfl rfl 1 rfl ?_
          obtain ⟨hb_5, hf⟩ := zx_gd_some hf
          refine zr_iald h d_M_split_49 rfl sh_36 hb_5 ?_
          refine zr_bipush (v := (114 : Int32)) h d_M_split_50 rfl (by decide) ?_
          rcases zx_if_some hf with ⟨hc_6, hf⟩ | ⟨hc_6, hf⟩
          · refine zr_icmp_ne_t (tgt := 80) h d_M_split_52 rfl hc_6 ?_
            exact z_M_split_80 h hE ih x1 G hf
          · refine zr_icmp_ne_f h 80 d_M_split_52 rfl rfl hc_6 ?_
            exact z_M_split_55 h hE ih x1 G hf
set_option maxRecDepth 100000 in
set_option maxHeartbeats 4000000 in
theorem z_M_split_0 {κ : zx_K} {ad : Nat → Nat} {r : Int32} {G1 : zx_G} (h : zx_C M_M_split κ ad) (hE : zx_E M_M_split κ ad r G1) (G : zx_G) (hf : f_M_split G = some (r, G1)) : zx_Z κ ad 0 [(0, .ref (ad 32))] [] G := by
  unfold f_M_split at hf
  refine zr_aload_n h d_M_split_0 rfl rfl 0 rfl ?_
  refine zr_iconst (v := (0 : Int32)) h d_M_split_1 rfl (by decide) ?_
  obtain ⟨G_1, eG_1, hf⟩ := zx_lt_some hf
  refine zr_putI h d_M_split_2 rfl fl_M_112 pl_M_2 sh_32 rfl rfl rfl eG_1 ?_
  refine zr_aload_n h d_M_split_5 rfl rfl 0 rfl ?_
  refine zr_iconst (v := (0 : Int32)) h d_M_split_6 rfl (by decide) ?_
  refine zr_aload_n h d_M_split_7 rfl rfl 0 rfl ?_
  refine zr_getI h d_M_split_8 rfl fl_M_70 sh_32 rfl ?_
  refine zr_iconst (v := (-1 : Int32)) h d_M_split_11 rfl (by decide) ?_
  refine zr_iconst (v := (1 : Int32)) h d_M_split_12 rfl (by decide) ?_
  obtain ⟨r_3, G_2, hq_4, hf⟩ := zx_bd_some hf
  refine zr_callVV (As := [.int (0 : Int32), .int (G_1 32 0), .int (-1 : Int32), .int (1 : Int32)]) (b := 32) h (c_M_stretch _ _ _ _ _ (0 : Int32) (G_1 32 0) (-1 : Int32) (1 : Int32) G_1 r_3 G_2 hq_4) cc_M_115 d_M_split_13 rfl rfl rfl sh_32 ⟨rfl, rfl, by decide, by decide⟩ (Nat.le_of_ble_eq_true rfl) ?_
  refine zr_iconst (v := (0 : Int32)) h d_M_split_16 rfl (by decide) ?_
  obtain ⟨x1_5, ex1_5, hf⟩ := zx_lt_some hf
  refine zr_istore_n h d_M_split_17 rfl rfl (by decide) ex1_5 rfl ?_
  refine zr_sub [1, 0] rfl ?_
  exact z_M_split_18 h hE 2048 x1_5 G_2 hf
theorem c_M_split (l : Launch) (D : va_G) (cA : ClassId) (ad : Nat → Nat) (A : Nat → Prop) (G : zx_G) (r : Int32) (G1 : zx_G) (hf : f_M_split G = some (r, G1)) : zx_met l y_M_split M_M_split [.ref (ad 32)] D cA ad A G r G1 :=
  zx_toMet (by decide) rfl (Nat.le_of_ble_eq_true rfl) (fun κ h hE => by exact z_M_split_0 h hE G hf)

def f_M_brand_61 (k23 : Int32 → Int32 → zx_G → Option (Int32 × zx_G)) (x2 s0 : Int32) (G : zx_G) : Option (Int32 × zx_G) :=
  zx_lt s0 fun x1_1 =>
  zx_lt (x2 + (1 : Int32)) fun x2_2 =>
  k23 x1_1 x2_2 G
def f_M_brand_56 (k23 : Int32 → Int32 → zx_G → Option (Int32 × zx_G)) (x2 : Int32) (G : zx_G) : Option (Int32 × zx_G) :=
  f_M_brand_61 k23 x2 (1 : Int32) G
def f_M_brand_95 (G : zx_G) : Option (Int32 × zx_G) :=
  some ((0 : Int32), G)
def f_M_brand_90 (G : zx_G) : Option (Int32 × zx_G) :=
  zx_bd (f_M_fail (2 : Int32) G) fun r_2 G_1 =>
  f_M_brand_95 G_1
def f_M_brand_68 (x1 : Int32) (G : zx_G) : Option (Int32 × zx_G) :=
  zx_if ((G 32 2) = 0)
    (f_M_brand_90 G)
    (zx_gd (zx_in (0 : Int32) 16) <|
    zx_if (¬ (G 36 (Int32.toNatClampNeg (0 : Int32))) = (102 : Int32))
      (f_M_brand_90 G)
      (zx_if (¬ x1 = 0)
        (f_M_brand_95 G)
        (f_M_brand_90 G)))
def f_M_brand_23 : Nat → Int32 → Int32 → zx_G → Option (Int32 × zx_G)
  | 0, _, _, _ => none
  | n + 1, x1, x2, G =>
    zx_if ((G 32 0) ≤ x2)
      (f_M_brand_68 x1 G)
      (zx_gd (zx_in (0 : Int32) 16) <|
      zx_if ((G 35 (Int32.toNatClampNeg (0 : Int32))) ≤ x2)
        (f_M_brand_68 x1 G)
        (zx_if (¬ x1 = 0)
          (f_M_brand_56 (f_M_brand_23 n) x2 G)
          (zx_gd (zx_in x2 240) <|
          zx_if (¬ (G 33 (Int32.toNatClampNeg x2)) = (118 : Int32))
            (f_M_brand_61 (f_M_brand_23 n) x2 (0 : Int32) G)
            (f_M_brand_56 (f_M_brand_23 n) x2 G))))
def f_M_brand_22 (x1 s0 : Int32) (G : zx_G) : Option (Int32 × zx_G) :=
  zx_lt s0 fun x2_1 =>
  f_M_brand_23 2048 x1 x2_1 G
def f_M_brand (G : zx_G) : Option (Int32 × zx_G) :=
  zx_lt (0 : Int32) fun x1_1 =>
  zx_if ((G 32 2) ≤ 0)
    (f_M_brand_22 x1_1 (G 32 0) G)
    (zx_gd (zx_in (0 : Int32) 16) <|
    f_M_brand_22 x1_1 (G 34 (Int32.toNatClampNeg (0 : Int32))) G)
set_option maxRecDepth 100000 in
set_option maxHeartbeats 4000000 in
theorem z_M_brand_61 {κ : zx_K} {ad : Nat → Nat} {r : Int32} {G1 : zx_G} (h : zx_C M_M_brand κ ad) (hE : zx_E M_M_brand κ ad r G1) {k23 : Int32 → Int32 → zx_G → Option (Int32 × zx_G)} (hk23 : ∀ (x1 x2 : Int32) (G : zx_G), k23 x1 x2 G = some (r, G1) → zx_Z κ ad 23 [(0, .ref (ad 32)), (1, .int x1), (2, .int x2)] [] G) (x2 s0 : Int32) (G : zx_G) (hf : f_M_brand_61 k23 x2 s0 G = some (r, G1)) : zx_Z κ ad 61 [(0, .ref (ad 32)), (2, .int x2)] [.int s0] G := by
  unfold f_M_brand_61 at hf
  obtain ⟨x1_1, ex1_1, hf⟩ := zx_lt_some hf
  refine zr_istore_n h d_M_brand_61 rfl rfl (by decide) ex1_1 rfl ?_
  obtain ⟨x2_2, ex2_2, hf⟩ := zx_lt_some hf
  refine zr_iinc (j := 2) h d_M_brand_62 rfl rfl (by decide) ex2_2 (by decide) rfl ?_
  refine zr_goto (tgt := 23) h d_M_brand_65 rfl ?_
  refine zr_sub [2, 1, 0] rfl ?_
  exact hk23 x1_1 x2_2 G hf
set_option maxRecDepth 100000 in
set_option maxHeartbeats 4000000 in
theorem z_M_brand_56 {κ : zx_K} {ad : Nat → Nat} {r : Int32} {G1 : zx_G} (h : zx_C M_M_brand κ ad) (hE : zx_E M_M_brand κ ad r G1) {k23 : Int32 → Int32 → zx_G → Option (Int32 × zx_G)} (hk23 : ∀ (x1 x2 : Int32) (G : zx_G), k23 x1 x2 G = some (r, G1) → zx_Z κ ad 23 [(0, .ref (ad 32)), (1, .int x1), (2, .int x2)] [] G) (x2 : Int32) (G : zx_G) (hf : f_M_brand_56 k23 x2 G = some (r, G1)) : zx_Z κ ad 56 [(0, .ref (ad 32)), (2, .int x2)] [] G := by
  unfold f_M_brand_56 at hf
  refine zr_iconst (v := (1 : Int32)) h d_M_brand_56 rfl (by decide) ?_
  refine zr_goto (tgt := 61) h d_M_brand_57 rfl ?_
  exact z_M_brand_61 h hE hk23 x2 (1 : Int32) G hf
set_option maxRecDepth 100000 in
set_option maxHeartbeats 4000000 in
theorem z_M_brand_95 {κ : zx_K} {ad : Nat → Nat} {r : Int32} {G1 : zx_G} (h : zx_C M_M_brand κ ad) (hE : zx_E M_M_brand κ ad r G1) (G : zx_G) (hf : f_M_brand_95 G = some (r, G1)) : zx_Z κ ad 95 [] [] G := by
  unfold f_M_brand_95 at hf
  exact zr_vret h hE d_M_brand_95 rfl hf
set_option maxRecDepth 100000 in
set_option maxHeartbeats 4000000 in
theorem z_M_brand_90 {κ : zx_K} {ad : Nat → Nat} {r : Int32} {G1 : zx_G} (h : zx_C M_M_brand κ ad) (hE : zx_E M_M_brand κ ad r G1) (G : zx_G) (hf : f_M_brand_90 G = some (r, G1)) : zx_Z κ ad 90 [(0, .ref (ad 32))] [] G := by
  unfold f_M_brand_90 at hf
  refine zr_aload_n h d_M_brand_90 rfl rfl 0 rfl ?_
  refine zr_iconst (v := (2 : Int32)) h d_M_brand_91 rfl (by decide) ?_
  obtain ⟨r_2, G_1, hq_3, hf⟩ := zx_bd_some hf
  refine zr_callVV (As := [.int (2 : Int32)]) (b := 32) h (c_M_fail _ _ _ _ _ (2 : Int32) G r_2 G_1 hq_3) cc_M_119 d_M_brand_92 rfl rfl rfl sh_32 ⟨rfl, rfl, by decide, by decide⟩ (Nat.le_of_ble_eq_true rfl) ?_
  refine zr_sub [] rfl ?_
  exact z_M_brand_95 h hE G_1 hf
set_option maxRecDepth 100000 in
set_option maxHeartbeats 4000000 in
theorem z_M_brand_68 {κ : zx_K} {ad : Nat → Nat} {r : Int32} {G1 : zx_G} (h : zx_C M_M_brand κ ad) (hE : zx_E M_M_brand κ ad r G1) (x1 : Int32) (G : zx_G) (hf : f_M_brand_68 x1 G = some (r, G1)) : zx_Z κ ad 68 [(0, .ref (ad 32)), (1, .int x1)] [] G := by
  unfold f_M_brand_68 at hf
  refine zr_aload_n h d_M_brand_68 rfl rfl 0 rfl ?_
  refine zr_getI h d_M_brand_69 rfl fl_M_112 sh_32 rfl ?_
  rcases zx_if_some hf with ⟨hc_1, hf⟩ | ⟨hc_1, hf⟩
  · refine zr_if_eq_t (tgt := 90) h d_M_brand_72 rfl hc_1 ?_
    refine zr_sub [0] rfl ?_
    exact z_M_brand_90 h hE G hf
  · refine zr_if_eq_f h 90 d_M_brand_72 rfl rfl hc_1 ?_
    refine zr_aload_n h d_M_brand_75 rfl rfl 0 rfl ?_
    refine zr_getR h d_M_brand_76 rfl fl_M_19 sh_32 rfl ?_
    refine zr_iconst (v := (0 : Int32)) h d_M_brand_79 rfl (by decide) ?_
    obtain ⟨hb_2, hf⟩ := zx_gd_some hf
    refine zr_iald h d_M_brand_80 rfl sh_36 hb_2 ?_
    refine zr_bipush (v := (102 : Int32)) h d_M_brand_81 rfl (by decide) ?_
    rcases zx_if_some hf with ⟨hc_3, hf⟩ | ⟨hc_3, hf⟩
    · refine zr_icmp_ne_t (tgt := 90) h d_M_brand_83 rfl hc_3 ?_
      refine zr_sub [0] rfl ?_
      exact z_M_brand_90 h hE G hf
    · refine zr_icmp_ne_f h 90 d_M_brand_83 rfl rfl hc_3 ?_
      refine zr_iload_n h d_M_brand_86 rfl rfl 1 rfl ?_
      rcases zx_if_some hf with ⟨hc_4, hf⟩ | ⟨hc_4, hf⟩
      · refine zr_if_ne_t (tgt := 95) h d_M_brand_87 rfl hc_4 ?_
        refine zr_sub [] rfl ?_
        exact z_M_brand_95 h hE G hf
      · refine zr_if_ne_f h 95 d_M_brand_87 rfl rfl hc_4 ?_
        refine zr_sub [0] rfl ?_
        exact z_M_brand_90 h hE G hf
set_option maxRecDepth 100000 in
set_option maxHeartbeats 4000000 in
theorem z_M_brand_23 {κ : zx_K} {ad : Nat → Nat} {r : Int32} {G1 : zx_G} (h : zx_C M_M_brand κ ad) (hE : zx_E M_M_brand κ ad r G1) : ∀ (n : Nat) (x1 x2 : Int32) (G : zx_G), f_M_brand_23 n x1 x2 G = some (r, G1) → zx_Z κ ad 23 [(0, .ref (ad 32)), (1, .int x1), (2, .int x2)] [] G := by
  intro n
  induction n with
  | zero => intro x1 x2 G hf; cases hf
  | succ n ih =>
    intro x1 x2 G hf
    unfold f_M_brand_23 at hf
    refine zr_iload_n h d_M_brand_23 rfl rfl 2 rfl ?_
    refine zr_aload_n h d_M_brand_24 rfl rfl 0 rfl ?_
    refine zr_getI h d_M_brand_25 rfl fl_M_70 sh_32 rfl ?_
    rcases zx_if_some hf with ⟨hc_1, hf⟩ | ⟨hc_1, hf⟩
    · refine zr_icmp_ge_t (tgt := 68) h d_M_brand_28 rfl hc_1 ?_
      refine zr_sub [0, 1] rfl ?_
      exact z_M_brand_68 h hE x1 G hf
    · refine zr_icmp_ge_f h 68 d_M_brand_28 rfl rfl hc_1 ?_
      refine zr_iload_n h d_M_brand_31 rfl rfl 2 rfl ?_
      refine zr_aload_n h d_M_brand_32 rfl rfl 0 rfl ?_
      refine zr_getR h d_M_brand_33 rfl fl_M_16 sh_32 rfl ?_
      refine zr_iconst (v := (0 : Int32)) h d_M_brand_36 rfl (by decide) ?_
      obtain ⟨hb_2, hf⟩ := zx_gd_some hf
      refine zr_iald h d_M_brand_37 rfl sh_35 hb_2 ?_
      rcases zx_if_some hf with ⟨hc_3, hf⟩ | ⟨hc_3, hf⟩
      · refine zr_icmp_ge_t (tgt := 68) h d_M_brand_38 rfl hc_3 ?_
        refine zr_sub [0, 1] rfl ?_
        exact z_M_brand_68 h hE x1 G hf
      · refine zr_icmp_ge_f h 68 d_M_brand_38 rfl rfl hc_3 ?_
        refine zr_iload_n h d_M_brand_41 rfl rfl 1 rfl ?_
        rcases zx_if_some hf with ⟨hc_4, hf⟩ | ⟨hc_4, hf⟩
        · refine zr_if_ne_t (tgt := 56) h d_M_brand_42 rfl hc_4 ?_
          refine zr_sub [0, 2] rfl ?_
          exact z_M_brand_56 h hE ih x2 G hf
        · refine zr_if_ne_f h 56 d_M_brand_42 rfl rfl hc_4 ?_
          refine zr_aload_n h d_M_brand_45 rfl rfl 0 rfl ?_
          refine zr_getR h d_M_brand_46 rfl fl_M_7 sh_32 rfl ?_
          refine zr_iload_n h d_M_brand_49 rfl rfl 2 rfl ?_
          obtain ⟨hb_5, hf⟩ := zx_gd_some hf
          refine zr_iald h d_M_brand_50 rfl sh_33 hb_5 ?_
          refine zr_bipush (v := (118 : Int32)) h d_M_brand_51 rfl (by decide) ?_
          rcases zx_if_some hf with ⟨hc_6, hf⟩ | ⟨hc_6, hf⟩
          · refine zr_icmp_ne_t (tgt := 60) h d_M_brand_53 rfl hc_6 ?_
            refine zr_iconst (v := (0 : Int32)) h d_M_brand_60 rfl (by decide) ?_
            refine zr_sub [0, 2] rfl ?_
            exact z_M_brand_61 h hE ih x2 (0 : Int32) G hf
          · refine zr_icmp_ne_f h 60 d_M_brand_53 rfl rfl hc_6 ?_
            refine zr_sub [0, 2] rfl ?_
            exact z_M_brand_56 h hE ih x2 G hf
set_option maxRecDepth 100000 in
set_option maxHeartbeats 4000000 in
theorem z_M_brand_22 {κ : zx_K} {ad : Nat → Nat} {r : Int32} {G1 : zx_G} (h : zx_C M_M_brand κ ad) (hE : zx_E M_M_brand κ ad r G1) (x1 s0 : Int32) (G : zx_G) (hf : f_M_brand_22 x1 s0 G = some (r, G1)) : zx_Z κ ad 22 [(0, .ref (ad 32)), (1, .int x1)] [.int s0] G := by
  unfold f_M_brand_22 at hf
  obtain ⟨x2_1, ex2_1, hf⟩ := zx_lt_some hf
  refine zr_istore_n h d_M_brand_22 rfl rfl (by decide) ex2_1 rfl ?_
  refine zr_sub [1, 2, 0] rfl ?_
  exact z_M_brand_23 h hE 2048 x1 x2_1 G hf
set_option maxRecDepth 100000 in
set_option maxHeartbeats 4000000 in
theorem z_M_brand_0 {κ : zx_K} {ad : Nat → Nat} {r : Int32} {G1 : zx_G} (h : zx_C M_M_brand κ ad) (hE : zx_E M_M_brand κ ad r G1) (G : zx_G) (hf : f_M_brand G = some (r, G1)) : zx_Z κ ad 0 [(0, .ref (ad 32))] [] G := by
  unfold f_M_brand at hf
  refine zr_iconst (v := (0 : Int32)) h d_M_brand_0 rfl (by decide) ?_
  obtain ⟨x1_1, ex1_1, hf⟩ := zx_lt_some hf
  refine zr_istore_n h d_M_brand_1 rfl rfl (by decide) ex1_1 rfl ?_
  refine zr_aload_n h d_M_brand_2 rfl rfl 1 rfl ?_
  refine zr_getI h d_M_brand_3 rfl fl_M_112 sh_32 rfl ?_
  rcases zx_if_some hf with ⟨hc_2, hf⟩ | ⟨hc_2, hf⟩
  · refine zr_if_le_t (tgt := 18) h d_M_brand_6 rfl hc_2 ?_
    refine zr_aload_n h d_M_brand_18 rfl rfl 1 rfl ?_
    refine zr_getI h d_M_brand_19 rfl fl_M_70 sh_32 rfl ?_
    refine zr_sub [1, 0] rfl ?_
    exact z_M_brand_22 h hE x1_1 (G 32 0) G hf
  · refine zr_if_le_f h 18 d_M_brand_6 rfl rfl hc_2 ?_
    refine zr_aload_n h d_M_brand_9 rfl rfl 1 rfl ?_
    refine zr_getR h d_M_brand_10 rfl fl_M_13 sh_32 rfl ?_
    refine zr_iconst (v := (0 : Int32)) h d_M_brand_13 rfl (by decide) ?_
    obtain ⟨hb_3, hf⟩ := zx_gd_some hf
    refine zr_iald h d_M_brand_14 rfl sh_34 hb_3 ?_
    refine zr_goto (tgt := 22) h d_M_brand_15 rfl ?_
    refine zr_sub [1, 0] rfl ?_
    exact z_M_brand_22 h hE x1_1 (G 34 (Int32.toNatClampNeg (0 : Int32))) G hf
theorem c_M_brand (l : Launch) (D : va_G) (cA : ClassId) (ad : Nat → Nat) (A : Nat → Prop) (G : zx_G) (r : Int32) (G1 : zx_G) (hf : f_M_brand G = some (r, G1)) : zx_met l y_M_brand M_M_brand [.ref (ad 32)] D cA ad A G r G1 :=
  zx_toMet (by decide) rfl (Nat.le_of_ble_eq_true rfl) (fun κ h hE => by exact z_M_brand_0 h hE G hf)

def f_M_decode_150 (s1 : Int32) (G : zx_G) : Option (Int32 × zx_G) :=
  zx_gd (zx_01 s1) <|
  zx_lt (zx_up G 32 33 s1) fun G_2 =>
  some ((G_2 32 10), G_2)
def f_M_decode_137 (G : zx_G) : Option (Int32 × zx_G) :=
  zx_if (¬ (G 32 10) = 0)
    (f_M_decode_150 (0 : Int32) G)
    (f_M_decode_150 (1 : Int32) G)
def f_M_decode_126 (G : zx_G) : Option (Int32 × zx_G) :=
  zx_if (¬ (G 32 10) = 0)
    (f_M_decode_137 G)
    (zx_bd (f_M_filter G) fun r_3 G_2 =>
    f_M_decode_137 G_2)
def f_M_decode_115 (G : zx_G) : Option (Int32 × zx_G) :=
  zx_if (¬ (G 32 10) = 0)
    (f_M_decode_126 G)
    (zx_bd (f_M_readTile G) fun r_3 G_2 =>
    f_M_decode_126 G_2)
def f_M_decode_104 (G : zx_G) : Option (Int32 × zx_G) :=
  zx_if (¬ (G 32 10) = 0)
    (f_M_decode_115 G)
    (zx_bd (f_M_units G) fun r_3 G_2 =>
    f_M_decode_115 G_2)
def f_M_decode_68 (x1 x2 : Int32) (G : zx_G) : Option (Int32 × zx_G) :=
  zx_if (¬ (G 32 10) = 0)
    (f_M_decode_104 G)
    (zx_bd (f_M_child x2 (97 : Int32) G) fun r_3 G_2 =>
    zx_bd (f_M_child x1 (112 : Int32) G_2) fun r_6 G_5 =>
    zx_gd (zx_in r_6 16) <|
    zx_gd (zx_in (G_5 34 (Int32.toNatClampNeg r_6)) 240) <|
    zx_bd (f_M_properties x2 r_3 (G_5 33 (Int32.toNatClampNeg (G_5 34 (Int32.toNatClampNeg r_6)))) G_5) fun r_11 G_10 =>
    f_M_decode_104 G_10)
def f_M_decode_54 (x1 s0 : Int32) (G : zx_G) : Option (Int32 × zx_G) :=
  zx_lt s0 fun x2_1 =>
  zx_if (¬ (G 32 10) = 0)
    (f_M_decode_68 x1 x2_1 G)
    (zx_bd (f_M_extents x1 x2_1 G) fun r_4 G_3 =>
    f_M_decode_68 x1 x2_1 G_3)
def f_M_decode_38 (s0 : Int32) (G : zx_G) : Option (Int32 × zx_G) :=
  zx_lt s0 fun x1_1 =>
  zx_if (x1_1 < 0)
    (f_M_decode_54 x1_1 (-1 : Int32) G)
    (zx_bd (f_M_child x1_1 (114 : Int32) G) fun r_4 G_3 =>
    f_M_decode_54 x1_1 r_4 G_3)
def f_M_decode_20 (G : zx_G) : Option (Int32 × zx_G) :=
  zx_if (¬ (G 32 10) = 0)
    (f_M_decode_38 (-1 : Int32) G)
    (zx_bd (f_M_child (-1 : Int32) (109 : Int32) G) fun r_3 G_2 =>
    f_M_decode_38 r_3 G_2)
def f_M_decode (G : zx_G) : Option (Int32 × zx_G) :=
  zx_lt (zx_up G 32 10 (0 : Int32)) fun G_1 =>
  zx_bd (f_M_split G_1) fun r_3 G_2 =>
  zx_if (¬ (G_2 32 10) = 0)
    (f_M_decode_20 G_2)
    (zx_bd (f_M_brand G_2) fun r_7 G_6 =>
    f_M_decode_20 G_6)
set_option maxRecDepth 100000 in
set_option maxHeartbeats 4000000 in
theorem z_M_decode_150 {κ : zx_K} {ad : Nat → Nat} {r : Int32} {G1 : zx_G} (h : zx_C M_M_decode κ ad) (hE : zx_E M_M_decode κ ad r G1) (s1 : Int32) (G : zx_G) (hf : f_M_decode_150 s1 G = some (r, G1)) : zx_Z κ ad 150 [(0, .ref (ad 32))] [.int s1, .ref (ad 32)] G := by
  unfold f_M_decode_150 at hf
  obtain ⟨hb_1, hf⟩ := zx_gd_some hf
  obtain ⟨G_2, eG_2, hf⟩ := zx_lt_some hf
  refine zr_putI h d_M_decode_150 rfl fl_M_108 pl_M_33 sh_32 rfl (zx_01_n hb_1) (zx_01_f hb_1) eG_2 ?_
  refine zr_aload_n h d_M_decode_153 rfl rfl 0 rfl ?_
  refine zr_getI h d_M_decode_154 rfl fl_M_78 sh_32 rfl ?_
  exact zr_iret h hE d_M_decode_157 rfl hf
set_option maxRecDepth 100000 in
set_option maxHeartbeats 4000000 in
theorem z_M_decode_137 {κ : zx_K} {ad : Nat → Nat} {r : Int32} {G1 : zx_G} (h : zx_C M_M_decode κ ad) (hE : zx_E M_M_decode κ ad r G1) (G : zx_G) (hf : f_M_decode_137 G = some (r, G1)) : zx_Z κ ad 137 [(0, .ref (ad 32))] [] G := by
  unfold f_M_decode_137 at hf
  refine zr_aload_n h d_M_decode_137 rfl rfl 0 rfl ?_
  refine zr_aload_n h d_M_decode_138 rfl rfl 0 rfl ?_
  refine zr_getI h d_M_decode_139 rfl fl_M_78 sh_32 rfl ?_
  rcases zx_if_some hf with ⟨hc_1, hf⟩ | ⟨hc_1, hf⟩
  · refine zr_if_ne_t (tgt := 149) h d_M_decode_142 rfl hc_1 ?_
    refine zr_iconst (v := (0 : Int32)) h d_M_decode_149 rfl (by decide) ?_
    exact z_M_decode_150 h hE (0 : Int32) G hf
  · refine zr_if_ne_f h 149 d_M_decode_142 rfl rfl hc_1 ?_
    refine zr_iconst (v := (1 : Int32)) h d_M_decode_145 rfl (by decide) ?_
    refine zr_goto (tgt := 150) h d_M_decode_146 rfl ?_
    exact z_M_decode_150 h hE (1 : Int32) G hf
set_option maxRecDepth 100000 in
set_option maxHeartbeats 4000000 in
theorem z_M_decode_126 {κ : zx_K} {ad : Nat → Nat} {r : Int32} {G1 : zx_G} (h : zx_C M_M_decode κ ad) (hE : zx_E M_M_decode κ ad r G1) (G : zx_G) (hf : f_M_decode_126 G = some (r, G1)) : zx_Z κ ad 126 [(0, .ref (ad 32))] [] G := by
  unfold f_M_decode_126 at hf
  refine zr_aload_n h d_M_decode_126 rfl rfl 0 rfl ?_
  refine zr_getI h d_M_decode_127 rfl fl_M_78 sh_32 rfl ?_
  rcases zx_if_some hf with ⟨hc_1, hf⟩ | ⟨hc_1, hf⟩
  · refine zr_if_ne_t (tgt := 137) h d_M_decode_130 rfl hc_1 ?_
    exact z_M_decode_137 h hE G hf
  · refine zr_if_ne_f h 137 d_M_decode_130 rfl rfl hc_1 ?_
    refine zr_aload_n h d_M_decode_133 rfl rfl 0 rfl ?_
    obtain ⟨r_3, G_2, hq_4, hf⟩ := zx_bd_some hf
    refine zr_callVV (As := []) (b := 32) h (c_M_filter _ _ _ _ _ G r_3 G_2 hq_4) cc_M_105 d_M_decode_134 rfl rfl rfl sh_32 ⟨rfl, rfl, by decide, by decide⟩ (Nat.le_of_ble_eq_true rfl) ?_
    exact z_M_decode_137 h hE G_2 hf
set_option maxRecDepth 100000 in
set_option maxHeartbeats 4000000 in
theorem z_M_decode_115 {κ : zx_K} {ad : Nat → Nat} {r : Int32} {G1 : zx_G} (h : zx_C M_M_decode κ ad) (hE : zx_E M_M_decode κ ad r G1) (G : zx_G) (hf : f_M_decode_115 G = some (r, G1)) : zx_Z κ ad 115 [(0, .ref (ad 32))] [] G := by
  unfold f_M_decode_115 at hf
  refine zr_aload_n h d_M_decode_115 rfl rfl 0 rfl ?_
  refine zr_getI h d_M_decode_116 rfl fl_M_78 sh_32 rfl ?_
  rcases zx_if_some hf with ⟨hc_1, hf⟩ | ⟨hc_1, hf⟩
  · refine zr_if_ne_t (tgt := 126) h d_M_decode_119 rfl hc_1 ?_
    exact z_M_decode_126 h hE G hf
  · refine zr_if_ne_f h 126 d_M_decode_119 rfl rfl hc_1 ?_
    refine zr_aload_n h d_M_decode_122 rfl rfl 0 rfl ?_
    obtain ⟨r_3, G_2, hq_4, hf⟩ := zx_bd_some hf
    refine zr_callVV (As := []) (b := 32) h (c_M_readTile _ _ _ _ _ G r_3 G_2 hq_4) cc_M_102 d_M_decode_123 rfl rfl rfl sh_32 ⟨rfl, rfl, by decide, by decide⟩ (Nat.le_of_ble_eq_true rfl) ?_
    exact z_M_decode_126 h hE G_2 hf
set_option maxRecDepth 100000 in
set_option maxHeartbeats 4000000 in
theorem z_M_decode_104 {κ : zx_K} {ad : Nat → Nat} {r : Int32} {G1 : zx_G} (h : zx_C M_M_decode κ ad) (hE : zx_E M_M_decode κ ad r G1) (G : zx_G) (hf : f_M_decode_104 G = some (r, G1)) : zx_Z κ ad 104 [(0, .ref (ad 32))] [] G := by
  unfold f_M_decode_104 at hf
  refine zr_aload_n h d_M_decode_104 rfl rfl 0 rfl ?_
  refine zr_getI h d_M_decode_105 rfl fl_M_78 sh_32 rfl ?_
  rcases zx_if_some hf with ⟨hc_1, hf⟩ | ⟨hc_1, hf⟩
  · refine zr_if_ne_t (tgt := 115) h d_M_decode_108 rfl hc_1 ?_
    exact z_M_decode_115 h hE G hf
  · refine zr_if_ne_f h 115 d_M_decode_108 rfl rfl hc_1 ?_
    refine zr_aload_n h d_M_decode_111 rfl rfl 0 rfl ?_
    obtain ⟨r_3, G_2, hq_4, hf⟩ := zx_bd_some hf
    refine zr_callVV (As := []) (b := 32) h (c_M_units _ _ _ _ _ G r_3 G_2 hq_4) cc_M_99 d_M_decode_112 rfl rfl rfl sh_32 ⟨rfl, rfl, by decide, by decide⟩ (Nat.le_of_ble_eq_true rfl) ?_
    exact z_M_decode_115 h hE G_2 hf
set_option maxRecDepth 100000 in
set_option maxHeartbeats 4000000 in
theorem z_M_decode_68 {κ : zx_K} {ad : Nat → Nat} {r : Int32} {G1 : zx_G} (h : zx_C M_M_decode κ ad) (hE : zx_E M_M_decode κ ad r G1) (x1 x2 : Int32) (G : zx_G) (hf : f_M_decode_68 x1 x2 G = some (r, G1)) : zx_Z κ ad 68 [(0, .ref (ad 32)), (1, .int x1), (2, .int x2)] [] G := by
  unfold f_M_decode_68 at hf
  refine zr_aload_n h d_M_decode_68 rfl rfl 0 rfl ?_
  refine zr_getI h d_M_decode_69 rfl fl_M_78 sh_32 rfl ?_
  rcases zx_if_some hf with ⟨hc_1, hf⟩ | ⟨hc_1, hf⟩
  · refine zr_if_ne_t (tgt := 104) h d_M_decode_72 rfl hc_1 ?_
    refine zr_sub [0] rfl ?_
    exact z_M_decode_104 h hE G hf
  · refine zr_if_ne_f h 104 d_M_decode_72 rfl rfl hc_1 ?_
    refine zr_aload_n h d_M_decode_75 rfl rfl 0 rfl ?_
    refine zr_iload_n h d_M_decode_76 rfl rfl 2 rfl ?_
    refine zr_aload_n h d_M_decode_77 rfl rfl 0 rfl ?_
    refine zr_iload_n h d_M_decode_78 rfl rfl 2 rfl ?_
    refine zr_bipush (v := (97 : Int32)) h d_M_decode_79 rfl (by decide) ?_
    obtain ⟨r_3, G_2, hq_4, hf⟩ := zx_bd_some hf
    refine zr_callVI (As := [.int x2, .int (97 : Int32)]) (b := 32) h (c_M_child _ _ _ _ _ x2 (97 : Int32) G r_3 G_2 hq_4) cc_M_87 d_M_decode_81 rfl rfl rfl sh_32 ⟨rfl, rfl, by decide, by decide⟩ (Nat.le_of_ble_eq_true rfl) ?_
    refine zr_aload_n h d_M_decode_84 rfl rfl 0 rfl ?_
    refine zr_getR h d_M_decode_85 rfl fl_M_7 sh_32 rfl ?_
    refine zr_aload_n h d_M_decode_88 rfl rfl 0 rfl ?_
    refine zr_getR h d_M_decode_89 rfl fl_M_13 sh_32 rfl ?_
    refine zr_aload_n h d_M_decode_92 rfl rfl 0 rfl ?_
    refine zr_iload_n h d_M_decode_93 rfl rfl 1 rfl ?_
    refine zr_bipush (v := (112 : Int32)) h d_M_decode_94 rfl (by decide) ?_
    obtain ⟨r_6, G_5, hq_7, hf⟩ := zx_bd_some hf
    refine zr_callVI (As := [.int x1, .int (112 : Int32)]) (b := 32) h (c_M_child _ _ _ _ _ x1 (112 : Int32) G_2 r_6 G_5 hq_7) cc_M_87 d_M_decode_96 rfl rfl rfl sh_32 ⟨rfl, rfl, by decide, by decide⟩ (Nat.le_of_ble_eq_true rfl) ?_
    obtain ⟨hb_8, hf⟩ := zx_gd_some hf
    refine zr_iald h d_M_decode_99 rfl sh_34 hb_8 ?_
    obtain ⟨hb_9, hf⟩ := zx_gd_some hf
    refine zr_iald h d_M_decode_100 rfl sh_33 hb_9 ?_
    obtain ⟨r_11, G_10, hq_12, hf⟩ := zx_bd_some hf
    refine zr_callVV (As := [.int x2, .int r_3, .int (G_5 33 (Int32.toNatClampNeg (G_5 34 (Int32.toNatClampNeg r_6))))]) (b := 32) h (c_M_properties _ _ _ _ _ x2 r_3 (G_5 33 (Int32.toNatClampNeg (G_5 34 (Int32.toNatClampNeg r_6)))) G_5 r_11 G_10 hq_12) cc_M_95 d_M_decode_101 rfl rfl rfl sh_32 ⟨rfl, rfl, by decide, by decide⟩ (Nat.le_of_ble_eq_true rfl) ?_
    refine zr_sub [0] rfl ?_
    exact z_M_decode_104 h hE G_10 hf
set_option maxRecDepth 100000 in
set_option maxHeartbeats 4000000 in
theorem z_M_decode_54 {κ : zx_K} {ad : Nat → Nat} {r : Int32} {G1 : zx_G} (h : zx_C M_M_decode κ ad) (hE : zx_E M_M_decode κ ad r G1) (x1 s0 : Int32) (G : zx_G) (hf : f_M_decode_54 x1 s0 G = some (r, G1)) : zx_Z κ ad 54 [(0, .ref (ad 32)), (1, .int x1)] [.int s0] G := by
  unfold f_M_decode_54 at hf
  obtain ⟨x2_1, ex2_1, hf⟩ := zx_lt_some hf
  refine zr_istore_n h d_M_decode_54 rfl rfl (by decide) ex2_1 rfl ?_
  refine zr_aload_n h d_M_decode_55 rfl rfl 1 rfl ?_
  refine zr_getI h d_M_decode_56 rfl fl_M_78 sh_32 rfl ?_
  rcases zx_if_some hf with ⟨hc_2, hf⟩ | ⟨hc_2, hf⟩
  · refine zr_if_ne_t (tgt := 68) h d_M_decode_59 rfl hc_2 ?_
    refine zr_sub [1, 2, 0] rfl ?_
    exact z_M_decode_68 h hE x1 x2_1 G hf
  · refine zr_if_ne_f h 68 d_M_decode_59 rfl rfl hc_2 ?_
    refine zr_aload_n h d_M_decode_62 rfl rfl 1 rfl ?_
    refine zr_iload_n h d_M_decode_63 rfl rfl 2 rfl ?_
    refine zr_iload_n h d_M_decode_64 rfl rfl 0 rfl ?_
    obtain ⟨r_4, G_3, hq_5, hf⟩ := zx_bd_some hf
    refine zr_callVV (As := [.int x1, .int x2_1]) (b := 32) h (c_M_extents _ _ _ _ _ x1 x2_1 G r_4 G_3 hq_5) cc_M_91 d_M_decode_65 rfl rfl rfl sh_32 ⟨rfl, rfl, by decide, by decide⟩ (Nat.le_of_ble_eq_true rfl) ?_
    refine zr_sub [1, 2, 0] rfl ?_
    exact z_M_decode_68 h hE x1 x2_1 G_3 hf
set_option maxRecDepth 100000 in
set_option maxHeartbeats 4000000 in
theorem z_M_decode_38 {κ : zx_K} {ad : Nat → Nat} {r : Int32} {G1 : zx_G} (h : zx_C M_M_decode κ ad) (hE : zx_E M_M_decode κ ad r G1) (s0 : Int32) (G : zx_G) (hf : f_M_decode_38 s0 G = some (r, G1)) : zx_Z κ ad 38 [(0, .ref (ad 32))] [.int s0] G := by
  unfold f_M_decode_38 at hf
  obtain ⟨x1_1, ex1_1, hf⟩ := zx_lt_some hf
  refine zr_istore_n h d_M_decode_38 rfl rfl (by decide) ex1_1 rfl ?_
  refine zr_iload_n h d_M_decode_39 rfl rfl 0 rfl ?_
  rcases zx_if_some hf with ⟨hc_2, hf⟩ | ⟨hc_2, hf⟩
  · refine zr_if_lt_t (tgt := 53) h d_M_decode_40 rfl hc_2 ?_
    refine zr_iconst (v := (-1 : Int32)) h d_M_decode_53 rfl (by decide) ?_
    refine zr_sub [1, 0] rfl ?_
    exact z_M_decode_54 h hE x1_1 (-1 : Int32) G hf
  · refine zr_if_lt_f h 53 d_M_decode_40 rfl rfl hc_2 ?_
    refine zr_aload_n h d_M_decode_43 rfl rfl 1 rfl ?_
    refine zr_iload_n h d_M_decode_44 rfl rfl 0 rfl ?_
    refine zr_bipush (v := (114 : Int32)) h d_M_decode_45 rfl (by decide) ?_
    obtain ⟨r_4, G_3, hq_5, hf⟩ := zx_bd_some hf
    refine zr_callVI (As := [.int x1_1, .int (114 : Int32)]) (b := 32) h (c_M_child _ _ _ _ _ x1_1 (114 : Int32) G r_4 G_3 hq_5) cc_M_87 d_M_decode_47 rfl rfl rfl sh_32 ⟨rfl, rfl, by decide, by decide⟩ (Nat.le_of_ble_eq_true rfl) ?_
    refine zr_goto (tgt := 54) h d_M_decode_50 rfl ?_
    refine zr_sub [1, 0] rfl ?_
    exact z_M_decode_54 h hE x1_1 r_4 G_3 hf
set_option maxRecDepth 100000 in
set_option maxHeartbeats 4000000 in
theorem z_M_decode_20 {κ : zx_K} {ad : Nat → Nat} {r : Int32} {G1 : zx_G} (h : zx_C M_M_decode κ ad) (hE : zx_E M_M_decode κ ad r G1) (G : zx_G) (hf : f_M_decode_20 G = some (r, G1)) : zx_Z κ ad 20 [(0, .ref (ad 32))] [] G := by
  unfold f_M_decode_20 at hf
  refine zr_aload_n h d_M_decode_20 rfl rfl 0 rfl ?_
  refine zr_getI h d_M_decode_21 rfl fl_M_78 sh_32 rfl ?_
  rcases zx_if_some hf with ⟨hc_1, hf⟩ | ⟨hc_1, hf⟩
  · refine zr_if_ne_t (tgt := 37) h d_M_decode_24 rfl hc_1 ?_
    refine zr_iconst (v := (-1 : Int32)) h d_M_decode_37 rfl (by decide) ?_
    exact z_M_decode_38 h hE (-1 : Int32) G hf
  · refine zr_if_ne_f h 37 d_M_decode_24 rfl rfl hc_1 ?_
    refine zr_aload_n h d_M_decode_27 rfl rfl 0 rfl ?_
    refine zr_iconst (v := (-1 : Int32)) h d_M_decode_28 rfl (by decide) ?_
    refine zr_bipush (v := (109 : Int32)) h d_M_decode_29 rfl (by decide) ?_
    obtain ⟨r_3, G_2, hq_4, hf⟩ := zx_bd_some hf
    refine zr_callVI (As := [.int (-1 : Int32), .int (109 : Int32)]) (b := 32) h (c_M_child _ _ _ _ _ (-1 : Int32) (109 : Int32) G r_3 G_2 hq_4) cc_M_87 d_M_decode_31 rfl rfl rfl sh_32 ⟨rfl, rfl, by decide, by decide⟩ (Nat.le_of_ble_eq_true rfl) ?_
    refine zr_goto (tgt := 38) h d_M_decode_34 rfl ?_
    exact z_M_decode_38 h hE r_3 G_2 hf
set_option maxRecDepth 100000 in
set_option maxHeartbeats 4000000 in
theorem z_M_decode_0 {κ : zx_K} {ad : Nat → Nat} {r : Int32} {G1 : zx_G} (h : zx_C M_M_decode κ ad) (hE : zx_E M_M_decode κ ad r G1) (G : zx_G) (hf : f_M_decode G = some (r, G1)) : zx_Z κ ad 0 [(0, .ref (ad 32))] [] G := by
  unfold f_M_decode at hf
  refine zr_aload_n h d_M_decode_0 rfl rfl 0 rfl ?_
  refine zr_iconst (v := (0 : Int32)) h d_M_decode_1 rfl (by decide) ?_
  obtain ⟨G_1, eG_1, hf⟩ := zx_lt_some hf
  refine zr_putI h d_M_decode_2 rfl fl_M_78 pl_M_10 sh_32 rfl rfl rfl eG_1 ?_
  refine zr_aload_n h d_M_decode_5 rfl rfl 0 rfl ?_
  obtain ⟨r_3, G_2, hq_4, hf⟩ := zx_bd_some hf
  refine zr_callVV (As := []) (b := 32) h (c_M_split _ _ _ _ _ G_1 r_3 G_2 hq_4) cc_M_81 d_M_decode_6 rfl rfl rfl sh_32 ⟨rfl, rfl, by decide, by decide⟩ (Nat.le_of_ble_eq_true rfl) ?_
  refine zr_aload_n h d_M_decode_9 rfl rfl 0 rfl ?_
  refine zr_getI h d_M_decode_10 rfl fl_M_78 sh_32 rfl ?_
  rcases zx_if_some hf with ⟨hc_5, hf⟩ | ⟨hc_5, hf⟩
  · refine zr_if_ne_t (tgt := 20) h d_M_decode_13 rfl hc_5 ?_
    exact z_M_decode_20 h hE G_2 hf
  · refine zr_if_ne_f h 20 d_M_decode_13 rfl rfl hc_5 ?_
    refine zr_aload_n h d_M_decode_16 rfl rfl 0 rfl ?_
    obtain ⟨r_7, G_6, hq_8, hf⟩ := zx_bd_some hf
    refine zr_callVV (As := []) (b := 32) h (c_M_brand _ _ _ _ _ G_2 r_7 G_6 hq_8) cc_M_84 d_M_decode_17 rfl rfl rfl sh_32 ⟨rfl, rfl, by decide, by decide⟩ (Nat.le_of_ble_eq_true rfl) ?_
    exact z_M_decode_20 h hE G_6 hf
theorem c_M_decode (l : Launch) (D : va_G) (cA : ClassId) (ad : Nat → Nat) (A : Nat → Prop) (G : zx_G) (r : Int32) (G1 : zx_G) (hf : f_M_decode G = some (r, G1)) : zx_met l y_M_decode M_M_decode [.ref (ad 32)] D cA ad A G r G1 :=
  zx_toMet (by decide) rfl (Nat.le_of_ble_eq_true rfl) (fun κ h hE => by exact z_M_decode_0 h hE G hf)

def f_M_planes_19 (s0 : Int32) (G : zx_G) : Option (Int32 × zx_G) :=
  some (s0, G)
def f_M_planes (G : zx_G) : Option (Int32 × zx_G) :=
  zx_if ((G 32 33) = 0)
    (f_M_planes_19 (0 : Int32) G)
    (f_M_planes_19 ((1 : Int32) + ((2 : Int32) * (G 32 16))) G)
set_option maxRecDepth 100000 in
set_option maxHeartbeats 4000000 in
theorem z_M_planes_19 {κ : zx_K} {ad : Nat → Nat} {r : Int32} {G1 : zx_G} (h : zx_C M_M_planes κ ad) (hE : zx_E M_M_planes κ ad r G1) (s0 : Int32) (G : zx_G) (hf : f_M_planes_19 s0 G = some (r, G1)) : zx_Z κ ad 19 [] [.int s0] G := by
  unfold f_M_planes_19 at hf
  exact zr_iret h hE d_M_planes_19 rfl hf
set_option maxRecDepth 100000 in
set_option maxHeartbeats 4000000 in
theorem z_M_planes_0 {κ : zx_K} {ad : Nat → Nat} {r : Int32} {G1 : zx_G} (h : zx_C M_M_planes κ ad) (hE : zx_E M_M_planes κ ad r G1) (G : zx_G) (hf : f_M_planes G = some (r, G1)) : zx_Z κ ad 0 [(0, .ref (ad 32))] [] G := by
  unfold f_M_planes at hf
  refine zr_aload_n h d_M_planes_0 rfl rfl 0 rfl ?_
  refine zr_getI h d_M_planes_1 rfl fl_M_108 sh_32 rfl ?_
  rcases zx_if_some hf with ⟨hc_1, hf⟩ | ⟨hc_1, hf⟩
  · refine zr_if_eq_t (tgt := 18) h d_M_planes_4 rfl hc_1 ?_
    refine zr_iconst (v := (0 : Int32)) h d_M_planes_18 rfl (by decide) ?_
    refine zr_sub [] rfl ?_
    exact z_M_planes_19 h hE (0 : Int32) G hf
  · refine zr_if_eq_f h 18 d_M_planes_4 rfl rfl hc_1 ?_
    refine zr_iconst (v := (1 : Int32)) h d_M_planes_7 rfl (by decide) ?_
    refine zr_iconst (v := (2 : Int32)) h d_M_planes_8 rfl (by decide) ?_
    refine zr_aload_n h d_M_planes_9 rfl rfl 0 rfl ?_
    refine zr_getI h d_M_planes_10 rfl fl_M_165 sh_32 rfl ?_
    refine zr_imul h d_M_planes_13 rfl ?_
    refine zr_iadd h d_M_planes_14 rfl ?_
    refine zr_goto (tgt := 19) h d_M_planes_15 rfl ?_
    refine zr_sub [] rfl ?_
    exact z_M_planes_19 h hE ((1 : Int32) + ((2 : Int32) * (G 32 16))) G hf
theorem c_M_planes (l : Launch) (D : va_G) (cA : ClassId) (ad : Nat → Nat) (A : Nat → Prop) (G : zx_G) (r : Int32) (G1 : zx_G) (hf : f_M_planes G = some (r, G1)) : zx_met l y_M_planes M_M_planes [.ref (ad 32)] D cA ad A G r G1 :=
  zx_toMet (by decide) rfl (Nat.le_of_ble_eq_true rfl) (fun κ h hE => by exact z_M_planes_0 h hE G hf)

def f_M_width_15 (s0 : Int32) (G : zx_G) : Option (Int32 × zx_G) :=
  some (s0, G)
def f_M_width (G : zx_G) : Option (Int32 × zx_G) :=
  zx_if ((G 32 33) = 0)
    (f_M_width_15 (0 : Int32) G)
    (f_M_width_15 (G 32 18) G)
set_option maxRecDepth 100000 in
set_option maxHeartbeats 4000000 in
theorem z_M_width_15 {κ : zx_K} {ad : Nat → Nat} {r : Int32} {G1 : zx_G} (h : zx_C M_M_width κ ad) (hE : zx_E M_M_width κ ad r G1) (s0 : Int32) (G : zx_G) (hf : f_M_width_15 s0 G = some (r, G1)) : zx_Z κ ad 15 [] [.int s0] G := by
  unfold f_M_width_15 at hf
  exact zr_iret h hE d_M_width_15 rfl hf
set_option maxRecDepth 100000 in
set_option maxHeartbeats 4000000 in
theorem z_M_width_0 {κ : zx_K} {ad : Nat → Nat} {r : Int32} {G1 : zx_G} (h : zx_C M_M_width κ ad) (hE : zx_E M_M_width κ ad r G1) (G : zx_G) (hf : f_M_width G = some (r, G1)) : zx_Z κ ad 0 [(0, .ref (ad 32))] [] G := by
  unfold f_M_width at hf
  refine zr_aload_n h d_M_width_0 rfl rfl 0 rfl ?_
  refine zr_getI h d_M_width_1 rfl fl_M_108 sh_32 rfl ?_
  rcases zx_if_some hf with ⟨hc_1, hf⟩ | ⟨hc_1, hf⟩
  · refine zr_if_eq_t (tgt := 14) h d_M_width_4 rfl hc_1 ?_
    refine zr_iconst (v := (0 : Int32)) h d_M_width_14 rfl (by decide) ?_
    refine zr_sub [] rfl ?_
    exact z_M_width_15 h hE (0 : Int32) G hf
  · refine zr_if_eq_f h 14 d_M_width_4 rfl rfl hc_1 ?_
    refine zr_aload_n h d_M_width_7 rfl rfl 0 rfl ?_
    refine zr_getI h d_M_width_8 rfl fl_M_171 sh_32 rfl ?_
    refine zr_goto (tgt := 15) h d_M_width_11 rfl ?_
    refine zr_sub [] rfl ?_
    exact z_M_width_15 h hE (G 32 18) G hf
theorem c_M_width (l : Launch) (D : va_G) (cA : ClassId) (ad : Nat → Nat) (A : Nat → Prop) (G : zx_G) (r : Int32) (G1 : zx_G) (hf : f_M_width G = some (r, G1)) : zx_met l y_M_width M_M_width [.ref (ad 32)] D cA ad A G r G1 :=
  zx_toMet (by decide) rfl (Nat.le_of_ble_eq_true rfl) (fun κ h hE => by exact z_M_width_0 h hE G hf)

def f_M_height_15 (s0 : Int32) (G : zx_G) : Option (Int32 × zx_G) :=
  some (s0, G)
def f_M_height (G : zx_G) : Option (Int32 × zx_G) :=
  zx_if ((G 32 33) = 0)
    (f_M_height_15 (0 : Int32) G)
    (f_M_height_15 (G 32 19) G)
set_option maxRecDepth 100000 in
set_option maxHeartbeats 4000000 in
theorem z_M_height_15 {κ : zx_K} {ad : Nat → Nat} {r : Int32} {G1 : zx_G} (h : zx_C M_M_height κ ad) (hE : zx_E M_M_height κ ad r G1) (s0 : Int32) (G : zx_G) (hf : f_M_height_15 s0 G = some (r, G1)) : zx_Z κ ad 15 [] [.int s0] G := by
  unfold f_M_height_15 at hf
  exact zr_iret h hE d_M_height_15 rfl hf
set_option maxRecDepth 100000 in
set_option maxHeartbeats 4000000 in
theorem z_M_height_0 {κ : zx_K} {ad : Nat → Nat} {r : Int32} {G1 : zx_G} (h : zx_C M_M_height κ ad) (hE : zx_E M_M_height κ ad r G1) (G : zx_G) (hf : f_M_height G = some (r, G1)) : zx_Z κ ad 0 [(0, .ref (ad 32))] [] G := by
  unfold f_M_height at hf
  refine zr_aload_n h d_M_height_0 rfl rfl 0 rfl ?_
  refine zr_getI h d_M_height_1 rfl fl_M_108 sh_32 rfl ?_
  rcases zx_if_some hf with ⟨hc_1, hf⟩ | ⟨hc_1, hf⟩
  · refine zr_if_eq_t (tgt := 14) h d_M_height_4 rfl hc_1 ?_
    refine zr_iconst (v := (0 : Int32)) h d_M_height_14 rfl (by decide) ?_
    refine zr_sub [] rfl ?_
    exact z_M_height_15 h hE (0 : Int32) G hf
  · refine zr_if_eq_f h 14 d_M_height_4 rfl rfl hc_1 ?_
    refine zr_aload_n h d_M_height_7 rfl rfl 0 rfl ?_
    refine zr_getI h d_M_height_8 rfl fl_M_174 sh_32 rfl ?_
    refine zr_goto (tgt := 15) h d_M_height_11 rfl ?_
    refine zr_sub [] rfl ?_
    exact z_M_height_15 h hE (G 32 19) G hf
theorem c_M_height (l : Launch) (D : va_G) (cA : ClassId) (ad : Nat → Nat) (A : Nat → Prop) (G : zx_G) (r : Int32) (G1 : zx_G) (hf : f_M_height G = some (r, G1)) : zx_met l y_M_height M_M_height [.ref (ad 32)] D cA ad A G r G1 :=
  zx_toMet (by decide) rfl (Nat.le_of_ble_eq_true rfl) (fun κ h hE => by exact z_M_height_0 h hE G hf)

def f_M_depth_20 (s0 : Int32) (G : zx_G) : Option (Int32 × zx_G) :=
  some (s0, G)
def f_M_depth (G : zx_G) : Option (Int32 × zx_G) :=
  zx_if ((G 32 33) = 0)
    (f_M_depth_20 (0 : Int32) G)
    (f_M_depth_20 ((8 : Int32) + ((2 : Int32) * (G 32 17))) G)
set_option maxRecDepth 100000 in
set_option maxHeartbeats 4000000 in
theorem z_M_depth_20 {κ : zx_K} {ad : Nat → Nat} {r : Int32} {G1 : zx_G} (h : zx_C M_M_depth κ ad) (hE : zx_E M_M_depth κ ad r G1) (s0 : Int32) (G : zx_G) (hf : f_M_depth_20 s0 G = some (r, G1)) : zx_Z κ ad 20 [] [.int s0] G := by
  unfold f_M_depth_20 at hf
  exact zr_iret h hE d_M_depth_20 rfl hf
set_option maxRecDepth 100000 in
set_option maxHeartbeats 4000000 in
theorem z_M_depth_0 {κ : zx_K} {ad : Nat → Nat} {r : Int32} {G1 : zx_G} (h : zx_C M_M_depth κ ad) (hE : zx_E M_M_depth κ ad r G1) (G : zx_G) (hf : f_M_depth G = some (r, G1)) : zx_Z κ ad 0 [(0, .ref (ad 32))] [] G := by
  unfold f_M_depth at hf
  refine zr_aload_n h d_M_depth_0 rfl rfl 0 rfl ?_
  refine zr_getI h d_M_depth_1 rfl fl_M_108 sh_32 rfl ?_
  rcases zx_if_some hf with ⟨hc_1, hf⟩ | ⟨hc_1, hf⟩
  · refine zr_if_eq_t (tgt := 19) h d_M_depth_4 rfl hc_1 ?_
    refine zr_iconst (v := (0 : Int32)) h d_M_depth_19 rfl (by decide) ?_
    refine zr_sub [] rfl ?_
    exact z_M_depth_20 h hE (0 : Int32) G hf
  · refine zr_if_eq_f h 19 d_M_depth_4 rfl rfl hc_1 ?_
    refine zr_bipush (v := (8 : Int32)) h d_M_depth_7 rfl (by decide) ?_
    refine zr_iconst (v := (2 : Int32)) h d_M_depth_9 rfl (by decide) ?_
    refine zr_aload_n h d_M_depth_10 rfl rfl 0 rfl ?_
    refine zr_getI h d_M_depth_11 rfl fl_M_168 sh_32 rfl ?_
    refine zr_imul h d_M_depth_14 rfl ?_
    refine zr_iadd h d_M_depth_15 rfl ?_
    refine zr_goto (tgt := 20) h d_M_depth_16 rfl ?_
    refine zr_sub [] rfl ?_
    exact z_M_depth_20 h hE ((8 : Int32) + ((2 : Int32) * (G 32 17))) G hf
theorem c_M_depth (l : Launch) (D : va_G) (cA : ClassId) (ad : Nat → Nat) (A : Nat → Prop) (G : zx_G) (r : Int32) (G1 : zx_G) (hf : f_M_depth G = some (r, G1)) : zx_met l y_M_depth M_M_depth [.ref (ad 32)] D cA ad A G r G1 :=
  zx_toMet (by decide) rfl (Nat.le_of_ble_eq_true rfl) (fun κ h hE => by exact z_M_depth_0 h hE G hf)

def f_M_there_36 (s0 : Int32) (G : zx_G) : Option (Int32 × zx_G) :=
  zx_gd (zx_01 s0) <| some (s0, G)
def f_M_there_35 (G : zx_G) : Option (Int32 × zx_G) :=
  f_M_there_36 (0 : Int32) G
def f_M_there (x1 x2 : Int32) (G : zx_G) : Option (Int32 × zx_G) :=
  zx_if ((G 32 33) = 0)
    (f_M_there_35 G)
    (zx_if (x1 < 0)
      (f_M_there_35 G)
      (zx_if ((G 32 18) ≤ x1)
        (f_M_there_35 G)
        (zx_if (x2 < 0)
          (f_M_there_35 G)
          (zx_if ((G 32 19) ≤ x2)
            (f_M_there_35 G)
            (f_M_there_36 (1 : Int32) G)))))
set_option maxRecDepth 100000 in
set_option maxHeartbeats 4000000 in
theorem z_M_there_36 {κ : zx_K} {ad : Nat → Nat} {r : Int32} {G1 : zx_G} (h : zx_C M_M_there κ ad) (hE : zx_E M_M_there κ ad r G1) (s0 : Int32) (G : zx_G) (hf : f_M_there_36 s0 G = some (r, G1)) : zx_Z κ ad 36 [] [.int s0] G := by
  unfold f_M_there_36 at hf
  obtain ⟨hb_1, hf⟩ := zx_gd_some hf
  exact zr_zret h hE d_M_there_36 rfl hb_1 hf
set_option maxRecDepth 100000 in
set_option maxHeartbeats 4000000 in
theorem z_M_there_35 {κ : zx_K} {ad : Nat → Nat} {r : Int32} {G1 : zx_G} (h : zx_C M_M_there κ ad) (hE : zx_E M_M_there κ ad r G1) (G : zx_G) (hf : f_M_there_35 G = some (r, G1)) : zx_Z κ ad 35 [] [] G := by
  unfold f_M_there_35 at hf
  refine zr_iconst (v := (0 : Int32)) h d_M_there_35 rfl (by decide) ?_
  exact z_M_there_36 h hE (0 : Int32) G hf
set_option maxRecDepth 100000 in
set_option maxHeartbeats 4000000 in
theorem z_M_there_0 {κ : zx_K} {ad : Nat → Nat} {r : Int32} {G1 : zx_G} (h : zx_C M_M_there κ ad) (hE : zx_E M_M_there κ ad r G1) (x1 x2 : Int32) (G : zx_G) (hf : f_M_there x1 x2 G = some (r, G1)) : zx_Z κ ad 0 [(0, .ref (ad 32)), (1, .int x1), (2, .int x2)] [] G := by
  unfold f_M_there at hf
  refine zr_aload_n h d_M_there_0 rfl rfl 0 rfl ?_
  refine zr_getI h d_M_there_1 rfl fl_M_108 sh_32 rfl ?_
  rcases zx_if_some hf with ⟨hc_1, hf⟩ | ⟨hc_1, hf⟩
  · refine zr_if_eq_t (tgt := 35) h d_M_there_4 rfl hc_1 ?_
    refine zr_sub [] rfl ?_
    exact z_M_there_35 h hE G hf
  · refine zr_if_eq_f h 35 d_M_there_4 rfl rfl hc_1 ?_
    refine zr_iload_n h d_M_there_7 rfl rfl 1 rfl ?_
    rcases zx_if_some hf with ⟨hc_2, hf⟩ | ⟨hc_2, hf⟩
    · refine zr_if_lt_t (tgt := 35) h d_M_there_8 rfl hc_2 ?_
      refine zr_sub [] rfl ?_
      exact z_M_there_35 h hE G hf
    · refine zr_if_lt_f h 35 d_M_there_8 rfl rfl hc_2 ?_
      refine zr_iload_n h d_M_there_11 rfl rfl 1 rfl ?_
      refine zr_aload_n h d_M_there_12 rfl rfl 0 rfl ?_
      refine zr_getI h d_M_there_13 rfl fl_M_171 sh_32 rfl ?_
      rcases zx_if_some hf with ⟨hc_3, hf⟩ | ⟨hc_3, hf⟩
      · refine zr_icmp_ge_t (tgt := 35) h d_M_there_16 rfl hc_3 ?_
        refine zr_sub [] rfl ?_
        exact z_M_there_35 h hE G hf
      · refine zr_icmp_ge_f h 35 d_M_there_16 rfl rfl hc_3 ?_
        refine zr_iload_n h d_M_there_19 rfl rfl 2 rfl ?_
        rcases zx_if_some hf with ⟨hc_4, hf⟩ | ⟨hc_4, hf⟩
        · refine zr_if_lt_t (tgt := 35) h d_M_there_20 rfl hc_4 ?_
          refine zr_sub [] rfl ?_
          exact z_M_there_35 h hE G hf
        · refine zr_if_lt_f h 35 d_M_there_20 rfl rfl hc_4 ?_
          refine zr_iload_n h d_M_there_23 rfl rfl 2 rfl ?_
          refine zr_aload_n h d_M_there_24 rfl rfl 0 rfl ?_
          refine zr_getI h d_M_there_25 rfl fl_M_174 sh_32 rfl ?_
          rcases zx_if_some hf with ⟨hc_5, hf⟩ | ⟨hc_5, hf⟩
          · refine zr_icmp_ge_t (tgt := 35) h d_M_there_28 rfl hc_5 ?_
            refine zr_sub [] rfl ?_
            exact z_M_there_35 h hE G hf
          · refine zr_icmp_ge_f h 35 d_M_there_28 rfl rfl hc_5 ?_
            refine zr_iconst (v := (1 : Int32)) h d_M_there_31 rfl (by decide) ?_
            refine zr_goto (tgt := 36) h d_M_there_32 rfl ?_
            refine zr_sub [] rfl ?_
            exact z_M_there_36 h hE (1 : Int32) G hf
theorem c_M_there (l : Launch) (D : va_G) (cA : ClassId) (ad : Nat → Nat) (A : Nat → Prop) (x1 x2 : Int32) (G : zx_G) (r : Int32) (G1 : zx_G) (hf : f_M_there x1 x2 G = some (r, G1)) : zx_met l y_M_there M_M_there [.ref (ad 32), .int x1, .int x2] D cA ad A G r G1 :=
  zx_toMet (by decide) rfl (Nat.le_of_ble_eq_true rfl) (fun κ h hE => by exact z_M_there_0 h hE x1 x2 G hf)

def f_M_sample_46 (s0 : Int32) (G : zx_G) : Option (Int32 × zx_G) :=
  some (s0, G)
def f_M_sample_45 (G : zx_G) : Option (Int32 × zx_G) :=
  f_M_sample_46 (-1 : Int32) G
def f_M_sample (x1 x2 x3 : Int32) (G : zx_G) : Option (Int32 × zx_G) :=
  zx_bd (f_M_there x2 x3 G) fun r_2 G_1 =>
  zx_if (r_2 = 0)
    (f_M_sample_45 G_1)
    (zx_if (x1 < 0)
      (f_M_sample_45 G_1)
      (zx_if (((1 : Int32) + ((2 : Int32) * (G_1 32 16))) ≤ x1)
        (f_M_sample_45 G_1)
        (zx_gd (zx_in ((((256 : Int32) * x1) + ((16 : Int32) * x3)) + x2) 768) <|
        f_M_sample_46 (G_1 42 (Int32.toNatClampNeg ((((256 : Int32) * x1) + ((16 : Int32) * x3)) + x2))) G_1)))
set_option maxRecDepth 100000 in
set_option maxHeartbeats 4000000 in
theorem z_M_sample_46 {κ : zx_K} {ad : Nat → Nat} {r : Int32} {G1 : zx_G} (h : zx_C M_M_sample κ ad) (hE : zx_E M_M_sample κ ad r G1) (s0 : Int32) (G : zx_G) (hf : f_M_sample_46 s0 G = some (r, G1)) : zx_Z κ ad 46 [] [.int s0] G := by
  unfold f_M_sample_46 at hf
  exact zr_iret h hE d_M_sample_46 rfl hf
set_option maxRecDepth 100000 in
set_option maxHeartbeats 4000000 in
theorem z_M_sample_45 {κ : zx_K} {ad : Nat → Nat} {r : Int32} {G1 : zx_G} (h : zx_C M_M_sample κ ad) (hE : zx_E M_M_sample κ ad r G1) (G : zx_G) (hf : f_M_sample_45 G = some (r, G1)) : zx_Z κ ad 45 [] [] G := by
  unfold f_M_sample_45 at hf
  refine zr_iconst (v := (-1 : Int32)) h d_M_sample_45 rfl (by decide) ?_
  exact z_M_sample_46 h hE (-1 : Int32) G hf
set_option maxRecDepth 100000 in
set_option maxHeartbeats 4000000 in
theorem z_M_sample_0 {κ : zx_K} {ad : Nat → Nat} {r : Int32} {G1 : zx_G} (h : zx_C M_M_sample κ ad) (hE : zx_E M_M_sample κ ad r G1) (x1 x2 x3 : Int32) (G : zx_G) (hf : f_M_sample x1 x2 x3 G = some (r, G1)) : zx_Z κ ad 0 [(0, .ref (ad 32)), (1, .int x1), (2, .int x2), (3, .int x3)] [] G := by
  unfold f_M_sample at hf
  refine zr_aload_n h d_M_sample_0 rfl rfl 0 rfl ?_
  refine zr_iload_n h d_M_sample_1 rfl rfl 2 rfl ?_
  refine zr_iload_n h d_M_sample_2 rfl rfl 3 rfl ?_
  obtain ⟨r_2, G_1, hq_3, hf⟩ := zx_bd_some hf
  refine zr_callVI (As := [.int x2, .int x3]) (b := 32) h (c_M_there _ _ _ _ _ x2 x3 G r_2 G_1 hq_3) cc_M_277 d_M_sample_3 rfl rfl rfl sh_32 ⟨rfl, rfl, by decide, by decide⟩ (Nat.le_of_ble_eq_true rfl) ?_
  rcases zx_if_some hf with ⟨hc_4, hf⟩ | ⟨hc_4, hf⟩
  · refine zr_if_eq_t (tgt := 45) h d_M_sample_6 rfl hc_4 ?_
    refine zr_sub [] rfl ?_
    exact z_M_sample_45 h hE G_1 hf
  · refine zr_if_eq_f h 45 d_M_sample_6 rfl rfl hc_4 ?_
    refine zr_iload_n h d_M_sample_9 rfl rfl 1 rfl ?_
    rcases zx_if_some hf with ⟨hc_5, hf⟩ | ⟨hc_5, hf⟩
    · refine zr_if_lt_t (tgt := 45) h d_M_sample_10 rfl hc_5 ?_
      refine zr_sub [] rfl ?_
      exact z_M_sample_45 h hE G_1 hf
    · refine zr_if_lt_f h 45 d_M_sample_10 rfl rfl hc_5 ?_
      refine zr_iload_n h d_M_sample_13 rfl rfl 1 rfl ?_
      refine zr_iconst (v := (1 : Int32)) h d_M_sample_14 rfl (by decide) ?_
      refine zr_iconst (v := (2 : Int32)) h d_M_sample_15 rfl (by decide) ?_
      refine zr_aload_n h d_M_sample_16 rfl rfl 0 rfl ?_
      refine zr_getI h d_M_sample_17 rfl fl_M_165 sh_32 rfl ?_
      refine zr_imul h d_M_sample_20 rfl ?_
      refine zr_iadd h d_M_sample_21 rfl ?_
      rcases zx_if_some hf with ⟨hc_6, hf⟩ | ⟨hc_6, hf⟩
      · refine zr_icmp_ge_t (tgt := 45) h d_M_sample_22 rfl hc_6 ?_
        refine zr_sub [] rfl ?_
        exact z_M_sample_45 h hE G_1 hf
      · refine zr_icmp_ge_f h 45 d_M_sample_22 rfl rfl hc_6 ?_
        refine zr_aload_n h d_M_sample_25 rfl rfl 0 rfl ?_
        refine zr_getR h d_M_sample_26 rfl fl_M_37 sh_32 rfl ?_
        refine zr_sipush (v := (256 : Int32)) h d_M_sample_29 rfl (by decide) ?_
        refine zr_iload_n h d_M_sample_32 rfl rfl 1 rfl ?_
        refine zr_imul h d_M_sample_33 rfl ?_
        refine zr_bipush (v := (16 : Int32)) h d_M_sample_34 rfl (by decide) ?_
        refine zr_iload_n h d_M_sample_36 rfl rfl 3 rfl ?_
        refine zr_imul h d_M_sample_37 rfl ?_
        refine zr_iadd h d_M_sample_38 rfl ?_
        refine zr_iload_n h d_M_sample_39 rfl rfl 2 rfl ?_
        refine zr_iadd h d_M_sample_40 rfl ?_
        obtain ⟨hb_7, hf⟩ := zx_gd_some hf
        refine zr_iald h d_M_sample_41 rfl sh_42 hb_7 ?_
        refine zr_goto (tgt := 46) h d_M_sample_42 rfl ?_
        refine zr_sub [] rfl ?_
        exact z_M_sample_46 h hE (G_1 42 (Int32.toNatClampNeg ((((256 : Int32) * x1) + ((16 : Int32) * x3)) + x2))) G_1 hf
theorem c_M_sample (l : Launch) (D : va_G) (cA : ClassId) (ad : Nat → Nat) (A : Nat → Prop) (x1 x2 x3 : Int32) (G : zx_G) (r : Int32) (G1 : zx_G) (hf : f_M_sample x1 x2 x3 G = some (r, G1)) : zx_met l y_M_sample M_M_sample [.ref (ad 32), .int x1, .int x2, .int x3] D cA ad A G r G1 :=
  zx_toMet (by decide) rfl (Nat.le_of_ble_eq_true rfl) (fun κ h hE => by exact z_M_sample_0 h hE x1 x2 x3 G hf)

def f_M_block_45 (s0 : Int32) (G : zx_G) : Option (Int32 × zx_G) :=
  some (s0, G)
def f_M_block_44 (G : zx_G) : Option (Int32 × zx_G) :=
  f_M_block_45 (-1 : Int32) G
def f_M_block (x1 x2 x3 : Int32) (G : zx_G) : Option (Int32 × zx_G) :=
  zx_bd (f_M_there x1 x2 G) fun r_2 G_1 =>
  zx_if (r_2 = 0)
    (f_M_block_44 G_1)
    (zx_if (x3 < 0)
      (f_M_block_44 G_1)
      (zx_if ((3 : Int32) < x3)
        (f_M_block_44 G_1)
        (zx_gd (zx_nz (4 : Int32)) <|
        zx_gd (zx_nz (4 : Int32)) <|
        zx_gd (zx_in (((zx_div x2 (4 : Int32)) * (4 : Int32)) + (zx_div x1 (4 : Int32))) 16) <|
        zx_gd (zx_in (((4 : Int32) * (G_1 44 (Int32.toNatClampNeg (((zx_div x2 (4 : Int32)) * (4 : Int32)) + (zx_div x1 (4 : Int32)))))) + x3) 68) <|
        f_M_block_45 (G_1 45 (Int32.toNatClampNeg (((4 : Int32) * (G_1 44 (Int32.toNatClampNeg (((zx_div x2 (4 : Int32)) * (4 : Int32)) + (zx_div x1 (4 : Int32)))))) + x3))) G_1)))
set_option maxRecDepth 100000 in
set_option maxHeartbeats 4000000 in
theorem z_M_block_45 {κ : zx_K} {ad : Nat → Nat} {r : Int32} {G1 : zx_G} (h : zx_C M_M_block κ ad) (hE : zx_E M_M_block κ ad r G1) (s0 : Int32) (G : zx_G) (hf : f_M_block_45 s0 G = some (r, G1)) : zx_Z κ ad 45 [] [.int s0] G := by
  unfold f_M_block_45 at hf
  exact zr_iret h hE d_M_block_45 rfl hf
set_option maxRecDepth 100000 in
set_option maxHeartbeats 4000000 in
theorem z_M_block_44 {κ : zx_K} {ad : Nat → Nat} {r : Int32} {G1 : zx_G} (h : zx_C M_M_block κ ad) (hE : zx_E M_M_block κ ad r G1) (G : zx_G) (hf : f_M_block_44 G = some (r, G1)) : zx_Z κ ad 44 [] [] G := by
  unfold f_M_block_44 at hf
  refine zr_iconst (v := (-1 : Int32)) h d_M_block_44 rfl (by decide) ?_
  exact z_M_block_45 h hE (-1 : Int32) G hf
set_option maxRecDepth 100000 in
set_option maxHeartbeats 4000000 in
theorem z_M_block_0 {κ : zx_K} {ad : Nat → Nat} {r : Int32} {G1 : zx_G} (h : zx_C M_M_block κ ad) (hE : zx_E M_M_block κ ad r G1) (x1 x2 x3 : Int32) (G : zx_G) (hf : f_M_block x1 x2 x3 G = some (r, G1)) : zx_Z κ ad 0 [(0, .ref (ad 32)), (1, .int x1), (2, .int x2), (3, .int x3)] [] G := by
  unfold f_M_block at hf
  refine zr_aload_n h d_M_block_0 rfl rfl 0 rfl ?_
  refine zr_iload_n h d_M_block_1 rfl rfl 1 rfl ?_
  refine zr_iload_n h d_M_block_2 rfl rfl 2 rfl ?_
  obtain ⟨r_2, G_1, hq_3, hf⟩ := zx_bd_some hf
  refine zr_callVI (As := [.int x1, .int x2]) (b := 32) h (c_M_there _ _ _ _ _ x1 x2 G r_2 G_1 hq_3) cc_M_277 d_M_block_3 rfl rfl rfl sh_32 ⟨rfl, rfl, by decide, by decide⟩ (Nat.le_of_ble_eq_true rfl) ?_
  rcases zx_if_some hf with ⟨hc_4, hf⟩ | ⟨hc_4, hf⟩
  · refine zr_if_eq_t (tgt := 44) h d_M_block_6 rfl hc_4 ?_
    refine zr_sub [] rfl ?_
    exact z_M_block_44 h hE G_1 hf
  · refine zr_if_eq_f h 44 d_M_block_6 rfl rfl hc_4 ?_
    refine zr_iload_n h d_M_block_9 rfl rfl 3 rfl ?_
    rcases zx_if_some hf with ⟨hc_5, hf⟩ | ⟨hc_5, hf⟩
    · refine zr_if_lt_t (tgt := 44) h d_M_block_10 rfl hc_5 ?_
      refine zr_sub [] rfl ?_
      exact z_M_block_44 h hE G_1 hf
    · refine zr_if_lt_f h 44 d_M_block_10 rfl rfl hc_5 ?_
      refine zr_iload_n h d_M_block_13 rfl rfl 3 rfl ?_
      refine zr_iconst (v := (3 : Int32)) h d_M_block_14 rfl (by decide) ?_
      rcases zx_if_some hf with ⟨hc_6, hf⟩ | ⟨hc_6, hf⟩
      · refine zr_icmp_gt_t (tgt := 44) h d_M_block_15 rfl hc_6 ?_
        refine zr_sub [] rfl ?_
        exact z_M_block_44 h hE G_1 hf
      · refine zr_icmp_gt_f h 44 d_M_block_15 rfl rfl hc_6 ?_
        refine zr_aload_n h d_M_block_18 rfl rfl 0 rfl ?_
        refine zr_getR h d_M_block_19 rfl fl_M_46 sh_32 rfl ?_
        refine zr_iconst (v := (4 : Int32)) h d_M_block_22 rfl (by decide) ?_
        refine zr_aload_n h d_M_block_23 rfl rfl 0 rfl ?_
        refine zr_getR h d_M_block_24 rfl fl_M_43 sh_32 rfl ?_
        refine zr_iload_n h d_M_block_27 rfl rfl 2 rfl ?_
        refine zr_iconst (v := (4 : Int32)) h d_M_block_28 rfl (by decide) ?_
        obtain ⟨hb_7, hf⟩ := zx_gd_some hf
        refine zr_idiv h d_M_block_29 rfl (zx_nz_ne hb_7) ?_
        refine zr_iconst (v := (4 : Int32)) h d_M_block_30 rfl (by decide) ?_
        refine zr_imul h d_M_block_31 rfl ?_
        refine zr_iload_n h d_M_block_32 rfl rfl 1 rfl ?_
        refine zr_iconst (v := (4 : Int32)) h d_M_block_33 rfl (by decide) ?_
        obtain ⟨hb_8, hf⟩ := zx_gd_some hf
        refine zr_idiv h d_M_block_34 rfl (zx_nz_ne hb_8) ?_
        refine zr_iadd h d_M_block_35 rfl ?_
        obtain ⟨hb_9, hf⟩ := zx_gd_some hf
        refine zr_iald h d_M_block_36 rfl sh_44 hb_9 ?_
        refine zr_imul h d_M_block_37 rfl ?_
        refine zr_iload_n h d_M_block_38 rfl rfl 3 rfl ?_
        refine zr_iadd h d_M_block_39 rfl ?_
        obtain ⟨hb_10, hf⟩ := zx_gd_some hf
        refine zr_iald h d_M_block_40 rfl sh_45 hb_10 ?_
        refine zr_goto (tgt := 45) h d_M_block_41 rfl ?_
        refine zr_sub [] rfl ?_
        exact z_M_block_45 h hE (G_1 45 (Int32.toNatClampNeg (((4 : Int32) * (G_1 44 (Int32.toNatClampNeg (((zx_div x2 (4 : Int32)) * (4 : Int32)) + (zx_div x1 (4 : Int32)))))) + x3))) G_1 hf
theorem c_M_block (l : Launch) (D : va_G) (cA : ClassId) (ad : Nat → Nat) (A : Nat → Prop) (x1 x2 x3 : Int32) (G : zx_G) (r : Int32) (G1 : zx_G) (hf : f_M_block x1 x2 x3 G = some (r, G1)) : zx_met l y_M_block M_M_block [.ref (ad 32), .int x1, .int x2, .int x3] D cA ad A G r G1 :=
  zx_toMet (by decide) rfl (Nat.le_of_ble_eq_true rfl) (fun κ h hE => by exact z_M_block_0 h hE x1 x2 x3 G hf)

def f_M_blocks_15 (s0 : Int32) (G : zx_G) : Option (Int32 × zx_G) :=
  some (s0, G)
def f_M_blocks (G : zx_G) : Option (Int32 × zx_G) :=
  zx_if ((G 32 33) = 0)
    (f_M_blocks_15 (0 : Int32) G)
    (f_M_blocks_15 (G 32 37) G)
set_option maxRecDepth 100000 in
set_option maxHeartbeats 4000000 in
theorem z_M_blocks_15 {κ : zx_K} {ad : Nat → Nat} {r : Int32} {G1 : zx_G} (h : zx_C M_M_blocks κ ad) (hE : zx_E M_M_blocks κ ad r G1) (s0 : Int32) (G : zx_G) (hf : f_M_blocks_15 s0 G = some (r, G1)) : zx_Z κ ad 15 [] [.int s0] G := by
  unfold f_M_blocks_15 at hf
  exact zr_iret h hE d_M_blocks_15 rfl hf
set_option maxRecDepth 100000 in
set_option maxHeartbeats 4000000 in
theorem z_M_blocks_0 {κ : zx_K} {ad : Nat → Nat} {r : Int32} {G1 : zx_G} (h : zx_C M_M_blocks κ ad) (hE : zx_E M_M_blocks κ ad r G1) (G : zx_G) (hf : f_M_blocks G = some (r, G1)) : zx_Z κ ad 0 [(0, .ref (ad 32))] [] G := by
  unfold f_M_blocks at hf
  refine zr_aload_n h d_M_blocks_0 rfl rfl 0 rfl ?_
  refine zr_getI h d_M_blocks_1 rfl fl_M_108 sh_32 rfl ?_
  rcases zx_if_some hf with ⟨hc_1, hf⟩ | ⟨hc_1, hf⟩
  · refine zr_if_eq_t (tgt := 14) h d_M_blocks_4 rfl hc_1 ?_
    refine zr_iconst (v := (0 : Int32)) h d_M_blocks_14 rfl (by decide) ?_
    refine zr_sub [] rfl ?_
    exact z_M_blocks_15 h hE (0 : Int32) G hf
  · refine zr_if_eq_f h 14 d_M_blocks_4 rfl rfl hc_1 ?_
    refine zr_aload_n h d_M_blocks_7 rfl rfl 0 rfl ?_
    refine zr_getI h d_M_blocks_8 rfl fl_M_223 sh_32 rfl ?_
    refine zr_goto (tgt := 15) h d_M_blocks_11 rfl ?_
    refine zr_sub [] rfl ?_
    exact z_M_blocks_15 h hE (G 32 37) G hf
theorem c_M_blocks (l : Launch) (D : va_G) (cA : ClassId) (ad : Nat → Nat) (A : Nat → Prop) (G : zx_G) (r : Int32) (G1 : zx_G) (hf : f_M_blocks G = some (r, G1)) : zx_met l y_M_blocks M_M_blocks [.ref (ad 32)] D cA ad A G r G1 :=
  zx_toMet (by decide) rfl (Nat.le_of_ble_eq_true rfl) (fun κ h hE => by exact z_M_blocks_0 h hE G hf)

def f_M_symbols_15 (s0 : Int32) (G : zx_G) : Option (Int32 × zx_G) :=
  some (s0, G)
def f_M_symbols (G : zx_G) : Option (Int32 × zx_G) :=
  zx_if ((G 32 33) = 0)
    (f_M_symbols_15 (0 : Int32) G)
    (f_M_symbols_15 (G 32 30) G)
set_option maxRecDepth 100000 in
set_option maxHeartbeats 4000000 in
theorem z_M_symbols_15 {κ : zx_K} {ad : Nat → Nat} {r : Int32} {G1 : zx_G} (h : zx_C M_M_symbols κ ad) (hE : zx_E M_M_symbols κ ad r G1) (s0 : Int32) (G : zx_G) (hf : f_M_symbols_15 s0 G = some (r, G1)) : zx_Z κ ad 15 [] [.int s0] G := by
  unfold f_M_symbols_15 at hf
  exact zr_iret h hE d_M_symbols_15 rfl hf
set_option maxRecDepth 100000 in
set_option maxHeartbeats 4000000 in
theorem z_M_symbols_0 {κ : zx_K} {ad : Nat → Nat} {r : Int32} {G1 : zx_G} (h : zx_C M_M_symbols κ ad) (hE : zx_E M_M_symbols κ ad r G1) (G : zx_G) (hf : f_M_symbols G = some (r, G1)) : zx_Z κ ad 0 [(0, .ref (ad 32))] [] G := by
  unfold f_M_symbols at hf
  refine zr_aload_n h d_M_symbols_0 rfl rfl 0 rfl ?_
  refine zr_getI h d_M_symbols_1 rfl fl_M_108 sh_32 rfl ?_
  rcases zx_if_some hf with ⟨hc_1, hf⟩ | ⟨hc_1, hf⟩
  · refine zr_if_eq_t (tgt := 14) h d_M_symbols_4 rfl hc_1 ?_
    refine zr_iconst (v := (0 : Int32)) h d_M_symbols_14 rfl (by decide) ?_
    refine zr_sub [] rfl ?_
    exact z_M_symbols_15 h hE (0 : Int32) G hf
  · refine zr_if_eq_f h 14 d_M_symbols_4 rfl rfl hc_1 ?_
    refine zr_aload_n h d_M_symbols_7 rfl rfl 0 rfl ?_
    refine zr_getI h d_M_symbols_8 rfl fl_M_210 sh_32 rfl ?_
    refine zr_goto (tgt := 15) h d_M_symbols_11 rfl ?_
    refine zr_sub [] rfl ?_
    exact z_M_symbols_15 h hE (G 32 30) G hf
theorem c_M_symbols (l : Launch) (D : va_G) (cA : ClassId) (ad : Nat → Nat) (A : Nat → Prop) (G : zx_G) (r : Int32) (G1 : zx_G) (hf : f_M_symbols G = some (r, G1)) : zx_met l y_M_symbols M_M_symbols [.ref (ad 32)] D cA ad A G r G1 :=
  zx_toMet (by decide) rfl (Nat.le_of_ble_eq_true rfl) (fun κ h hE => by exact z_M_symbols_0 h hE G hf)

def f_M_taken_15 (s0 : Int32) (G : zx_G) : Option (Int32 × zx_G) :=
  some (s0, G)
def f_M_taken (G : zx_G) : Option (Int32 × zx_G) :=
  zx_if ((G 32 33) = 0)
    (f_M_taken_15 (0 : Int32) G)
    (f_M_taken_15 (G 32 29) G)
set_option maxRecDepth 100000 in
set_option maxHeartbeats 4000000 in
theorem z_M_taken_15 {κ : zx_K} {ad : Nat → Nat} {r : Int32} {G1 : zx_G} (h : zx_C M_M_taken κ ad) (hE : zx_E M_M_taken κ ad r G1) (s0 : Int32) (G : zx_G) (hf : f_M_taken_15 s0 G = some (r, G1)) : zx_Z κ ad 15 [] [.int s0] G := by
  unfold f_M_taken_15 at hf
  exact zr_iret h hE d_M_taken_15 rfl hf
set_option maxRecDepth 100000 in
set_option maxHeartbeats 4000000 in
theorem z_M_taken_0 {κ : zx_K} {ad : Nat → Nat} {r : Int32} {G1 : zx_G} (h : zx_C M_M_taken κ ad) (hE : zx_E M_M_taken κ ad r G1) (G : zx_G) (hf : f_M_taken G = some (r, G1)) : zx_Z κ ad 0 [(0, .ref (ad 32))] [] G := by
  unfold f_M_taken at hf
  refine zr_aload_n h d_M_taken_0 rfl rfl 0 rfl ?_
  refine zr_getI h d_M_taken_1 rfl fl_M_108 sh_32 rfl ?_
  rcases zx_if_some hf with ⟨hc_1, hf⟩ | ⟨hc_1, hf⟩
  · refine zr_if_eq_t (tgt := 14) h d_M_taken_4 rfl hc_1 ?_
    refine zr_iconst (v := (0 : Int32)) h d_M_taken_14 rfl (by decide) ?_
    refine zr_sub [] rfl ?_
    exact z_M_taken_15 h hE (0 : Int32) G hf
  · refine zr_if_eq_f h 14 d_M_taken_4 rfl rfl hc_1 ?_
    refine zr_aload_n h d_M_taken_7 rfl rfl 0 rfl ?_
    refine zr_getI h d_M_taken_8 rfl fl_M_201 sh_32 rfl ?_
    refine zr_goto (tgt := 15) h d_M_taken_11 rfl ?_
    refine zr_sub [] rfl ?_
    exact z_M_taken_15 h hE (G 32 29) G hf
theorem c_M_taken (l : Launch) (D : va_G) (cA : ClassId) (ad : Nat → Nat) (A : Nat → Prop) (G : zx_G) (r : Int32) (G1 : zx_G) (hf : f_M_taken G = some (r, G1)) : zx_met l y_M_taken M_M_taken [.ref (ad 32)] D cA ad A G r G1 :=
  zx_toMet (by decide) rfl (Nat.le_of_ble_eq_true rfl) (fun κ h hE => by exact z_M_taken_0 h hE G hf)

def f_M_table_44 (s0 : Int32) (G : zx_G) : Option (Int32 × zx_G) :=
  some (s0, G)
def f_M_table_43 (G : zx_G) : Option (Int32 × zx_G) :=
  f_M_table_44 (-1 : Int32) G
def f_M_table (x1 x2 : Int32) (G : zx_G) : Option (Int32 × zx_G) :=
  zx_if ((G 32 33) = 0)
    (f_M_table_43 G)
    (zx_if (x1 < 0)
      (f_M_table_43 G)
      (zx_if ((18 : Int32) < x1)
        (f_M_table_43 G)
        (zx_if (x2 < 0)
          (f_M_table_43 G)
          (zx_bd (f_M_tableSize x1 G) fun r_6 G_5 =>
          zx_if (r_6 ≤ x2)
            (f_M_table_43 G_5)
            (zx_gd (zx_in (((16 : Int32) * x1) + x2) 304) <|
            f_M_table_44 (G_5 40 (Int32.toNatClampNeg (((16 : Int32) * x1) + x2))) G_5)))))
set_option maxRecDepth 100000 in
set_option maxHeartbeats 4000000 in
theorem z_M_table_44 {κ : zx_K} {ad : Nat → Nat} {r : Int32} {G1 : zx_G} (h : zx_C M_M_table κ ad) (hE : zx_E M_M_table κ ad r G1) (s0 : Int32) (G : zx_G) (hf : f_M_table_44 s0 G = some (r, G1)) : zx_Z κ ad 44 [] [.int s0] G := by
  unfold f_M_table_44 at hf
  exact zr_iret h hE d_M_table_44 rfl hf
set_option maxRecDepth 100000 in
set_option maxHeartbeats 4000000 in
theorem z_M_table_43 {κ : zx_K} {ad : Nat → Nat} {r : Int32} {G1 : zx_G} (h : zx_C M_M_table κ ad) (hE : zx_E M_M_table κ ad r G1) (G : zx_G) (hf : f_M_table_43 G = some (r, G1)) : zx_Z κ ad 43 [] [] G := by
  unfold f_M_table_43 at hf
  refine zr_iconst (v := (-1 : Int32)) h d_M_table_43 rfl (by decide) ?_
  exact z_M_table_44 h hE (-1 : Int32) G hf
set_option maxRecDepth 100000 in
set_option maxHeartbeats 4000000 in
theorem z_M_table_0 {κ : zx_K} {ad : Nat → Nat} {r : Int32} {G1 : zx_G} (h : zx_C M_M_table κ ad) (hE : zx_E M_M_table κ ad r G1) (x1 x2 : Int32) (G : zx_G) (hf : f_M_table x1 x2 G = some (r, G1)) : zx_Z κ ad 0 [(0, .ref (ad 32)), (1, .int x1), (2, .int x2)] [] G := by
  unfold f_M_table at hf
  refine zr_aload_n h d_M_table_0 rfl rfl 0 rfl ?_
  refine zr_getI h d_M_table_1 rfl fl_M_108 sh_32 rfl ?_
  rcases zx_if_some hf with ⟨hc_1, hf⟩ | ⟨hc_1, hf⟩
  · refine zr_if_eq_t (tgt := 43) h d_M_table_4 rfl hc_1 ?_
    refine zr_sub [] rfl ?_
    exact z_M_table_43 h hE G hf
  · refine zr_if_eq_f h 43 d_M_table_4 rfl rfl hc_1 ?_
    refine zr_iload_n h d_M_table_7 rfl rfl 1 rfl ?_
    rcases zx_if_some hf with ⟨hc_2, hf⟩ | ⟨hc_2, hf⟩
    · refine zr_if_lt_t (tgt := 43) h d_M_table_8 rfl hc_2 ?_
      refine zr_sub [] rfl ?_
      exact z_M_table_43 h hE G hf
    · refine zr_if_lt_f h 43 d_M_table_8 rfl rfl hc_2 ?_
      refine zr_iload_n h d_M_table_11 rfl rfl 1 rfl ?_
      refine zr_bipush (v := (18 : Int32)) h d_M_table_12 rfl (by decide) ?_
      rcases zx_if_some hf with ⟨hc_3, hf⟩ | ⟨hc_3, hf⟩
      · refine zr_icmp_gt_t (tgt := 43) h d_M_table_14 rfl hc_3 ?_
        refine zr_sub [] rfl ?_
        exact z_M_table_43 h hE G hf
      · refine zr_icmp_gt_f h 43 d_M_table_14 rfl rfl hc_3 ?_
        refine zr_iload_n h d_M_table_17 rfl rfl 2 rfl ?_
        rcases zx_if_some hf with ⟨hc_4, hf⟩ | ⟨hc_4, hf⟩
        · refine zr_if_lt_t (tgt := 43) h d_M_table_18 rfl hc_4 ?_
          refine zr_sub [] rfl ?_
          exact z_M_table_43 h hE G hf
        · refine zr_if_lt_f h 43 d_M_table_18 rfl rfl hc_4 ?_
          refine zr_iload_n h d_M_table_21 rfl rfl 2 rfl ?_
          refine zr_iload_n h d_M_table_22 rfl rfl 1 rfl ?_
          obtain ⟨r_6, G_5, hq_7, hf⟩ := zx_bd_some hf
          refine zr_callSI (As := [.int x1]) h (c_M_tableSize _ _ _ _ _ x1 G r_6 G_5 hq_7) cc_M_216 d_M_table_23 rfl rfl rfl ⟨rfl, by decide, by decide⟩ (Nat.le_of_ble_eq_true rfl) ?_
          rcases zx_if_some hf with ⟨hc_8, hf⟩ | ⟨hc_8, hf⟩
          · refine zr_icmp_ge_t (tgt := 43) h d_M_table_26 rfl hc_8 ?_
            refine zr_sub [] rfl ?_
            exact z_M_table_43 h hE G_5 hf
          · refine zr_icmp_ge_f h 43 d_M_table_26 rfl rfl hc_8 ?_
            refine zr_aload_n h d_M_table_29 rfl rfl 0 rfl ?_
            refine zr_getR h d_M_table_30 rfl fl_M_31 sh_32 rfl ?_
            refine zr_bipush (v := (16 : Int32)) h d_M_table_33 rfl (by decide) ?_
            refine zr_iload_n h d_M_table_35 rfl rfl 1 rfl ?_
            refine zr_imul h d_M_table_36 rfl ?_
            refine zr_iload_n h d_M_table_37 rfl rfl 2 rfl ?_
            refine zr_iadd h d_M_table_38 rfl ?_
            obtain ⟨hb_9, hf⟩ := zx_gd_some hf
            refine zr_iald h d_M_table_39 rfl sh_40 hb_9 ?_
            refine zr_goto (tgt := 44) h d_M_table_40 rfl ?_
            refine zr_sub [] rfl ?_
            exact z_M_table_44 h hE (G_5 40 (Int32.toNatClampNeg (((16 : Int32) * x1) + x2))) G_5 hf
theorem c_M_table (l : Launch) (D : va_G) (cA : ClassId) (ad : Nat → Nat) (A : Nat → Prop) (x1 x2 : Int32) (G : zx_G) (r : Int32) (G1 : zx_G) (hf : f_M_table x1 x2 G = some (r, G1)) : zx_met l y_M_table M_M_table [.ref (ad 32), .int x1, .int x2] D cA ad A G r G1 :=
  zx_toMet (by decide) rfl (Nat.le_of_ble_eq_true rfl) (fun κ h hE => by exact z_M_table_0 h hE x1 x2 G hf)
