/-! the methods as functions, and the rows that tie them to the machine; written by a program -/
def f_T_readBlock_190 (k156 : Int32 → Int32 → Int32 → zx_G → Option (Int32 × zx_G)) (x6 x7 x8 s1 s2 : Int32) (G : zx_G) : Option (Int32 × zx_G) :=
  zx_gd (zx_in s1 3) <|
  zx_lt (zx_up G 22 (Int32.toNatClampNeg s1) s2) fun G_2 =>
  zx_lt (x8 + (1 : Int32)) fun x8_3 =>
  k156 x6 x7 x8_3 G_2
def f_T_readBlock_227 (x6 s1 s2 s3 : Int32) (G : zx_G) : Option (Int32 × zx_G) :=
  zx_bd (f_P_tell s1 s2 s3 G) fun r_2 G_1 =>
  some (x6, G_1)
def f_T_readBlock_156 : Nat → Int32 → Int32 → Int32 → zx_G → Option (Int32 × zx_G)
  | 0, _, _, _, _ => none
  | n + 1, x6, x7, x8, G =>
    zx_if ((3 : Int32) ≤ x8)
      (zx_if ((G 11 10) = 0)
        (f_T_readBlock_227 x6 x6 (3 : Int32) (0 : Int32) G)
        (zx_bd (f_C_readSymbol (10 : Int32) G) fun r_4 G_3 =>
        f_T_readBlock_227 x6 x6 (3 : Int32) r_4 G_3))
      (zx_if (¬ x7 = (6 : Int32))
        (f_T_readBlock_190 (f_T_readBlock_156 n) x6 x7 x8 x8 (0 : Int32) G)
        (zx_bd (f_C_readSymbol (7 : Int32) G) fun r_8 G_7 =>
        f_T_readBlock_190 (f_T_readBlock_156 n) x6 x7 x8 x8 (r_8 - (3 : Int32)) G_7))
def f_T_readBlock_139 (x6 s0 : Int32) (G : zx_G) : Option (Int32 × zx_G) :=
  zx_lt s0 fun x7_1 =>
  zx_bd (f_P_tell x6 (2 : Int32) x7_1 G) fun r_3 G_2 =>
  zx_lt (1 : Int32) fun x8_5 =>
  f_T_readBlock_156 2048 x6 x7_1 x8_5 G_2
def f_T_readBlock_64 (x1 x2 x3 x4 s0 : Int32) (G : zx_G) : Option (Int32 × zx_G) :=
  zx_lt s0 fun x5_1 =>
  zx_bd (f_P_addBlock x1 x2 x3 G) fun r_3 G_2 =>
  zx_lt r_3 fun x6_5 =>
  zx_bd (f_P_tell x6_5 (0 : Int32) x3 G_2) fun r_7 G_6 =>
  zx_bd (f_C_readSymbol (((2 : Int32) + x4) + ((2 : Int32) * x5_1)) G_6) fun r_10 G_9 =>
  zx_bd (f_P_tell x6_5 (1 : Int32) r_10 G_9) fun r_13 G_12 =>
  zx_if (¬ (G_12 11 6) = (3 : Int32))
    (f_T_readBlock_139 x6_5 (0 : Int32) G_12)
    (zx_bd (f_C_readSymbol (6 : Int32) G_12) fun r_17 G_16 =>
    f_T_readBlock_139 x6_5 r_17 G_16)
def f_T_readBlock_63 (x1 x2 x3 x4 : Int32) (G : zx_G) : Option (Int32 × zx_G) :=
  f_T_readBlock_64 x1 x2 x3 x4 (0 : Int32) G
def f_T_readBlock_31 (x1 x2 x3 s0 : Int32) (G : zx_G) : Option (Int32 × zx_G) :=
  zx_lt s0 fun x4_1 =>
  zx_if (x1 ≤ 0)
    (f_T_readBlock_63 x1 x2 x3 x4_1 G)
    (zx_bd (f_P_ownerAt (x1 - (1 : Int32)) x2 G) fun r_4 G_3 =>
    zx_bd (f_P_tellOf r_4 (1 : Int32) G_3) fun r_7 G_6 =>
    zx_if (r_7 = 0)
      (f_T_readBlock_63 x1 x2 x3 x4_1 G_6)
      (f_T_readBlock_64 x1 x2 x3 x4_1 (1 : Int32) G_6))
def f_T_readBlock_30 (x1 x2 x3 : Int32) (G : zx_G) : Option (Int32 × zx_G) :=
  f_T_readBlock_31 x1 x2 x3 (0 : Int32) G
def f_T_readBlock (x1 x2 x3 : Int32) (G : zx_G) : Option (Int32 × zx_G) :=
  zx_if (x2 ≤ 0)
    (f_T_readBlock_30 x1 x2 x3 G)
    (zx_bd (f_P_ownerAt x1 (x2 - (1 : Int32)) G) fun r_3 G_2 =>
    zx_bd (f_P_tellOf r_3 (1 : Int32) G_2) fun r_6 G_5 =>
    zx_if (r_6 = 0)
      (f_T_readBlock_30 x1 x2 x3 G_5)
      (f_T_readBlock_31 x1 x2 x3 (1 : Int32) G_5))
set_option maxRecDepth 100000 in
set_option maxHeartbeats 4000000 in
theorem z_T_readBlock_190 {κ : zx_K} {ad : Nat → Nat} {r : Int32} {G1 : zx_G} (h : zx_C M_T_readBlock κ ad) (hE : zx_E M_T_readBlock κ ad r G1) {k156 : Int32 → Int32 → Int32 → zx_G → Option (Int32 × zx_G)} (hk156 : ∀ (x6 x7 x8 : Int32) (G : zx_G), k156 x6 x7 x8 G = some (r, G1) → zx_Z κ ad 156 [(0, .ref (ad 21)), (6, .int x6), (7, .int x7), (8, .int x8)] [] G) (x6 x7 x8 s1 s2 : Int32) (G : zx_G) (hf : f_T_readBlock_190 k156 x6 x7 x8 s1 s2 G = some (r, G1)) : zx_Z κ ad 190 [(0, .ref (ad 21)), (6, .int x6), (7, .int x7), (8, .int x8)] [.int s2, .int s1, .ref (ad 22)] G := by
  unfold f_T_readBlock_190 at hf
  obtain ⟨hb_1, hf⟩ := zx_gd_some hf
  obtain ⟨G_2, eG_2, hf⟩ := zx_lt_some hf
  refine zr_iast h d_T_readBlock_190 rfl sh_22 hb_1 eG_2 ?_
  obtain ⟨x8_3, ex8_3, hf⟩ := zx_lt_some hf
  refine zr_iinc (j := 3) h d_T_readBlock_191 rfl rfl (by decide) ex8_3 (by decide) rfl ?_
  refine zr_goto (tgt := 156) h d_T_readBlock_194 rfl ?_
  refine zr_sub [1, 2, 3, 0] rfl ?_
  exact hk156 x6 x7 x8_3 G_2 hf
set_option maxRecDepth 100000 in
set_option maxHeartbeats 4000000 in
theorem z_T_readBlock_227 {κ : zx_K} {ad : Nat → Nat} {r : Int32} {G1 : zx_G} (h : zx_C M_T_readBlock κ ad) (hE : zx_E M_T_readBlock κ ad r G1) (x6 s1 s2 s3 : Int32) (G : zx_G) (hf : f_T_readBlock_227 x6 s1 s2 s3 G = some (r, G1)) : zx_Z κ ad 227 [(6, .int x6)] [.int s3, .int s2, .int s1, .ref (ad 17)] G := by
  unfold f_T_readBlock_227 at hf
  obtain ⟨r_2, G_1, hq_3, hf⟩ := zx_bd_some hf
  refine zr_callVV (As := [.int s1, .int s2, .int s3]) (b := 17) h (c_P_tell _ _ _ _ _ s1 s2 s3 G r_2 G_1 hq_3) cc_T_106 d_T_readBlock_227 rfl rfl rfl sh_17 ⟨rfl, rfl, by decide, by decide⟩ (Nat.le_of_ble_eq_true rfl) ?_
  refine zr_iload h d_T_readBlock_230 rfl 0 rfl ?_
  exact zr_iret h hE d_T_readBlock_232 rfl hf
set_option maxRecDepth 100000 in
set_option maxHeartbeats 4000000 in
theorem z_T_readBlock_156 {κ : zx_K} {ad : Nat → Nat} {r : Int32} {G1 : zx_G} (h : zx_C M_T_readBlock κ ad) (hE : zx_E M_T_readBlock κ ad r G1) : ∀ (n : Nat) (x6 x7 x8 : Int32) (G : zx_G), f_T_readBlock_156 n x6 x7 x8 G = some (r, G1) → zx_Z κ ad 156 [(0, .ref (ad 21)), (6, .int x6), (7, .int x7), (8, .int x8)] [] G := by
  intro n
  induction n with
  | zero => intro x6 x7 x8 G hf; cases hf
  | succ n ih =>
    intro x6 x7 x8 G hf
    unfold f_T_readBlock_156 at hf
    refine zr_iload h d_T_readBlock_156 rfl 3 rfl ?_
    refine zr_iconst (v := (3 : Int32)) h d_T_readBlock_158 rfl (by decide) ?_
    rcases zx_if_some hf with ⟨hc_1, hf⟩ | ⟨hc_1, hf⟩
    · refine zr_icmp_ge_t (tgt := 197) h d_T_readBlock_159 rfl hc_1 ?_
      refine zr_aload_n h d_T_readBlock_197 rfl rfl 0 rfl ?_
      refine zr_getR h d_T_readBlock_198 rfl fl_T_23 sh_21 rfl ?_
      refine zr_iload h d_T_readBlock_201 rfl 1 rfl ?_
      refine zr_iconst (v := (3 : Int32)) h d_T_readBlock_203 rfl (by decide) ?_
      refine zr_aload_n h d_T_readBlock_204 rfl rfl 0 rfl ?_
      refine zr_getR h d_T_readBlock_205 rfl fl_T_15 sh_21 rfl ?_
      refine zr_getI h d_T_readBlock_208 rfl fl_T_110 sh_11 rfl ?_
      rcases zx_if_some hf with ⟨hc_2, hf⟩ | ⟨hc_2, hf⟩
      · refine zr_if_eq_t (tgt := 226) h d_T_readBlock_211 rfl hc_2 ?_
        refine zr_iconst (v := (0 : Int32)) h d_T_readBlock_226 rfl (by decide) ?_
        refine zr_sub [1] rfl ?_
        exact z_T_readBlock_227 h hE x6 x6 (3 : Int32) (0 : Int32) G hf
      · refine zr_if_eq_f h 226 d_T_readBlock_211 rfl rfl hc_2 ?_
        refine zr_aload_n h d_T_readBlock_214 rfl rfl 0 rfl ?_
        refine zr_getR h d_T_readBlock_215 rfl fl_T_19 sh_21 rfl ?_
        refine zr_bipush (v := (10 : Int32)) h d_T_readBlock_218 rfl (by decide) ?_
        obtain ⟨r_4, G_3, hq_5, hf⟩ := zx_bd_some hf
        refine zr_callVI (As := [.int (10 : Int32)]) (b := 14) h (c_C_readSymbol _ _ _ _ _ (10 : Int32) G r_4 G_3 hq_5) cc_T_93 d_T_readBlock_220 rfl rfl rfl sh_14 ⟨rfl, rfl, by decide, by decide⟩ (Nat.le_of_ble_eq_true rfl) ?_
        refine zr_goto (tgt := 227) h d_T_readBlock_223 rfl ?_
        refine zr_sub [1] rfl ?_
        exact z_T_readBlock_227 h hE x6 x6 (3 : Int32) r_4 G_3 hf
    · refine zr_icmp_ge_f h 197 d_T_readBlock_159 rfl rfl hc_1 ?_
      refine zr_aload_n h d_T_readBlock_162 rfl rfl 0 rfl ?_
      refine zr_getR h d_T_readBlock_163 rfl fl_T_9 sh_21 rfl ?_
      refine zr_iload h d_T_readBlock_166 rfl 3 rfl ?_
      refine zr_iload h d_T_readBlock_168 rfl 2 rfl ?_
      refine zr_bipush (v := (6 : Int32)) h d_T_readBlock_170 rfl (by decide) ?_
      rcases zx_if_some hf with ⟨hc_6, hf⟩ | ⟨hc_6, hf⟩
      · refine zr_icmp_ne_t (tgt := 189) h d_T_readBlock_172 rfl hc_6 ?_
        refine zr_iconst (v := (0 : Int32)) h d_T_readBlock_189 rfl (by decide) ?_
        exact z_T_readBlock_190 h hE ih x6 x7 x8 x8 (0 : Int32) G hf
      · refine zr_icmp_ne_f h 189 d_T_readBlock_172 rfl rfl hc_6 ?_
        refine zr_aload_n h d_T_readBlock_175 rfl rfl 0 rfl ?_
        refine zr_getR h d_T_readBlock_176 rfl fl_T_19 sh_21 rfl ?_
        refine zr_bipush (v := (7 : Int32)) h d_T_readBlock_179 rfl (by decide) ?_
        obtain ⟨r_8, G_7, hq_9, hf⟩ := zx_bd_some hf
        refine zr_callVI (As := [.int (7 : Int32)]) (b := 14) h (c_C_readSymbol _ _ _ _ _ (7 : Int32) G r_8 G_7 hq_9) cc_T_93 d_T_readBlock_181 rfl rfl rfl sh_14 ⟨rfl, rfl, by decide, by decide⟩ (Nat.le_of_ble_eq_true rfl) ?_
        refine zr_iconst (v := (3 : Int32)) h d_T_readBlock_184 rfl (by decide) ?_
        refine zr_isub h d_T_readBlock_185 rfl ?_
        refine zr_goto (tgt := 190) h d_T_readBlock_186 rfl ?_
        exact z_T_readBlock_190 h hE ih x6 x7 x8 x8 (r_8 - (3 : Int32)) G_7 hf
set_option maxRecDepth 100000 in
set_option maxHeartbeats 4000000 in
theorem z_T_readBlock_139 {κ : zx_K} {ad : Nat → Nat} {r : Int32} {G1 : zx_G} (h : zx_C M_T_readBlock κ ad) (hE : zx_E M_T_readBlock κ ad r G1) (x6 s0 : Int32) (G : zx_G) (hf : f_T_readBlock_139 x6 s0 G = some (r, G1)) : zx_Z κ ad 139 [(0, .ref (ad 21)), (6, .int x6)] [.int s0] G := by
  unfold f_T_readBlock_139 at hf
  obtain ⟨x7_1, ex7_1, hf⟩ := zx_lt_some hf
  refine zr_istore h d_T_readBlock_139 rfl (by decide) ex7_1 rfl ?_
  refine zr_aload_n h d_T_readBlock_141 rfl rfl 1 rfl ?_
  refine zr_getR h d_T_readBlock_142 rfl fl_T_23 sh_21 rfl ?_
  refine zr_iload h d_T_readBlock_145 rfl 2 rfl ?_
  refine zr_iconst (v := (2 : Int32)) h d_T_readBlock_147 rfl (by decide) ?_
  refine zr_iload h d_T_readBlock_148 rfl 0 rfl ?_
  obtain ⟨r_3, G_2, hq_4, hf⟩ := zx_bd_some hf
  refine zr_callVV (As := [.int x6, .int (2 : Int32), .int x7_1]) (b := 17) h (c_P_tell _ _ _ _ _ x6 (2 : Int32) x7_1 G r_3 G_2 hq_4) cc_T_106 d_T_readBlock_150 rfl rfl rfl sh_17 ⟨rfl, rfl, by decide, by decide⟩ (Nat.le_of_ble_eq_true rfl) ?_
  refine zr_iconst (v := (1 : Int32)) h d_T_readBlock_153 rfl (by decide) ?_
  obtain ⟨x8_5, ex8_5, hf⟩ := zx_lt_some hf
  refine zr_istore h d_T_readBlock_154 rfl (by decide) ex8_5 rfl ?_
  refine zr_sub [2, 3, 1, 0] rfl ?_
  exact z_T_readBlock_156 h hE 2048 x6 x7_1 x8_5 G_2 hf
set_option maxRecDepth 100000 in
set_option maxHeartbeats 4000000 in
theorem z_T_readBlock_64 {κ : zx_K} {ad : Nat → Nat} {r : Int32} {G1 : zx_G} (h : zx_C M_T_readBlock κ ad) (hE : zx_E M_T_readBlock κ ad r G1) (x1 x2 x3 x4 s0 : Int32) (G : zx_G) (hf : f_T_readBlock_64 x1 x2 x3 x4 s0 G = some (r, G1)) : zx_Z κ ad 64 [(0, .ref (ad 21)), (1, .int x1), (2, .int x2), (3, .int x3), (4, .int x4)] [.int s0] G := by
  unfold f_T_readBlock_64 at hf
  obtain ⟨x5_1, ex5_1, hf⟩ := zx_lt_some hf
  refine zr_istore h d_T_readBlock_64 rfl (by decide) ex5_1 rfl ?_
  refine zr_aload_n h d_T_readBlock_66 rfl rfl 1 rfl ?_
  refine zr_getR h d_T_readBlock_67 rfl fl_T_23 sh_21 rfl ?_
  refine zr_iload_n h d_T_readBlock_70 rfl rfl 2 rfl ?_
  refine zr_iload_n h d_T_readBlock_71 rfl rfl 3 rfl ?_
  refine zr_iload_n h d_T_readBlock_72 rfl rfl 4 rfl ?_
  obtain ⟨r_3, G_2, hq_4, hf⟩ := zx_bd_some hf
  refine zr_callVI (As := [.int x1, .int x2, .int x3]) (b := 17) h (c_P_addBlock _ _ _ _ _ x1 x2 x3 G r_3 G_2 hq_4) cc_T_103 d_T_readBlock_73 rfl rfl rfl sh_17 ⟨rfl, rfl, by decide, by decide⟩ (Nat.le_of_ble_eq_true rfl) ?_
  obtain ⟨x6_5, ex6_5, hf⟩ := zx_lt_some hf
  refine zr_istore h d_T_readBlock_76 rfl (by decide) ex6_5 rfl ?_
  refine zr_aload_n h d_T_readBlock_78 rfl rfl 2 rfl ?_
  refine zr_getR h d_T_readBlock_79 rfl fl_T_23 sh_21 rfl ?_
  refine zr_iload h d_T_readBlock_82 rfl 0 rfl ?_
  refine zr_iconst (v := (0 : Int32)) h d_T_readBlock_84 rfl (by decide) ?_
  refine zr_iload_n h d_T_readBlock_85 rfl rfl 5 rfl ?_
  obtain ⟨r_7, G_6, hq_8, hf⟩ := zx_bd_some hf
  refine zr_callVV (As := [.int x6_5, .int (0 : Int32), .int x3]) (b := 17) h (c_P_tell _ _ _ _ _ x6_5 (0 : Int32) x3 G_2 r_7 G_6 hq_8) cc_T_106 d_T_readBlock_86 rfl rfl rfl sh_17 ⟨rfl, rfl, by decide, by decide⟩ (Nat.le_of_ble_eq_true rfl) ?_
  refine zr_aload_n h d_T_readBlock_89 rfl rfl 2 rfl ?_
  refine zr_getR h d_T_readBlock_90 rfl fl_T_23 sh_21 rfl ?_
  refine zr_iload h d_T_readBlock_93 rfl 0 rfl ?_
  refine zr_iconst (v := (1 : Int32)) h d_T_readBlock_95 rfl (by decide) ?_
  refine zr_aload_n h d_T_readBlock_96 rfl rfl 2 rfl ?_
  refine zr_getR h d_T_readBlock_97 rfl fl_T_19 sh_21 rfl ?_
  refine zr_iconst (v := (2 : Int32)) h d_T_readBlock_100 rfl (by decide) ?_
  refine zr_iload h d_T_readBlock_101 rfl 6 rfl ?_
  refine zr_iadd h d_T_readBlock_103 rfl ?_
  refine zr_iconst (v := (2 : Int32)) h d_T_readBlock_104 rfl (by decide) ?_
  refine zr_iload h d_T_readBlock_105 rfl 1 rfl ?_
  refine zr_imul h d_T_readBlock_107 rfl ?_
  refine zr_iadd h d_T_readBlock_108 rfl ?_
  obtain ⟨r_10, G_9, hq_11, hf⟩ := zx_bd_some hf
  refine zr_callVI (As := [.int (((2 : Int32) + x4) + ((2 : Int32) * x5_1))]) (b := 14) h (c_C_readSymbol _ _ _ _ _ (((2 : Int32) + x4) + ((2 : Int32) * x5_1)) G_6 r_10 G_9 hq_11) cc_T_93 d_T_readBlock_109 rfl rfl rfl sh_14 ⟨rfl, rfl, by decide, by decide⟩ (Nat.le_of_ble_eq_true rfl) ?_
  obtain ⟨r_13, G_12, hq_14, hf⟩ := zx_bd_some hf
  refine zr_callVV (As := [.int x6_5, .int (1 : Int32), .int r_10]) (b := 17) h (c_P_tell _ _ _ _ _ x6_5 (1 : Int32) r_10 G_9 r_13 G_12 hq_14) cc_T_106 d_T_readBlock_112 rfl rfl rfl sh_17 ⟨rfl, rfl, by decide, by decide⟩ (Nat.le_of_ble_eq_true rfl) ?_
  refine zr_aload_n h d_T_readBlock_115 rfl rfl 2 rfl ?_
  refine zr_getR h d_T_readBlock_116 rfl fl_T_15 sh_21 rfl ?_
  refine zr_getI h d_T_readBlock_119 rfl fl_T_86 sh_11 rfl ?_
  refine zr_iconst (v := (3 : Int32)) h d_T_readBlock_122 rfl (by decide) ?_
  rcases zx_if_some hf with ⟨hc_15, hf⟩ | ⟨hc_15, hf⟩
  · refine zr_icmp_ne_t (tgt := 138) h d_T_readBlock_123 rfl hc_15 ?_
    refine zr_iconst (v := (0 : Int32)) h d_T_readBlock_138 rfl (by decide) ?_
    refine zr_sub [2, 0] rfl ?_
    exact z_T_readBlock_139 h hE x6_5 (0 : Int32) G_12 hf
  · refine zr_icmp_ne_f h 138 d_T_readBlock_123 rfl rfl hc_15 ?_
    refine zr_aload_n h d_T_readBlock_126 rfl rfl 2 rfl ?_
    refine zr_getR h d_T_readBlock_127 rfl fl_T_19 sh_21 rfl ?_
    refine zr_bipush (v := (6 : Int32)) h d_T_readBlock_130 rfl (by decide) ?_
    obtain ⟨r_17, G_16, hq_18, hf⟩ := zx_bd_some hf
    refine zr_callVI (As := [.int (6 : Int32)]) (b := 14) h (c_C_readSymbol _ _ _ _ _ (6 : Int32) G_12 r_17 G_16 hq_18) cc_T_93 d_T_readBlock_132 rfl rfl rfl sh_14 ⟨rfl, rfl, by decide, by decide⟩ (Nat.le_of_ble_eq_true rfl) ?_
    refine zr_goto (tgt := 139) h d_T_readBlock_135 rfl ?_
    refine zr_sub [2, 0] rfl ?_
    exact z_T_readBlock_139 h hE x6_5 r_17 G_16 hf
set_option maxRecDepth 100000 in
set_option maxHeartbeats 4000000 in
theorem z_T_readBlock_63 {κ : zx_K} {ad : Nat → Nat} {r : Int32} {G1 : zx_G} (h : zx_C M_T_readBlock κ ad) (hE : zx_E M_T_readBlock κ ad r G1) (x1 x2 x3 x4 : Int32) (G : zx_G) (hf : f_T_readBlock_63 x1 x2 x3 x4 G = some (r, G1)) : zx_Z κ ad 63 [(0, .ref (ad 21)), (1, .int x1), (2, .int x2), (3, .int x3), (4, .int x4)] [] G := by
  unfold f_T_readBlock_63 at hf
  refine zr_iconst (v := (0 : Int32)) h d_T_readBlock_63 rfl (by decide) ?_
  exact z_T_readBlock_64 h hE x1 x2 x3 x4 (0 : Int32) G hf
set_option maxRecDepth 100000 in
set_option maxHeartbeats 4000000 in
theorem z_T_readBlock_31 {κ : zx_K} {ad : Nat → Nat} {r : Int32} {G1 : zx_G} (h : zx_C M_T_readBlock κ ad) (hE : zx_E M_T_readBlock κ ad r G1) (x1 x2 x3 s0 : Int32) (G : zx_G) (hf : f_T_readBlock_31 x1 x2 x3 s0 G = some (r, G1)) : zx_Z κ ad 31 [(0, .ref (ad 21)), (1, .int x1), (2, .int x2), (3, .int x3)] [.int s0] G := by
  unfold f_T_readBlock_31 at hf
  obtain ⟨x4_1, ex4_1, hf⟩ := zx_lt_some hf
  refine zr_istore h d_T_readBlock_31 rfl (by decide) ex4_1 rfl ?_
  refine zr_iload_n h d_T_readBlock_33 rfl rfl 2 rfl ?_
  rcases zx_if_some hf with ⟨hc_2, hf⟩ | ⟨hc_2, hf⟩
  · refine zr_if_le_t (tgt := 63) h d_T_readBlock_34 rfl hc_2 ?_
    refine zr_sub [1, 2, 3, 4, 0] rfl ?_
    exact z_T_readBlock_63 h hE x1 x2 x3 x4_1 G hf
  · refine zr_if_le_f h 63 d_T_readBlock_34 rfl rfl hc_2 ?_
    refine zr_aload_n h d_T_readBlock_37 rfl rfl 1 rfl ?_
    refine zr_getR h d_T_readBlock_38 rfl fl_T_23 sh_21 rfl ?_
    refine zr_aload_n h d_T_readBlock_41 rfl rfl 1 rfl ?_
    refine zr_getR h d_T_readBlock_42 rfl fl_T_23 sh_21 rfl ?_
    refine zr_iload_n h d_T_readBlock_45 rfl rfl 2 rfl ?_
    refine zr_iconst (v := (1 : Int32)) h d_T_readBlock_46 rfl (by decide) ?_
    refine zr_isub h d_T_readBlock_47 rfl ?_
    refine zr_iload_n h d_T_readBlock_48 rfl rfl 3 rfl ?_
    obtain ⟨r_4, G_3, hq_5, hf⟩ := zx_bd_some hf
    refine zr_callVI (As := [.int (x1 - (1 : Int32)), .int x2]) (b := 17) h (c_P_ownerAt _ _ _ _ _ (x1 - (1 : Int32)) x2 G r_4 G_3 hq_5) cc_T_96 d_T_readBlock_49 rfl rfl rfl sh_17 ⟨rfl, rfl, by decide, by decide⟩ (Nat.le_of_ble_eq_true rfl) ?_
    refine zr_iconst (v := (1 : Int32)) h d_T_readBlock_52 rfl (by decide) ?_
    obtain ⟨r_7, G_6, hq_8, hf⟩ := zx_bd_some hf
    refine zr_callVI (As := [.int r_4, .int (1 : Int32)]) (b := 17) h (c_P_tellOf _ _ _ _ _ r_4 (1 : Int32) G_3 r_7 G_6 hq_8) cc_T_100 d_T_readBlock_53 rfl rfl rfl sh_17 ⟨rfl, rfl, by decide, by decide⟩ (Nat.le_of_ble_eq_true rfl) ?_
    rcases zx_if_some hf with ⟨hc_9, hf⟩ | ⟨hc_9, hf⟩
    · refine zr_if_eq_t (tgt := 63) h d_T_readBlock_56 rfl hc_9 ?_
      refine zr_sub [1, 2, 3, 4, 0] rfl ?_
      exact z_T_readBlock_63 h hE x1 x2 x3 x4_1 G_6 hf
    · refine zr_if_eq_f h 63 d_T_readBlock_56 rfl rfl hc_9 ?_
      refine zr_iconst (v := (1 : Int32)) h d_T_readBlock_59 rfl (by decide) ?_
      refine zr_goto (tgt := 64) h d_T_readBlock_60 rfl ?_
      refine zr_sub [1, 2, 3, 4, 0] rfl ?_
      exact z_T_readBlock_64 h hE x1 x2 x3 x4_1 (1 : Int32) G_6 hf
set_option maxRecDepth 100000 in
set_option maxHeartbeats 4000000 in
theorem z_T_readBlock_30 {κ : zx_K} {ad : Nat → Nat} {r : Int32} {G1 : zx_G} (h : zx_C M_T_readBlock κ ad) (hE : zx_E M_T_readBlock κ ad r G1) (x1 x2 x3 : Int32) (G : zx_G) (hf : f_T_readBlock_30 x1 x2 x3 G = some (r, G1)) : zx_Z κ ad 30 [(0, .ref (ad 21)), (1, .int x1), (2, .int x2), (3, .int x3)] [] G := by
  unfold f_T_readBlock_30 at hf
  refine zr_iconst (v := (0 : Int32)) h d_T_readBlock_30 rfl (by decide) ?_
  exact z_T_readBlock_31 h hE x1 x2 x3 (0 : Int32) G hf
set_option maxRecDepth 100000 in
set_option maxHeartbeats 4000000 in
theorem z_T_readBlock_0 {κ : zx_K} {ad : Nat → Nat} {r : Int32} {G1 : zx_G} (h : zx_C M_T_readBlock κ ad) (hE : zx_E M_T_readBlock κ ad r G1) (x1 x2 x3 : Int32) (G : zx_G) (hf : f_T_readBlock x1 x2 x3 G = some (r, G1)) : zx_Z κ ad 0 [(0, .ref (ad 21)), (1, .int x1), (2, .int x2), (3, .int x3)] [] G := by
  unfold f_T_readBlock at hf
  refine zr_iload_n h d_T_readBlock_0 rfl rfl 2 rfl ?_
  rcases zx_if_some hf with ⟨hc_1, hf⟩ | ⟨hc_1, hf⟩
  · refine zr_if_le_t (tgt := 30) h d_T_readBlock_1 rfl hc_1 ?_
    exact z_T_readBlock_30 h hE x1 x2 x3 G hf
  · refine zr_if_le_f h 30 d_T_readBlock_1 rfl rfl hc_1 ?_
    refine zr_aload_n h d_T_readBlock_4 rfl rfl 0 rfl ?_
    refine zr_getR h d_T_readBlock_5 rfl fl_T_23 sh_21 rfl ?_
    refine zr_aload_n h d_T_readBlock_8 rfl rfl 0 rfl ?_
    refine zr_getR h d_T_readBlock_9 rfl fl_T_23 sh_21 rfl ?_
    refine zr_iload_n h d_T_readBlock_12 rfl rfl 1 rfl ?_
    refine zr_iload_n h d_T_readBlock_13 rfl rfl 2 rfl ?_
    refine zr_iconst (v := (1 : Int32)) h d_T_readBlock_14 rfl (by decide) ?_
    refine zr_isub h d_T_readBlock_15 rfl ?_
    obtain ⟨r_3, G_2, hq_4, hf⟩ := zx_bd_some hf
    refine zr_callVI (As := [.int x1, .int (x2 - (1 : Int32))]) (b := 17) h (c_P_ownerAt _ _ _ _ _ x1 (x2 - (1 : Int32)) G r_3 G_2 hq_4) cc_T_96 d_T_readBlock_16 rfl rfl rfl sh_17 ⟨rfl, rfl, by decide, by decide⟩ (Nat.le_of_ble_eq_true rfl) ?_
    refine zr_iconst (v := (1 : Int32)) h d_T_readBlock_19 rfl (by decide) ?_
    obtain ⟨r_6, G_5, hq_7, hf⟩ := zx_bd_some hf
    refine zr_callVI (As := [.int r_3, .int (1 : Int32)]) (b := 17) h (c_P_tellOf _ _ _ _ _ r_3 (1 : Int32) G_2 r_6 G_5 hq_7) cc_T_100 d_T_readBlock_20 rfl rfl rfl sh_17 ⟨rfl, rfl, by decide, by decide⟩ (Nat.le_of_ble_eq_true rfl) ?_
    rcases zx_if_some hf with ⟨hc_8, hf⟩ | ⟨hc_8, hf⟩
    · refine zr_if_eq_t (tgt := 30) h d_T_readBlock_23 rfl hc_8 ?_
      exact z_T_readBlock_30 h hE x1 x2 x3 G_5 hf
    · refine zr_if_eq_f h 30 d_T_readBlock_23 rfl rfl hc_8 ?_
      refine zr_iconst (v := (1 : Int32)) h d_T_readBlock_26 rfl (by decide) ?_
      refine zr_goto (tgt := 31) h d_T_readBlock_27 rfl ?_
      exact z_T_readBlock_31 h hE x1 x2 x3 (1 : Int32) G_5 hf
theorem c_T_readBlock (l : Launch) (D : va_G) (cA : ClassId) (ad : Nat → Nat) (A : Nat → Prop) (x1 x2 x3 : Int32) (G : zx_G) (r : Int32) (G1 : zx_G) (hf : f_T_readBlock x1 x2 x3 G = some (r, G1)) : zx_met l y_T_readBlock M_T_readBlock [.ref (ad 21), .int x1, .int x2, .int x3] D cA ad A G r G1 :=
  zx_toMet (by decide) rfl (Nat.le_of_ble_eq_true rfl) (fun κ h hE => by exact z_T_readBlock_0 h hE x1 x2 x3 G hf)

def f_A_fill_16_5 : Nat → Int32 → Int32 → Int32 → zx_G → Option (Int32 × zx_G)
  | 0, _, _, _, _ => none
  | n + 1, x1, x2, x3, G =>
    zx_if (x3 ≤ x2)
      (some ((0 : Int32), G))
      (zx_gd (zx_in x2 19) <|
      zx_lt (zx_up G 16 (Int32.toNatClampNeg x2) x1) fun G_3 =>
      zx_lt (x2 + (1 : Int32)) fun x2_4 =>
      f_A_fill_16_5 n x1 x2_4 x3 G_3)
def f_A_fill_16 (x1 : Int32) (G : zx_G) : Option (Int32 × zx_G) :=
  zx_lt (0 : Int32) fun x2_1 =>
  zx_lt (19 : Int32) fun x3_2 =>
  f_A_fill_16_5 2048 x1 x2_1 x3_2 G
set_option maxRecDepth 100000 in
set_option maxHeartbeats 4000000 in
theorem z_A_fill_16_5 {κ : zx_K} {ad : Nat → Nat} {r : Int32} {G1 : zx_G} (h : zx_C M_A_fill κ ad) (hE : zx_E M_A_fill κ ad r G1) : ∀ (n : Nat) (x1 x2 x3 : Int32) (G : zx_G), f_A_fill_16_5 n x1 x2 x3 G = some (r, G1) → zx_Z κ ad 5 [(0, .ref (ad 16)), (1, .int x1), (2, .int x2), (3, .int x3)] [] G := by
  intro n
  induction n with
  | zero => intro x1 x2 x3 G hf; cases hf
  | succ n ih =>
    intro x1 x2 x3 G hf
    unfold f_A_fill_16_5 at hf
    refine zr_iload_n h d_A_fill_5 rfl rfl 2 rfl ?_
    refine zr_iload_n h d_A_fill_6 rfl rfl 3 rfl ?_
    rcases zx_if_some hf with ⟨hc_1, hf⟩ | ⟨hc_1, hf⟩
    · refine zr_icmp_ge_t (tgt := 20) h d_A_fill_7 rfl hc_1 ?_
      exact zr_vret h hE d_A_fill_20 rfl hf
    · refine zr_icmp_ge_f h 20 d_A_fill_7 rfl rfl hc_1 ?_
      refine zr_aload_n h d_A_fill_10 rfl rfl 0 rfl ?_
      refine zr_iload_n h d_A_fill_11 rfl rfl 2 rfl ?_
      refine zr_iload_n h d_A_fill_12 rfl rfl 1 rfl ?_
      obtain ⟨hb_2, hf⟩ := zx_gd_some hf
      obtain ⟨G_3, eG_3, hf⟩ := zx_lt_some hf
      refine zr_iast h d_A_fill_13 rfl sh_16 hb_2 eG_3 ?_
      obtain ⟨x2_4, ex2_4, hf⟩ := zx_lt_some hf
      refine zr_iinc (j := 2) h d_A_fill_14 rfl rfl (by decide) ex2_4 (by decide) rfl ?_
      refine zr_goto (tgt := 5) h d_A_fill_17 rfl ?_
      refine zr_sub [1, 2, 0, 3] rfl ?_
      exact ih x1 x2_4 x3 G_3 hf
set_option maxRecDepth 100000 in
set_option maxHeartbeats 4000000 in
theorem z_A_fill_16_0 {κ : zx_K} {ad : Nat → Nat} {r : Int32} {G1 : zx_G} (h : zx_C M_A_fill κ ad) (hE : zx_E M_A_fill κ ad r G1) (x1 : Int32) (G : zx_G) (hf : f_A_fill_16 x1 G = some (r, G1)) : zx_Z κ ad 0 [(0, .ref (ad 16)), (1, .int x1)] [] G := by
  unfold f_A_fill_16 at hf
  refine zr_iconst (v := (0 : Int32)) h d_A_fill_0 rfl (by decide) ?_
  obtain ⟨x2_1, ex2_1, hf⟩ := zx_lt_some hf
  refine zr_istore_n h d_A_fill_1 rfl rfl (by decide) ex2_1 rfl ?_
  refine zr_aload_n h d_A_fill_2 rfl rfl 1 rfl ?_
  refine zr_alen (v := (19 : Int32)) h d_A_fill_3 rfl sh_16 (by decide) ?_
  obtain ⟨x3_2, ex3_2, hf⟩ := zx_lt_some hf
  refine zr_istore_n h d_A_fill_4 rfl rfl (by decide) ex3_2 rfl ?_
  refine zr_sub [2, 3, 1, 0] rfl ?_
  exact z_A_fill_16_5 h hE 2048 x1 x2_1 x3_2 G hf
theorem c_A_fill_16 (l : Launch) (D : va_G) (cA : ClassId) (ad : Nat → Nat) (A : Nat → Prop) (x1 : Int32) (G : zx_G) (r : Int32) (G1 : zx_G) (hf : f_A_fill_16 x1 G = some (r, G1)) : zx_met l y_A_fill M_A_fill [.ref (ad 16), .int x1] D cA ad A G r G1 :=
  zx_toMet (by decide) rfl (Nat.le_of_ble_eq_true rfl) (fun κ h hE => by exact z_A_fill_16_0 h hE x1 G hf)

def f_C_start_53 (k43 : Int32 → zx_G → Option (Int32 × zx_G)) : Nat → Int32 → Int32 → zx_G → Option (Int32 × zx_G)
  | 0, _, _, _ => none
  | n + 1, x4, x5, G =>
    zx_gd (zx_in x4 19) <|
    zx_if ((zx_tab0 (Int32.toNatClampNeg x4)) ≤ x5)
      (zx_lt (x4 + (1 : Int32)) fun x4_3 =>
      k43 x4_3 G)
      (zx_gd (zx_in x4 19) <|
      zx_gd (zx_nz (zx_tab0 (Int32.toNatClampNeg x4))) <|
      zx_gd (zx_in ((x4 * (16 : Int32)) + x5) 304) <|
      zx_lt (zx_up G 15 (Int32.toNatClampNeg ((x4 * (16 : Int32)) + x5)) (zx_div ((32768 : Int32) * (x5 + (1 : Int32))) (zx_tab0 (Int32.toNatClampNeg x4)))) fun G_7 =>
      zx_lt (x5 + (1 : Int32)) fun x5_8 =>
      f_C_start_53 k43 n x4 x5_8 G_7)
def f_C_start_122 : Nat → Int32 → zx_G → Option (Int32 × zx_G)
  | 0, _, _ => none
  | n + 1, x4, G =>
    zx_if ((15 : Int32) ≤ x4)
      (some ((0 : Int32), G))
      (zx_bd (f_C_takeBit G) fun r_3 G_2 =>
      zx_lt (x4 + (1 : Int32)) fun x4_5 =>
      f_C_start_122 n x4_5 G_2)
def f_C_start_43 : Nat → Int32 → zx_G → Option (Int32 × zx_G)
  | 0, _, _ => none
  | n + 1, x4, G =>
    zx_if ((19 : Int32) ≤ x4)
      (zx_lt (zx_up G 14 6 (32768 : Int32)) fun G_2 =>
      zx_lt (zx_up G_2 14 7 (0 : Int32)) fun G_3 =>
      zx_lt (zx_up G_3 14 8 (0 : Int32)) fun G_4 =>
      zx_lt (0 : Int32) fun x4_5 =>
      f_C_start_122 2048 x4_5 G_4)
      (zx_lt (0 : Int32) fun x5_6 =>
      f_C_start_53 (f_C_start_43 n) 2048 x4 x5_6 G)
def f_C_start (x1 x2 x3 : Int32) (G : zx_G) : Option (Int32 × zx_G) :=
  zx_lt (zx_up G 14 3 (zx_mmax x1 (0 : Int32))) fun G_1 =>
  zx_lt (zx_up G_1 14 4 (zx_mmin x2 (200 : Int32))) fun G_2 =>
  zx_gd (zx_01 x3) <|
  zx_lt (zx_up G_2 14 5 x3) fun G_4 =>
  zx_lt (zx_up G_4 14 9 (0 : Int32)) fun G_5 =>
  zx_bd (f_A_fill_16 (0 : Int32) G_5) fun r_7 G_6 =>
  zx_lt (0 : Int32) fun x4_9 =>
  f_C_start_43 2048 x4_9 G_6
set_option maxRecDepth 100000 in
set_option maxHeartbeats 4000000 in
theorem z_C_start_53 {κ : zx_K} {ad : Nat → Nat} {r : Int32} {G1 : zx_G} (h : zx_C M_C_start κ ad) (hE : zx_E M_C_start κ ad r G1) {k43 : Int32 → zx_G → Option (Int32 × zx_G)} (hk43 : ∀ (x4 : Int32) (G : zx_G), k43 x4 G = some (r, G1) → zx_Z κ ad 43 [(0, .ref (ad 14)), (4, .int x4)] [] G) : ∀ (n : Nat) (x4 x5 : Int32) (G : zx_G), f_C_start_53 k43 n x4 x5 G = some (r, G1) → zx_Z κ ad 53 [(0, .ref (ad 14)), (4, .int x4), (5, .int x5)] [] G := by
  intro n
  induction n with
  | zero => intro x4 x5 G hf; cases hf
  | succ n ih =>
    intro x4 x5 G hf
    unfold f_C_start_53 at hf
    refine zr_iload h d_C_start_53 rfl 2 rfl ?_
    refine zr_gets0 h d_C_start_55 rfl sl_C_48 ?_
    refine zr_iload h d_C_start_58 rfl 1 rfl ?_
    obtain ⟨hb_1, hf⟩ := zx_gd_some hf
    refine zr_tald0 h d_C_start_60 rfl hb_1 ?_
    rcases zx_if_some hf with ⟨hc_2, hf⟩ | ⟨hc_2, hf⟩
    · refine zr_icmp_ge_t (tgt := 97) h d_C_start_61 rfl hc_2 ?_
      obtain ⟨x4_3, ex4_3, hf⟩ := zx_lt_some hf
      refine zr_iinc (j := 1) h d_C_start_97 rfl rfl (by decide) ex4_3 (by decide) rfl ?_
      refine zr_goto (tgt := 43) h d_C_start_100 rfl ?_
      refine zr_sub [1, 0] rfl ?_
      exact hk43 x4_3 G hf
    · refine zr_icmp_ge_f h 97 d_C_start_61 rfl rfl hc_2 ?_
      refine zr_aload_n h d_C_start_64 rfl rfl 0 rfl ?_
      refine zr_getR h d_C_start_65 rfl fl_C_9 sh_14 rfl ?_
      refine zr_iload h d_C_start_68 rfl 1 rfl ?_
      refine zr_bipush (v := (16 : Int32)) h d_C_start_70 rfl (by decide) ?_
      refine zr_imul h d_C_start_72 rfl ?_
      refine zr_iload h d_C_start_73 rfl 2 rfl ?_
      refine zr_iadd h d_C_start_75 rfl ?_
      refine zr_ldc (v := (32768 : Int32)) h d_C_start_76 rfl ct_C_51 ?_
      refine zr_iload h d_C_start_78 rfl 2 rfl ?_
      refine zr_iconst (v := (1 : Int32)) h d_C_start_80 rfl (by decide) ?_
      refine zr_iadd h d_C_start_81 rfl ?_
      refine zr_imul h d_C_start_82 rfl ?_
      refine zr_gets0 h d_C_start_83 rfl sl_C_48 ?_
      refine zr_iload h d_C_start_86 rfl 1 rfl ?_
      obtain ⟨hb_4, hf⟩ := zx_gd_some hf
      refine zr_tald0 h d_C_start_88 rfl hb_4 ?_
      obtain ⟨hb_5, hf⟩ := zx_gd_some hf
      refine zr_idiv h d_C_start_89 rfl (zx_nz_ne hb_5) ?_
      obtain ⟨hb_6, hf⟩ := zx_gd_some hf
      obtain ⟨G_7, eG_7, hf⟩ := zx_lt_some hf
      refine zr_iast h d_C_start_90 rfl sh_15 hb_6 eG_7 ?_
      obtain ⟨x5_8, ex5_8, hf⟩ := zx_lt_some hf
      refine zr_iinc (j := 2) h d_C_start_91 rfl rfl (by decide) ex5_8 (by decide) rfl ?_
      refine zr_goto (tgt := 53) h d_C_start_94 rfl ?_
      refine zr_sub [1, 2, 0] rfl ?_
      exact ih x4 x5_8 G_7 hf
set_option maxRecDepth 100000 in
set_option maxHeartbeats 4000000 in
theorem z_C_start_122 {κ : zx_K} {ad : Nat → Nat} {r : Int32} {G1 : zx_G} (h : zx_C M_C_start κ ad) (hE : zx_E M_C_start κ ad r G1) : ∀ (n : Nat) (x4 : Int32) (G : zx_G), f_C_start_122 n x4 G = some (r, G1) → zx_Z κ ad 122 [(0, .ref (ad 14)), (4, .int x4)] [] G := by
  intro n
  induction n with
  | zero => intro x4 G hf; cases hf
  | succ n ih =>
    intro x4 G hf
    unfold f_C_start_122 at hf
    refine zr_iload h d_C_start_122 rfl 1 rfl ?_
    refine zr_bipush (v := (15 : Int32)) h d_C_start_124 rfl (by decide) ?_
    rcases zx_if_some hf with ⟨hc_1, hf⟩ | ⟨hc_1, hf⟩
    · refine zr_icmp_ge_t (tgt := 139) h d_C_start_126 rfl hc_1 ?_
      exact zr_vret h hE d_C_start_139 rfl hf
    · refine zr_icmp_ge_f h 139 d_C_start_126 rfl rfl hc_1 ?_
      refine zr_aload_n h d_C_start_129 rfl rfl 0 rfl ?_
      obtain ⟨r_3, G_2, hq_4, hf⟩ := zx_bd_some hf
      refine zr_callVV (As := []) (b := 14) h (c_C_takeBit _ _ _ _ _ G r_3 G_2 hq_4) cc_C_61 d_C_start_130 rfl rfl rfl sh_14 ⟨rfl, rfl, by decide, by decide⟩ (Nat.le_of_ble_eq_true rfl) ?_
      obtain ⟨x4_5, ex4_5, hf⟩ := zx_lt_some hf
      refine zr_iinc (j := 1) h d_C_start_133 rfl rfl (by decide) ex4_5 (by decide) rfl ?_
      refine zr_goto (tgt := 122) h d_C_start_136 rfl ?_
      refine zr_sub [1, 0] rfl ?_
      exact ih x4_5 G_2 hf
set_option maxRecDepth 100000 in
set_option maxHeartbeats 4000000 in
theorem z_C_start_43 {κ : zx_K} {ad : Nat → Nat} {r : Int32} {G1 : zx_G} (h : zx_C M_C_start κ ad) (hE : zx_E M_C_start κ ad r G1) : ∀ (n : Nat) (x4 : Int32) (G : zx_G), f_C_start_43 n x4 G = some (r, G1) → zx_Z κ ad 43 [(0, .ref (ad 14)), (4, .int x4)] [] G := by
  intro n
  induction n with
  | zero => intro x4 G hf; cases hf
  | succ n ih =>
    intro x4 G hf
    unfold f_C_start_43 at hf
    refine zr_iload h d_C_start_43 rfl 1 rfl ?_
    refine zr_bipush (v := (19 : Int32)) h d_C_start_45 rfl (by decide) ?_
    rcases zx_if_some hf with ⟨hc_1, hf⟩ | ⟨hc_1, hf⟩
    · refine zr_icmp_ge_t (tgt := 103) h d_C_start_47 rfl hc_1 ?_
      refine zr_aload_n h d_C_start_103 rfl rfl 0 rfl ?_
      refine zr_ldc (v := (32768 : Int32)) h d_C_start_104 rfl ct_C_51 ?_
      obtain ⟨G_2, eG_2, hf⟩ := zx_lt_some hf
      refine zr_putI h d_C_start_106 rfl fl_C_52 pl_C_6 sh_14 rfl rfl rfl eG_2 ?_
      refine zr_aload_n h d_C_start_109 rfl rfl 0 rfl ?_
      refine zr_iconst (v := (0 : Int32)) h d_C_start_110 rfl (by decide) ?_
      obtain ⟨G_3, eG_3, hf⟩ := zx_lt_some hf
      refine zr_putI h d_C_start_111 rfl fl_C_55 pl_C_7 sh_14 rfl rfl rfl eG_3 ?_
      refine zr_aload_n h d_C_start_114 rfl rfl 0 rfl ?_
      refine zr_iconst (v := (0 : Int32)) h d_C_start_115 rfl (by decide) ?_
      obtain ⟨G_4, eG_4, hf⟩ := zx_lt_some hf
      refine zr_putI h d_C_start_116 rfl fl_C_58 pl_C_8 sh_14 rfl rfl rfl eG_4 ?_
      refine zr_iconst (v := (0 : Int32)) h d_C_start_119 rfl (by decide) ?_
      obtain ⟨x4_5, ex4_5, hf⟩ := zx_lt_some hf
      refine zr_istore h d_C_start_120 rfl (by decide) ex4_5 rfl ?_
      refine zr_sub [1, 0] rfl ?_
      exact z_C_start_122 h hE 2048 x4_5 G_4 hf
    · refine zr_icmp_ge_f h 103 d_C_start_47 rfl rfl hc_1 ?_
      refine zr_iconst (v := (0 : Int32)) h d_C_start_50 rfl (by decide) ?_
      obtain ⟨x5_6, ex5_6, hf⟩ := zx_lt_some hf
      refine zr_istore h d_C_start_51 rfl (by decide) ex5_6 rfl ?_
      refine zr_sub [1, 2, 0] rfl ?_
      exact z_C_start_53 h hE ih 2048 x4 x5_6 G hf
set_option maxRecDepth 100000 in
set_option maxHeartbeats 4000000 in
theorem z_C_start_0 {κ : zx_K} {ad : Nat → Nat} {r : Int32} {G1 : zx_G} (h : zx_C M_C_start κ ad) (hE : zx_E M_C_start κ ad r G1) (x1 x2 x3 : Int32) (G : zx_G) (hf : f_C_start x1 x2 x3 G = some (r, G1)) : zx_Z κ ad 0 [(0, .ref (ad 14)), (1, .int x1), (2, .int x2), (3, .int x3)] [] G := by
  unfold f_C_start at hf
  refine zr_aload_n h d_C_start_0 rfl rfl 0 rfl ?_
  refine zr_iload_n h d_C_start_1 rfl rfl 1 rfl ?_
  refine zr_iconst (v := (0 : Int32)) h d_C_start_2 rfl (by decide) ?_
  refine zr_mmax h d_C_start_3 rfl cc_C_19 (by decide) (Nat.le_of_ble_eq_true rfl) ?_
  obtain ⟨G_1, eG_1, hf⟩ := zx_lt_some hf
  refine zr_putI h d_C_start_6 rfl fl_C_25 pl_C_3 sh_14 rfl rfl rfl eG_1 ?_
  refine zr_aload_n h d_C_start_9 rfl rfl 0 rfl ?_
  refine zr_iload_n h d_C_start_10 rfl rfl 2 rfl ?_
  refine zr_aload_n h d_C_start_11 rfl rfl 0 rfl ?_
  refine zr_getR h d_C_start_12 rfl fl_C_16 sh_14 rfl ?_
  refine zr_alen (v := (200 : Int32)) h d_C_start_15 rfl sh_9 (by decide) ?_
  refine zr_mmin h d_C_start_16 rfl cc_C_29 (by decide) (Nat.le_of_ble_eq_true rfl) ?_
  obtain ⟨G_2, eG_2, hf⟩ := zx_lt_some hf
  refine zr_putI h d_C_start_19 rfl fl_C_32 pl_C_4 sh_14 rfl rfl rfl eG_2 ?_
  refine zr_aload_n h d_C_start_22 rfl rfl 0 rfl ?_
  refine zr_iload_n h d_C_start_23 rfl rfl 3 rfl ?_
  obtain ⟨hb_3, hf⟩ := zx_gd_some hf
  obtain ⟨G_4, eG_4, hf⟩ := zx_lt_some hf
  refine zr_putI h d_C_start_24 rfl fl_C_35 pl_C_5 sh_14 rfl (zx_01_n hb_3) (zx_01_f hb_3) eG_4 ?_
  refine zr_aload_n h d_C_start_27 rfl rfl 0 rfl ?_
  refine zr_iconst (v := (0 : Int32)) h d_C_start_28 rfl (by decide) ?_
  obtain ⟨G_5, eG_5, hf⟩ := zx_lt_some hf
  refine zr_putI h d_C_start_29 rfl fl_C_39 pl_C_9 sh_14 rfl rfl rfl eG_5 ?_
  refine zr_aload_n h d_C_start_32 rfl rfl 0 rfl ?_
  refine zr_getR h d_C_start_33 rfl fl_C_13 sh_14 rfl ?_
  refine zr_iconst (v := (0 : Int32)) h d_C_start_36 rfl (by decide) ?_
  obtain ⟨r_7, G_6, hq_8, hf⟩ := zx_bd_some hf
  refine zr_callSV (As := [.ref (ad 16), .int (0 : Int32)]) h (c_A_fill_16 _ _ _ _ _ (0 : Int32) G_5 r_7 G_6 hq_8) cc_C_42 d_C_start_37 rfl rfl rfl ⟨rfl, by decide, by decide⟩ (Nat.le_of_ble_eq_true rfl) ?_
  refine zr_iconst (v := (0 : Int32)) h d_C_start_40 rfl (by decide) ?_
  obtain ⟨x4_9, ex4_9, hf⟩ := zx_lt_some hf
  refine zr_istore h d_C_start_41 rfl (by decide) ex4_9 rfl ?_
  refine zr_sub [1, 0] rfl ?_
  exact z_C_start_43 h hE 2048 x4_9 G_6 hf
theorem c_C_start (l : Launch) (D : va_G) (cA : ClassId) (ad : Nat → Nat) (A : Nat → Prop) (x1 x2 x3 : Int32) (G : zx_G) (r : Int32) (G1 : zx_G) (hf : f_C_start x1 x2 x3 G = some (r, G1)) : zx_met l y_C_start M_C_start [.ref (ad 14), .int x1, .int x2, .int x3] D cA ad A G r G1 :=
  zx_toMet (by decide) rfl (Nat.le_of_ble_eq_true rfl) (fun κ h hE => by exact z_C_start_0 h hE x1 x2 x3 G hf)

def f_P_start (x1 : Int32) (G : zx_G) : Option (Int32 × zx_G) :=
  zx_lt (zx_up G 17 3 (0 : Int32)) fun G_1 =>
  zx_lt (zx_up G_1 17 4 (((1 : Int32) <<< (x1 &&& 31)) - (1 : Int32))) fun G_2 =>
  some ((0 : Int32), G_2)
set_option maxRecDepth 100000 in
set_option maxHeartbeats 4000000 in
theorem z_P_start_0 {κ : zx_K} {ad : Nat → Nat} {r : Int32} {G1 : zx_G} (h : zx_C M_P_start κ ad) (hE : zx_E M_P_start κ ad r G1) (x1 : Int32) (G : zx_G) (hf : f_P_start x1 G = some (r, G1)) : zx_Z κ ad 0 [(0, .ref (ad 17)), (1, .int x1)] [] G := by
  unfold f_P_start at hf
  refine zr_aload_n h d_P_start_0 rfl rfl 0 rfl ?_
  refine zr_iconst (v := (0 : Int32)) h d_P_start_1 rfl (by decide) ?_
  obtain ⟨G_1, eG_1, hf⟩ := zx_lt_some hf
  refine zr_putI h d_P_start_2 rfl fl_P_19 pl_P_3 sh_17 rfl rfl rfl eG_1 ?_
  refine zr_aload_n h d_P_start_5 rfl rfl 0 rfl ?_
  refine zr_iconst (v := (1 : Int32)) h d_P_start_6 rfl (by decide) ?_
  refine zr_iload_n h d_P_start_7 rfl rfl 1 rfl ?_
  refine zr_ishl h d_P_start_8 rfl ?_
  refine zr_iconst (v := (1 : Int32)) h d_P_start_9 rfl (by decide) ?_
  refine zr_isub h d_P_start_10 rfl ?_
  obtain ⟨G_2, eG_2, hf⟩ := zx_lt_some hf
  refine zr_putI h d_P_start_11 rfl fl_P_23 pl_P_4 sh_17 rfl rfl rfl eG_2 ?_
  exact zr_vret h hE d_P_start_14 rfl hf
theorem c_P_start (l : Launch) (D : va_G) (cA : ClassId) (ad : Nat → Nat) (A : Nat → Prop) (x1 : Int32) (G : zx_G) (r : Int32) (G1 : zx_G) (hf : f_P_start x1 G = some (r, G1)) : zx_met l y_P_start M_P_start [.ref (ad 17), .int x1] D cA ad A G r G1 :=
  zx_toMet (by decide) rfl (Nat.le_of_ble_eq_true rfl) (fun κ h hE => by exact z_P_start_0 h hE x1 G hf)

def f_T_read_171 (k46 : Int32 → Int32 → zx_G → Option (Int32 × zx_G)) (x1 x2 : Int32) (G : zx_G) : Option (Int32 × zx_G) :=
  zx_lt (x2 + (1 : Int32)) fun x2_1 =>
  k46 x1 x2_1 G
def f_T_read_136 (k46 : Int32 → Int32 → zx_G → Option (Int32 × zx_G)) : Nat → Int32 → Int32 → Int32 → Int32 → Int32 → Int32 → zx_G → Option (Int32 × zx_G)
  | 0, _, _, _, _, _, _, _ => none
  | n + 1, x1, x2, x3, x4, x6, x7, G =>
    zx_if ((G 11 6) ≤ x7)
      (f_T_read_171 k46 x1 x2 G)
      (zx_bd (f_T_readUnits x7 x3 x4 x6 G) fun r_3 G_2 =>
      zx_if (¬ r_3 = 0)
        (zx_lt (x7 + (1 : Int32)) fun x7_6 =>
        f_T_read_136 k46 n x1 x2 x3 x4 x6 x7_6 G_2)
        (some ((8 : Int32), G_2)))
def f_T_read_46 : Nat → Int32 → Int32 → zx_G → Option (Int32 × zx_G)
  | 0, _, _, _ => none
  | n + 1, x1, x2, G =>
    zx_if ((16 : Int32) ≤ x2)
      (some ((0 : Int32), G))
      (zx_lt (((4 : Int32) * (x2 &&& (1 : Int32))) + ((2 : Int32) * (x2 &&& (4 : Int32)))) fun x3_2 =>
      zx_lt (((2 : Int32) * (x2 &&& (2 : Int32))) + (x2 &&& (8 : Int32))) fun x4_3 =>
      zx_if (x2 < x1)
        (f_T_read_171 (f_T_read_46 n) x1 x2 G)
        (zx_if ((G 11 7) ≤ x3_2)
          (f_T_read_171 (f_T_read_46 n) x1 x2 G)
          (zx_if ((G 11 8) ≤ x4_3)
            (f_T_read_171 (f_T_read_46 n) x1 x2 G)
            (zx_bd (f_T_readSide x2 G) fun r_8 G_7 =>
            zx_lt r_8 fun x5_10 =>
            zx_gd (zx_nz (16 : Int32)) <|
            zx_lt (x2 + (zx_div (x5_10 * x5_10) (16 : Int32))) fun x1_12 =>
            zx_bd (f_T_readBlock x3_2 x4_3 x5_10 G_7) fun r_14 G_13 =>
            zx_lt r_14 fun x6_16 =>
            zx_lt (0 : Int32) fun x7_17 =>
            f_T_read_136 (f_T_read_46 n) 2048 x1_12 x2 x3_2 x4_3 x6_16 x7_17 G_13))))
def f_T_read (G : zx_G) : Option (Int32 × zx_G) :=
  zx_bd (f_C_start (G 11 14) (G 11 15) (G 11 11) G) fun r_2 G_1 =>
  zx_bd (f_P_start (G_1 11 9) G_1) fun r_5 G_4 =>
  zx_lt (0 : Int32) fun x1_7 =>
  zx_lt (0 : Int32) fun x2_8 =>
  f_T_read_46 2048 x1_7 x2_8 G_4
set_option maxRecDepth 100000 in
set_option maxHeartbeats 4000000 in
theorem z_T_read_171 {κ : zx_K} {ad : Nat → Nat} {r : Int32} {G1 : zx_G} (h : zx_C M_T_read κ ad) (hE : zx_E M_T_read κ ad r G1) {k46 : Int32 → Int32 → zx_G → Option (Int32 × zx_G)} (hk46 : ∀ (x1 x2 : Int32) (G : zx_G), k46 x1 x2 G = some (r, G1) → zx_Z κ ad 46 [(0, .ref (ad 21)), (1, .int x1), (2, .int x2)] [] G) (x1 x2 : Int32) (G : zx_G) (hf : f_T_read_171 k46 x1 x2 G = some (r, G1)) : zx_Z κ ad 171 [(0, .ref (ad 21)), (1, .int x1), (2, .int x2)] [] G := by
  unfold f_T_read_171 at hf
  obtain ⟨x2_1, ex2_1, hf⟩ := zx_lt_some hf
  refine zr_iinc (j := 2) h d_T_read_171 rfl rfl (by decide) ex2_1 (by decide) rfl ?_
  refine zr_goto (tgt := 46) h d_T_read_174 rfl ?_
  refine zr_sub [1, 2, 0] rfl ?_
  exact hk46 x1 x2_1 G hf
set_option maxRecDepth 100000 in
set_option maxHeartbeats 4000000 in
theorem z_T_read_136 {κ : zx_K} {ad : Nat → Nat} {r : Int32} {G1 : zx_G} (h : zx_C M_T_read κ ad) (hE : zx_E M_T_read κ ad r G1) {k46 : Int32 → Int32 → zx_G → Option (Int32 × zx_G)} (hk46 : ∀ (x1 x2 : Int32) (G : zx_G), k46 x1 x2 G = some (r, G1) → zx_Z κ ad 46 [(0, .ref (ad 21)), (1, .int x1), (2, .int x2)] [] G) : ∀ (n : Nat) (x1 x2 x3 x4 x6 x7 : Int32) (G : zx_G), f_T_read_136 k46 n x1 x2 x3 x4 x6 x7 G = some (r, G1) → zx_Z κ ad 136 [(0, .ref (ad 21)), (1, .int x1), (2, .int x2), (3, .int x3), (4, .int x4), (6, .int x6), (7, .int x7)] [] G := by
  intro n
  induction n with
  | zero => intro x1 x2 x3 x4 x6 x7 G hf; cases hf
  | succ n ih =>
    intro x1 x2 x3 x4 x6 x7 G hf
    unfold f_T_read_136 at hf
    refine zr_iload h d_T_read_136 rfl 6 rfl ?_
    refine zr_aload_n h d_T_read_138 rfl rfl 0 rfl ?_
    refine zr_getR h d_T_read_139 rfl fl_T_15 sh_21 rfl ?_
    refine zr_getI h d_T_read_142 rfl fl_T_86 sh_11 rfl ?_
    rcases zx_if_some hf with ⟨hc_1, hf⟩ | ⟨hc_1, hf⟩
    · refine zr_icmp_ge_t (tgt := 171) h d_T_read_145 rfl hc_1 ?_
      refine zr_sub [0, 1, 2] rfl ?_
      exact z_T_read_171 h hE hk46 x1 x2 G hf
    · refine zr_icmp_ge_f h 171 d_T_read_145 rfl rfl hc_1 ?_
      refine zr_aload_n h d_T_read_148 rfl rfl 0 rfl ?_
      refine zr_iload h d_T_read_149 rfl 6 rfl ?_
      refine zr_iload_n h d_T_read_151 rfl rfl 3 rfl ?_
      refine zr_iload h d_T_read_152 rfl 4 rfl ?_
      refine zr_iload h d_T_read_154 rfl 5 rfl ?_
      obtain ⟨r_3, G_2, hq_4, hf⟩ := zx_bd_some hf
      refine zr_callVI (As := [.int x7, .int x3, .int x4, .int x6]) (b := 21) h (c_T_readUnits _ _ _ _ _ x7 x3 x4 x6 G r_3 G_2 hq_4) cc_T_89 d_T_read_156 rfl rfl rfl sh_21 ⟨rfl, rfl, by decide, by decide⟩ (Nat.le_of_ble_eq_true rfl) ?_
      rcases zx_if_some hf with ⟨hc_5, hf⟩ | ⟨hc_5, hf⟩
      · refine zr_if_ne_t (tgt := 165) h d_T_read_159 rfl hc_5 ?_
        obtain ⟨x7_6, ex7_6, hf⟩ := zx_lt_some hf
        refine zr_iinc (j := 6) h d_T_read_165 rfl rfl (by decide) ex7_6 (by decide) rfl ?_
        refine zr_goto (tgt := 136) h d_T_read_168 rfl ?_
        refine zr_sub [1, 2, 3, 4, 5, 6, 0] rfl ?_
        exact ih x1 x2 x3 x4 x6 x7_6 G_2 hf
      · refine zr_if_ne_f h 165 d_T_read_159 rfl rfl hc_5 ?_
        refine zr_bipush (v := (8 : Int32)) h d_T_read_162 rfl (by decide) ?_
        exact zr_iret h hE d_T_read_164 rfl hf
set_option maxRecDepth 100000 in
set_option maxHeartbeats 4000000 in
theorem z_T_read_46 {κ : zx_K} {ad : Nat → Nat} {r : Int32} {G1 : zx_G} (h : zx_C M_T_read κ ad) (hE : zx_E M_T_read κ ad r G1) : ∀ (n : Nat) (x1 x2 : Int32) (G : zx_G), f_T_read_46 n x1 x2 G = some (r, G1) → zx_Z κ ad 46 [(0, .ref (ad 21)), (1, .int x1), (2, .int x2)] [] G := by
  intro n
  induction n with
  | zero => intro x1 x2 G hf; cases hf
  | succ n ih =>
    intro x1 x2 G hf
    unfold f_T_read_46 at hf
    refine zr_iload_n h d_T_read_46 rfl rfl 2 rfl ?_
    refine zr_bipush (v := (16 : Int32)) h d_T_read_47 rfl (by decide) ?_
    rcases zx_if_some hf with ⟨hc_1, hf⟩ | ⟨hc_1, hf⟩
    · refine zr_icmp_ge_t (tgt := 177) h d_T_read_49 rfl hc_1 ?_
      refine zr_iconst (v := (0 : Int32)) h d_T_read_177 rfl (by decide) ?_
      exact zr_iret h hE d_T_read_178 rfl hf
    · refine zr_icmp_ge_f h 177 d_T_read_49 rfl rfl hc_1 ?_
      refine zr_iconst (v := (4 : Int32)) h d_T_read_52 rfl (by decide) ?_
      refine zr_iload_n h d_T_read_53 rfl rfl 2 rfl ?_
      refine zr_iconst (v := (1 : Int32)) h d_T_read_54 rfl (by decide) ?_
      refine zr_iand h d_T_read_55 rfl ?_
      refine zr_imul h d_T_read_56 rfl ?_
      refine zr_iconst (v := (2 : Int32)) h d_T_read_57 rfl (by decide) ?_
      refine zr_iload_n h d_T_read_58 rfl rfl 2 rfl ?_
      refine zr_iconst (v := (4 : Int32)) h d_T_read_59 rfl (by decide) ?_
      refine zr_iand h d_T_read_60 rfl ?_
      refine zr_imul h d_T_read_61 rfl ?_
      refine zr_iadd h d_T_read_62 rfl ?_
      obtain ⟨x3_2, ex3_2, hf⟩ := zx_lt_some hf
      refine zr_istore_n h d_T_read_63 rfl rfl (by decide) ex3_2 rfl ?_
      refine zr_iconst (v := (2 : Int32)) h d_T_read_64 rfl (by decide) ?_
      refine zr_iload_n h d_T_read_65 rfl rfl 3 rfl ?_
      refine zr_iconst (v := (2 : Int32)) h d_T_read_66 rfl (by decide) ?_
      refine zr_iand h d_T_read_67 rfl ?_
      refine zr_imul h d_T_read_68 rfl ?_
      refine zr_iload_n h d_T_read_69 rfl rfl 3 rfl ?_
      refine zr_bipush (v := (8 : Int32)) h d_T_read_70 rfl (by decide) ?_
      refine zr_iand h d_T_read_72 rfl ?_
      refine zr_iadd h d_T_read_73 rfl ?_
      obtain ⟨x4_3, ex4_3, hf⟩ := zx_lt_some hf
      refine zr_istore h d_T_read_74 rfl (by decide) ex4_3 rfl ?_
      refine zr_iload_n h d_T_read_76 rfl rfl 4 rfl ?_
      refine zr_iload_n h d_T_read_77 rfl rfl 3 rfl ?_
      rcases zx_if_some hf with ⟨hc_4, hf⟩ | ⟨hc_4, hf⟩
      · refine zr_icmp_lt_t (tgt := 171) h d_T_read_78 rfl hc_4 ?_
        refine zr_sub [2, 3, 4] rfl ?_
        exact z_T_read_171 h hE ih x1 x2 G hf
      · refine zr_icmp_lt_f h 171 d_T_read_78 rfl rfl hc_4 ?_
        refine zr_iload_n h d_T_read_81 rfl rfl 1 rfl ?_
        refine zr_aload_n h d_T_read_82 rfl rfl 2 rfl ?_
        refine zr_getR h d_T_read_83 rfl fl_T_15 sh_21 rfl ?_
        refine zr_getI h d_T_read_86 rfl fl_T_72 sh_11 rfl ?_
        rcases zx_if_some hf with ⟨hc_5, hf⟩ | ⟨hc_5, hf⟩
        · refine zr_icmp_ge_t (tgt := 171) h d_T_read_89 rfl hc_5 ?_
          refine zr_sub [2, 3, 4] rfl ?_
          exact z_T_read_171 h hE ih x1 x2 G hf
        · refine zr_icmp_ge_f h 171 d_T_read_89 rfl rfl hc_5 ?_
          refine zr_iload h d_T_read_92 rfl 0 rfl ?_
          refine zr_aload_n h d_T_read_94 rfl rfl 2 rfl ?_
          refine zr_getR h d_T_read_95 rfl fl_T_15 sh_21 rfl ?_
          refine zr_getI h d_T_read_98 rfl fl_T_75 sh_11 rfl ?_
          rcases zx_if_some hf with ⟨hc_6, hf⟩ | ⟨hc_6, hf⟩
          · refine zr_icmp_ge_t (tgt := 171) h d_T_read_101 rfl hc_6 ?_
            refine zr_sub [2, 3, 4] rfl ?_
            exact z_T_read_171 h hE ih x1 x2 G hf
          · refine zr_icmp_ge_f h 171 d_T_read_101 rfl rfl hc_6 ?_
            refine zr_aload_n h d_T_read_104 rfl rfl 2 rfl ?_
            refine zr_iload_n h d_T_read_105 rfl rfl 4 rfl ?_
            obtain ⟨r_8, G_7, hq_9, hf⟩ := zx_bd_some hf
            refine zr_callVI (As := [.int x2]) (b := 21) h (c_T_readSide _ _ _ _ _ x2 G r_8 G_7 hq_9) cc_T_78 d_T_read_106 rfl rfl rfl sh_21 ⟨rfl, rfl, by decide, by decide⟩ (Nat.le_of_ble_eq_true rfl) ?_
            obtain ⟨x5_10, ex5_10, hf⟩ := zx_lt_some hf
            refine zr_istore h d_T_read_109 rfl (by decide) ex5_10 rfl ?_
            refine zr_iload_n h d_T_read_111 rfl rfl 5 rfl ?_
            refine zr_iload h d_T_read_112 rfl 0 rfl ?_
            refine zr_iload h d_T_read_114 rfl 0 rfl ?_
            refine zr_imul h d_T_read_116 rfl ?_
            refine zr_bipush (v := (16 : Int32)) h d_T_read_117 rfl (by decide) ?_
            obtain ⟨hb_11, hf⟩ := zx_gd_some hf
            refine zr_idiv h d_T_read_119 rfl (zx_nz_ne hb_11) ?_
            refine zr_iadd h d_T_read_120 rfl ?_
            obtain ⟨x1_12, ex1_12, hf⟩ := zx_lt_some hf
            refine zr_istore_n h d_T_read_121 rfl rfl (by decide) ex1_12 rfl ?_
            refine zr_aload_n h d_T_read_122 rfl rfl 4 rfl ?_
            refine zr_iload_n h d_T_read_123 rfl rfl 3 rfl ?_
            refine zr_iload h d_T_read_124 rfl 2 rfl ?_
            refine zr_iload h d_T_read_126 rfl 1 rfl ?_
            obtain ⟨r_14, G_13, hq_15, hf⟩ := zx_bd_some hf
            refine zr_callVI (As := [.int x3_2, .int x4_3, .int x5_10]) (b := 21) h (c_T_readBlock _ _ _ _ _ x3_2 x4_3 x5_10 G_7 r_14 G_13 hq_15) cc_T_82 d_T_read_128 rfl rfl rfl sh_21 ⟨rfl, rfl, by decide, by decide⟩ (Nat.le_of_ble_eq_true rfl) ?_
            obtain ⟨x6_16, ex6_16, hf⟩ := zx_lt_some hf
            refine zr_istore h d_T_read_131 rfl (by decide) ex6_16 rfl ?_
            refine zr_iconst (v := (0 : Int32)) h d_T_read_133 rfl (by decide) ?_
            obtain ⟨x7_17, ex7_17, hf⟩ := zx_lt_some hf
            refine zr_istore h d_T_read_134 rfl (by decide) ex7_17 rfl ?_
            refine zr_sub [6, 2, 7, 5, 4, 1, 0] rfl ?_
            exact z_T_read_136 h hE ih 2048 x1_12 x2 x3_2 x4_3 x6_16 x7_17 G_13 hf
set_option maxRecDepth 100000 in
set_option maxHeartbeats 4000000 in
theorem z_T_read_0 {κ : zx_K} {ad : Nat → Nat} {r : Int32} {G1 : zx_G} (h : zx_C M_T_read κ ad) (hE : zx_E M_T_read κ ad r G1) (G : zx_G) (hf : f_T_read G = some (r, G1)) : zx_Z κ ad 0 [(0, .ref (ad 21))] [] G := by
  unfold f_T_read at hf
  refine zr_aload_n h d_T_read_0 rfl rfl 0 rfl ?_
  refine zr_getR h d_T_read_1 rfl fl_T_19 sh_21 rfl ?_
  refine zr_aload_n h d_T_read_4 rfl rfl 0 rfl ?_
  refine zr_getR h d_T_read_5 rfl fl_T_15 sh_21 rfl ?_
  refine zr_getI h d_T_read_8 rfl fl_T_45 sh_11 rfl ?_
  refine zr_aload_n h d_T_read_11 rfl rfl 0 rfl ?_
  refine zr_getR h d_T_read_12 rfl fl_T_15 sh_21 rfl ?_
  refine zr_getI h d_T_read_15 rfl fl_T_51 sh_11 rfl ?_
  refine zr_aload_n h d_T_read_18 rfl rfl 0 rfl ?_
  refine zr_getR h d_T_read_19 rfl fl_T_15 sh_21 rfl ?_
  refine zr_getI h d_T_read_22 rfl fl_T_54 sh_11 rfl ?_
  obtain ⟨r_2, G_1, hq_3, hf⟩ := zx_bd_some hf
  refine zr_callVV (As := [.int (G 11 14), .int (G 11 15), .int (G 11 11)]) (b := 14) h (c_C_start _ _ _ _ _ (G 11 14) (G 11 15) (G 11 11) G r_2 G_1 hq_3) cc_T_58 d_T_read_25 rfl rfl rfl sh_14 ⟨rfl, rfl, by decide, by decide⟩ (Nat.le_of_ble_eq_true rfl) ?_
  refine zr_aload_n h d_T_read_28 rfl rfl 0 rfl ?_
  refine zr_getR h d_T_read_29 rfl fl_T_23 sh_21 rfl ?_
  refine zr_aload_n h d_T_read_32 rfl rfl 0 rfl ?_
  refine zr_getR h d_T_read_33 rfl fl_T_15 sh_21 rfl ?_
  refine zr_getI h d_T_read_36 rfl fl_T_64 sh_11 rfl ?_
  obtain ⟨r_5, G_4, hq_6, hf⟩ := zx_bd_some hf
  refine zr_callVV (As := [.int (G_1 11 9)]) (b := 17) h (c_P_start _ _ _ _ _ (G_1 11 9) G_1 r_5 G_4 hq_6) cc_T_67 d_T_read_39 rfl rfl rfl sh_17 ⟨rfl, rfl, by decide, by decide⟩ (Nat.le_of_ble_eq_true rfl) ?_
  refine zr_iconst (v := (0 : Int32)) h d_T_read_42 rfl (by decide) ?_
  obtain ⟨x1_7, ex1_7, hf⟩ := zx_lt_some hf
  refine zr_istore_n h d_T_read_43 rfl rfl (by decide) ex1_7 rfl ?_
  refine zr_iconst (v := (0 : Int32)) h d_T_read_44 rfl (by decide) ?_
  obtain ⟨x2_8, ex2_8, hf⟩ := zx_lt_some hf
  refine zr_istore_n h d_T_read_45 rfl rfl (by decide) ex2_8 rfl ?_
  refine zr_sub [2, 1, 0] rfl ?_
  exact z_T_read_46 h hE 2048 x1_7 x2_8 G_4 hf
theorem c_T_read (l : Launch) (D : va_G) (cA : ClassId) (ad : Nat → Nat) (A : Nat → Prop) (G : zx_G) (r : Int32) (G1 : zx_G) (hf : f_T_read G = some (r, G1)) : zx_met l y_T_read M_T_read [.ref (ad 21)] D cA ad A G r G1 :=
  zx_toMet (by decide) rfl (Nat.le_of_ble_eq_true rfl) (fun κ h hE => by exact z_T_read_0 h hE G hf)

def f_U_skip_12_17 (G : zx_G) : Option (Int32 × zx_G) :=
  zx_gd (zx_01 (0 : Int32)) <| some ((0 : Int32), G)
def f_U_skip_12 (x1 : Int32) (G : zx_G) : Option (Int32 × zx_G) :=
  zx_if (x1 < 0)
    (f_U_skip_12_17 G)
    (zx_if (x1 ≤ ((G 12 2) - (G 12 1)))
      (zx_lt (zx_up G 12 1 ((G 12 1) + x1)) fun G_3 =>
      zx_gd (zx_01 (1 : Int32)) <| some ((1 : Int32), G_3))
      (f_U_skip_12_17 G))
set_option maxRecDepth 100000 in
set_option maxHeartbeats 4000000 in
theorem z_U_skip_12_17 {κ : zx_K} {ad : Nat → Nat} {r : Int32} {G1 : zx_G} (h : zx_C M_U_skip κ ad) (hE : zx_E M_U_skip κ ad r G1) (G : zx_G) (hf : f_U_skip_12_17 G = some (r, G1)) : zx_Z κ ad 17 [] [] G := by
  unfold f_U_skip_12_17 at hf
  refine zr_iconst (v := (0 : Int32)) h d_U_skip_17 rfl (by decide) ?_
  obtain ⟨hb_1, hf⟩ := zx_gd_some hf
  exact zr_zret h hE d_U_skip_18 rfl hb_1 hf
set_option maxRecDepth 100000 in
set_option maxHeartbeats 4000000 in
theorem z_U_skip_12_0 {κ : zx_K} {ad : Nat → Nat} {r : Int32} {G1 : zx_G} (h : zx_C M_U_skip κ ad) (hE : zx_E M_U_skip κ ad r G1) (x1 : Int32) (G : zx_G) (hf : f_U_skip_12 x1 G = some (r, G1)) : zx_Z κ ad 0 [(0, .ref (ad 12)), (1, .int x1)] [] G := by
  unfold f_U_skip_12 at hf
  refine zr_iload_n h d_U_skip_0 rfl rfl 1 rfl ?_
  rcases zx_if_some hf with ⟨hc_1, hf⟩ | ⟨hc_1, hf⟩
  · refine zr_if_lt_t (tgt := 17) h d_U_skip_1 rfl hc_1 ?_
    refine zr_sub [] rfl ?_
    exact z_U_skip_12_17 h hE G hf
  · refine zr_if_lt_f h 17 d_U_skip_1 rfl rfl hc_1 ?_
    refine zr_iload_n h d_U_skip_4 rfl rfl 1 rfl ?_
    refine zr_aload_n h d_U_skip_5 rfl rfl 0 rfl ?_
    refine zr_getI h d_U_skip_6 rfl fl_U_26 sh_12 rfl ?_
    refine zr_aload_n h d_U_skip_9 rfl rfl 0 rfl ?_
    refine zr_getI h d_U_skip_10 rfl fl_U_19 sh_12 rfl ?_
    refine zr_isub h d_U_skip_13 rfl ?_
    rcases zx_if_some hf with ⟨hc_2, hf⟩ | ⟨hc_2, hf⟩
    · refine zr_icmp_le_t (tgt := 19) h d_U_skip_14 rfl hc_2 ?_
      refine zr_aload_n h d_U_skip_19 rfl rfl 0 rfl ?_
      refine zr_dup h d_U_skip_20 rfl rfl ?_
      refine zr_getI h d_U_skip_21 rfl fl_U_19 sh_12 rfl ?_
      refine zr_iload_n h d_U_skip_24 rfl rfl 1 rfl ?_
      refine zr_iadd h d_U_skip_25 rfl ?_
      obtain ⟨G_3, eG_3, hf⟩ := zx_lt_some hf
      refine zr_putI h d_U_skip_26 rfl fl_U_19 pl_U_1 sh_12 rfl rfl rfl eG_3 ?_
      refine zr_iconst (v := (1 : Int32)) h d_U_skip_29 rfl (by decide) ?_
      obtain ⟨hb_4, hf⟩ := zx_gd_some hf
      exact zr_zret h hE d_U_skip_30 rfl hb_4 hf
    · refine zr_icmp_le_f h 19 d_U_skip_14 rfl rfl hc_2 ?_
      refine zr_sub [] rfl ?_
      exact z_U_skip_12_17 h hE G hf
theorem c_U_skip_12 (l : Launch) (D : va_G) (cA : ClassId) (ad : Nat → Nat) (A : Nat → Prop) (x1 : Int32) (G : zx_G) (r : Int32) (G1 : zx_G) (hf : f_U_skip_12 x1 G = some (r, G1)) : zx_met l y_U_skip M_U_skip [.ref (ad 12), .int x1] D cA ad A G r G1 :=
  zx_toMet (by decide) rfl (Nat.le_of_ble_eq_true rfl) (fun κ h hE => by exact z_U_skip_12_0 h hE x1 G hf)

def f_U_open_13 (x1 x2 : Int32) (G : zx_G) : Option (Int32 × zx_G) :=
  zx_lt (zx_up G 13 1 (zx_mmax x1 (0 : Int32))) fun G_1 =>
  zx_lt (zx_up G_1 13 2 (zx_mmin x2 (200 : Int32))) fun G_2 =>
  zx_lt (zx_up G_2 13 3 (0 : Int32)) fun G_3 =>
  some ((0 : Int32), G_3)
set_option maxRecDepth 100000 in
set_option maxHeartbeats 4000000 in
theorem z_U_open_13_0 {κ : zx_K} {ad : Nat → Nat} {r : Int32} {G1 : zx_G} (h : zx_C M_U_open κ ad) (hE : zx_E M_U_open κ ad r G1) (x1 x2 : Int32) (G : zx_G) (hf : f_U_open_13 x1 x2 G = some (r, G1)) : zx_Z κ ad 0 [(0, .ref (ad 13)), (1, .int x1), (2, .int x2)] [] G := by
  unfold f_U_open_13 at hf
  refine zr_aload_n h d_U_open_0 rfl rfl 0 rfl ?_
  refine zr_iload_n h d_U_open_1 rfl rfl 1 rfl ?_
  refine zr_iconst (v := (0 : Int32)) h d_U_open_2 rfl (by decide) ?_
  refine zr_mmax h d_U_open_3 rfl cc_U_13 (by decide) (Nat.le_of_ble_eq_true rfl) ?_
  obtain ⟨G_1, eG_1, hf⟩ := zx_lt_some hf
  refine zr_putI h d_U_open_6 rfl fl_U_19 pl_U_1 sh_13 rfl rfl rfl eG_1 ?_
  refine zr_aload_n h d_U_open_9 rfl rfl 0 rfl ?_
  refine zr_iload_n h d_U_open_10 rfl rfl 2 rfl ?_
  refine zr_aload_n h d_U_open_11 rfl rfl 0 rfl ?_
  refine zr_getR h d_U_open_12 rfl fl_U_7 sh_13 rfl ?_
  refine zr_alen (v := (200 : Int32)) h d_U_open_15 rfl sh_9 (by decide) ?_
  refine zr_mmin h d_U_open_16 rfl cc_U_23 (by decide) (Nat.le_of_ble_eq_true rfl) ?_
  obtain ⟨G_2, eG_2, hf⟩ := zx_lt_some hf
  refine zr_putI h d_U_open_19 rfl fl_U_26 pl_U_2 sh_13 rfl rfl rfl eG_2 ?_
  refine zr_aload_n h d_U_open_22 rfl rfl 0 rfl ?_
  refine zr_iconst (v := (0 : Int32)) h d_U_open_23 rfl (by decide) ?_
  obtain ⟨G_3, eG_3, hf⟩ := zx_lt_some hf
  refine zr_putI h d_U_open_24 rfl fl_U_29 pl_U_3 sh_13 rfl rfl rfl eG_3 ?_
  exact zr_vret h hE d_U_open_27 rfl hf
theorem c_U_open_13 (l : Launch) (D : va_G) (cA : ClassId) (ad : Nat → Nat) (A : Nat → Prop) (x1 x2 : Int32) (G : zx_G) (r : Int32) (G1 : zx_G) (hf : f_U_open_13 x1 x2 G = some (r, G1)) : zx_met l y_U_open M_U_open [.ref (ad 13), .int x1, .int x2] D cA ad A G r G1 :=
  zx_toMet (by decide) rfl (Nat.le_of_ble_eq_true rfl) (fun κ h hE => by exact z_U_open_13_0 h hE x1 x2 G hf)

def f_U_skipRestOfByte_13_22 (G : zx_G) : Option (Int32 × zx_G) :=
  some ((0 : Int32), G)
def f_U_skipRestOfByte_13 (G : zx_G) : Option (Int32 × zx_G) :=
  zx_if ((G 13 3) = 0)
    (f_U_skipRestOfByte_13_22 G)
    (zx_lt (zx_up G 13 3 (0 : Int32)) fun G_2 =>
    zx_lt (zx_up G_2 13 1 ((G_2 13 1) + (1 : Int32))) fun G_3 =>
    f_U_skipRestOfByte_13_22 G_3)
set_option maxRecDepth 100000 in
set_option maxHeartbeats 4000000 in
theorem z_U_skipRestOfByte_13_22 {κ : zx_K} {ad : Nat → Nat} {r : Int32} {G1 : zx_G} (h : zx_C M_U_skipRestOfByte κ ad) (hE : zx_E M_U_skipRestOfByte κ ad r G1) (G : zx_G) (hf : f_U_skipRestOfByte_13_22 G = some (r, G1)) : zx_Z κ ad 22 [] [] G := by
  unfold f_U_skipRestOfByte_13_22 at hf
  exact zr_vret h hE d_U_skipRestOfByte_22 rfl hf
set_option maxRecDepth 100000 in
set_option maxHeartbeats 4000000 in
theorem z_U_skipRestOfByte_13_0 {κ : zx_K} {ad : Nat → Nat} {r : Int32} {G1 : zx_G} (h : zx_C M_U_skipRestOfByte κ ad) (hE : zx_E M_U_skipRestOfByte κ ad r G1) (G : zx_G) (hf : f_U_skipRestOfByte_13 G = some (r, G1)) : zx_Z κ ad 0 [(0, .ref (ad 13))] [] G := by
  unfold f_U_skipRestOfByte_13 at hf
  refine zr_aload_n h d_U_skipRestOfByte_0 rfl rfl 0 rfl ?_
  refine zr_getI h d_U_skipRestOfByte_1 rfl fl_U_29 sh_13 rfl ?_
  rcases zx_if_some hf with ⟨hc_1, hf⟩ | ⟨hc_1, hf⟩
  · refine zr_if_eq_t (tgt := 22) h d_U_skipRestOfByte_4 rfl hc_1 ?_
    refine zr_sub [] rfl ?_
    exact z_U_skipRestOfByte_13_22 h hE G hf
  · refine zr_if_eq_f h 22 d_U_skipRestOfByte_4 rfl rfl hc_1 ?_
    refine zr_aload_n h d_U_skipRestOfByte_7 rfl rfl 0 rfl ?_
    refine zr_iconst (v := (0 : Int32)) h d_U_skipRestOfByte_8 rfl (by decide) ?_
    obtain ⟨G_2, eG_2, hf⟩ := zx_lt_some hf
    refine zr_putI h d_U_skipRestOfByte_9 rfl fl_U_29 pl_U_3 sh_13 rfl rfl rfl eG_2 ?_
    refine zr_aload_n h d_U_skipRestOfByte_12 rfl rfl 0 rfl ?_
    refine zr_dup h d_U_skipRestOfByte_13 rfl rfl ?_
    refine zr_getI h d_U_skipRestOfByte_14 rfl fl_U_19 sh_13 rfl ?_
    refine zr_iconst (v := (1 : Int32)) h d_U_skipRestOfByte_17 rfl (by decide) ?_
    refine zr_iadd h d_U_skipRestOfByte_18 rfl ?_
    obtain ⟨G_3, eG_3, hf⟩ := zx_lt_some hf
    refine zr_putI h d_U_skipRestOfByte_19 rfl fl_U_19 pl_U_1 sh_13 rfl rfl rfl eG_3 ?_
    refine zr_sub [] rfl ?_
    exact z_U_skipRestOfByte_13_22 h hE G_3 hf
theorem c_U_skipRestOfByte_13 (l : Launch) (D : va_G) (cA : ClassId) (ad : Nat → Nat) (A : Nat → Prop) (G : zx_G) (r : Int32) (G1 : zx_G) (hf : f_U_skipRestOfByte_13 G = some (r, G1)) : zx_met l y_U_skipRestOfByte M_U_skipRestOfByte [.ref (ad 13)] D cA ad A G r G1 :=
  zx_toMet (by decide) rfl (Nat.le_of_ble_eq_true rfl) (fun κ h hE => by exact z_U_skipRestOfByte_13_0 h hE G hf)

def f_U_nextBits_13_80 (k4 : Int32 → Int32 → Int32 → zx_G → Option (Int32 × zx_G)) (x1 x2 x3 : Int32) (G : zx_G) : Option (Int32 × zx_G) :=
  zx_lt (x3 + (1 : Int32)) fun x3_1 =>
  k4 x1 x2 x3_1 G
def f_U_nextBits_13_4 : Nat → Int32 → Int32 → Int32 → zx_G → Option (Int32 × zx_G)
  | 0, _, _, _, _ => none
  | n + 1, x1, x2, x3, G =>
    zx_if (x1 ≤ x3)
      (some (x2, G))
      (zx_if ((G 13 1) < (G 13 2))
        (zx_gd (zx_in (G 13 1) 200) <|
        zx_lt (((2 : Int32) * x2) + (((G 9 (Int32.toNatClampNeg (G 13 1))) >>> (((7 : Int32) - (G 13 3)) &&& 31)) &&& (1 : Int32))) fun x2_4 =>
        zx_lt (zx_up G 13 3 ((G 13 3) + (1 : Int32))) fun G_5 =>
        zx_if (¬ (G_5 13 3) = (8 : Int32))
          (f_U_nextBits_13_80 (f_U_nextBits_13_4 n) x1 x2_4 x3 G_5)
          (zx_lt (zx_up G_5 13 3 (0 : Int32)) fun G_7 =>
          zx_lt (zx_up G_7 13 1 ((G_7 13 1) + (1 : Int32))) fun G_8 =>
          f_U_nextBits_13_80 (f_U_nextBits_13_4 n) x1 x2_4 x3 G_8))
        (some ((-1 : Int32), G)))
def f_U_nextBits_13 (x1 : Int32) (G : zx_G) : Option (Int32 × zx_G) :=
  zx_lt (0 : Int32) fun x2_1 =>
  zx_lt (0 : Int32) fun x3_2 =>
  f_U_nextBits_13_4 2048 x1 x2_1 x3_2 G
set_option maxRecDepth 100000 in
set_option maxHeartbeats 4000000 in
theorem z_U_nextBits_13_80 {κ : zx_K} {ad : Nat → Nat} {r : Int32} {G1 : zx_G} (h : zx_C M_U_nextBits κ ad) (hE : zx_E M_U_nextBits κ ad r G1) {k4 : Int32 → Int32 → Int32 → zx_G → Option (Int32 × zx_G)} (hk4 : ∀ (x1 x2 x3 : Int32) (G : zx_G), k4 x1 x2 x3 G = some (r, G1) → zx_Z κ ad 4 [(0, .ref (ad 13)), (1, .int x1), (2, .int x2), (3, .int x3)] [] G) (x1 x2 x3 : Int32) (G : zx_G) (hf : f_U_nextBits_13_80 k4 x1 x2 x3 G = some (r, G1)) : zx_Z κ ad 80 [(0, .ref (ad 13)), (1, .int x1), (2, .int x2), (3, .int x3)] [] G := by
  unfold f_U_nextBits_13_80 at hf
  obtain ⟨x3_1, ex3_1, hf⟩ := zx_lt_some hf
  refine zr_iinc (j := 3) h d_U_nextBits_80 rfl rfl (by decide) ex3_1 (by decide) rfl ?_
  refine zr_goto (tgt := 4) h d_U_nextBits_83 rfl ?_
  refine zr_sub [1, 2, 3, 0] rfl ?_
  exact hk4 x1 x2 x3_1 G hf
set_option maxRecDepth 100000 in
set_option maxHeartbeats 4000000 in
theorem z_U_nextBits_13_4 {κ : zx_K} {ad : Nat → Nat} {r : Int32} {G1 : zx_G} (h : zx_C M_U_nextBits κ ad) (hE : zx_E M_U_nextBits κ ad r G1) : ∀ (n : Nat) (x1 x2 x3 : Int32) (G : zx_G), f_U_nextBits_13_4 n x1 x2 x3 G = some (r, G1) → zx_Z κ ad 4 [(0, .ref (ad 13)), (1, .int x1), (2, .int x2), (3, .int x3)] [] G := by
  intro n
  induction n with
  | zero => intro x1 x2 x3 G hf; cases hf
  | succ n ih =>
    intro x1 x2 x3 G hf
    unfold f_U_nextBits_13_4 at hf
    refine zr_iload_n h d_U_nextBits_4 rfl rfl 3 rfl ?_
    refine zr_iload_n h d_U_nextBits_5 rfl rfl 1 rfl ?_
    rcases zx_if_some hf with ⟨hc_1, hf⟩ | ⟨hc_1, hf⟩
    · refine zr_icmp_ge_t (tgt := 86) h d_U_nextBits_6 rfl hc_1 ?_
      refine zr_iload_n h d_U_nextBits_86 rfl rfl 2 rfl ?_
      exact zr_iret h hE d_U_nextBits_87 rfl hf
    · refine zr_icmp_ge_f h 86 d_U_nextBits_6 rfl rfl hc_1 ?_
      refine zr_aload_n h d_U_nextBits_9 rfl rfl 0 rfl ?_
      refine zr_getI h d_U_nextBits_10 rfl fl_U_19 sh_13 rfl ?_
      refine zr_aload_n h d_U_nextBits_13 rfl rfl 0 rfl ?_
      refine zr_getI h d_U_nextBits_14 rfl fl_U_26 sh_13 rfl ?_
      rcases zx_if_some hf with ⟨hc_2, hf⟩ | ⟨hc_2, hf⟩
      · refine zr_icmp_lt_t (tgt := 22) h d_U_nextBits_17 rfl hc_2 ?_
        refine zr_iconst (v := (2 : Int32)) h d_U_nextBits_22 rfl (by decide) ?_
        refine zr_iload_n h d_U_nextBits_23 rfl rfl 2 rfl ?_
        refine zr_imul h d_U_nextBits_24 rfl ?_
        refine zr_aload_n h d_U_nextBits_25 rfl rfl 0 rfl ?_
        refine zr_getR h d_U_nextBits_26 rfl fl_U_7 sh_13 rfl ?_
        refine zr_aload_n h d_U_nextBits_29 rfl rfl 0 rfl ?_
        refine zr_getI h d_U_nextBits_30 rfl fl_U_19 sh_13 rfl ?_
        obtain ⟨hb_3, hf⟩ := zx_gd_some hf
        refine zr_iald h d_U_nextBits_33 rfl sh_9 hb_3 ?_
        refine zr_bipush (v := (7 : Int32)) h d_U_nextBits_34 rfl (by decide) ?_
        refine zr_aload_n h d_U_nextBits_36 rfl rfl 0 rfl ?_
        refine zr_getI h d_U_nextBits_37 rfl fl_U_29 sh_13 rfl ?_
        refine zr_isub h d_U_nextBits_40 rfl ?_
        refine zr_ishr h d_U_nextBits_41 rfl ?_
        refine zr_iconst (v := (1 : Int32)) h d_U_nextBits_42 rfl (by decide) ?_
        refine zr_iand h d_U_nextBits_43 rfl ?_
        refine zr_iadd h d_U_nextBits_44 rfl ?_
        obtain ⟨x2_4, ex2_4, hf⟩ := zx_lt_some hf
        refine zr_istore_n h d_U_nextBits_45 rfl rfl (by decide) ex2_4 rfl ?_
        refine zr_aload_n h d_U_nextBits_46 rfl rfl 1 rfl ?_
        refine zr_dup h d_U_nextBits_47 rfl rfl ?_
        refine zr_getI h d_U_nextBits_48 rfl fl_U_29 sh_13 rfl ?_
        refine zr_iconst (v := (1 : Int32)) h d_U_nextBits_51 rfl (by decide) ?_
        refine zr_iadd h d_U_nextBits_52 rfl ?_
        obtain ⟨G_5, eG_5, hf⟩ := zx_lt_some hf
        refine zr_putI h d_U_nextBits_53 rfl fl_U_29 pl_U_3 sh_13 rfl rfl rfl eG_5 ?_
        refine zr_aload_n h d_U_nextBits_56 rfl rfl 1 rfl ?_
        refine zr_getI h d_U_nextBits_57 rfl fl_U_29 sh_13 rfl ?_
        refine zr_bipush (v := (8 : Int32)) h d_U_nextBits_60 rfl (by decide) ?_
        rcases zx_if_some hf with ⟨hc_6, hf⟩ | ⟨hc_6, hf⟩
        · refine zr_icmp_ne_t (tgt := 80) h d_U_nextBits_62 rfl hc_6 ?_
          refine zr_sub [1, 2, 0, 3] rfl ?_
          exact z_U_nextBits_13_80 h hE ih x1 x2_4 x3 G_5 hf
        · refine zr_icmp_ne_f h 80 d_U_nextBits_62 rfl rfl hc_6 ?_
          refine zr_aload_n h d_U_nextBits_65 rfl rfl 1 rfl ?_
          refine zr_iconst (v := (0 : Int32)) h d_U_nextBits_66 rfl (by decide) ?_
          obtain ⟨G_7, eG_7, hf⟩ := zx_lt_some hf
          refine zr_putI h d_U_nextBits_67 rfl fl_U_29 pl_U_3 sh_13 rfl rfl rfl eG_7 ?_
          refine zr_aload_n h d_U_nextBits_70 rfl rfl 1 rfl ?_
          refine zr_dup h d_U_nextBits_71 rfl rfl ?_
          refine zr_getI h d_U_nextBits_72 rfl fl_U_19 sh_13 rfl ?_
          refine zr_iconst (v := (1 : Int32)) h d_U_nextBits_75 rfl (by decide) ?_
          refine zr_iadd h d_U_nextBits_76 rfl ?_
          obtain ⟨G_8, eG_8, hf⟩ := zx_lt_some hf
          refine zr_putI h d_U_nextBits_77 rfl fl_U_19 pl_U_1 sh_13 rfl rfl rfl eG_8 ?_
          refine zr_sub [1, 2, 0, 3] rfl ?_
          exact z_U_nextBits_13_80 h hE ih x1 x2_4 x3 G_8 hf
      · refine zr_icmp_lt_f h 22 d_U_nextBits_17 rfl rfl hc_2 ?_
        refine zr_iconst (v := (-1 : Int32)) h d_U_nextBits_20 rfl (by decide) ?_
        exact zr_iret h hE d_U_nextBits_21 rfl hf
set_option maxRecDepth 100000 in
set_option maxHeartbeats 4000000 in
theorem z_U_nextBits_13_0 {κ : zx_K} {ad : Nat → Nat} {r : Int32} {G1 : zx_G} (h : zx_C M_U_nextBits κ ad) (hE : zx_E M_U_nextBits κ ad r G1) (x1 : Int32) (G : zx_G) (hf : f_U_nextBits_13 x1 G = some (r, G1)) : zx_Z κ ad 0 [(0, .ref (ad 13)), (1, .int x1)] [] G := by
  unfold f_U_nextBits_13 at hf
  refine zr_iconst (v := (0 : Int32)) h d_U_nextBits_0 rfl (by decide) ?_
  obtain ⟨x2_1, ex2_1, hf⟩ := zx_lt_some hf
  refine zr_istore_n h d_U_nextBits_1 rfl rfl (by decide) ex2_1 rfl ?_
  refine zr_iconst (v := (0 : Int32)) h d_U_nextBits_2 rfl (by decide) ?_
  obtain ⟨x3_2, ex3_2, hf⟩ := zx_lt_some hf
  refine zr_istore_n h d_U_nextBits_3 rfl rfl (by decide) ex3_2 rfl ?_
  refine zr_sub [2, 3, 1, 0] rfl ?_
  exact z_U_nextBits_13_4 h hE 2048 x1 x2_1 x3_2 G hf
theorem c_U_nextBits_13 (l : Launch) (D : va_G) (cA : ClassId) (ad : Nat → Nat) (A : Nat → Prop) (x1 : Int32) (G : zx_G) (r : Int32) (G1 : zx_G) (hf : f_U_nextBits_13 x1 G = some (r, G1)) : zx_met l y_U_nextBits M_U_nextBits [.ref (ad 13), .int x1] D cA ad A G r G1 :=
  zx_toMet (by decide) rfl (Nat.le_of_ble_eq_true rfl) (fun κ h hE => by exact z_U_nextBits_13_0 h hE x1 G hf)

def f_H_readFrame_23 (s0 : Int32) (G : zx_G) : Option (Int32 × zx_G) :=
  some (s0, G)
def f_H_readFrame_47 (s0 : Int32) (G : zx_G) : Option (Int32 × zx_G) :=
  some (s0, G)
def f_H_readFrame_138 (G : zx_G) : Option (Int32 × zx_G) :=
  some ((7 : Int32), G)
def f_H_readFrame_114 (s1 : Int32) (G : zx_G) : Option (Int32 × zx_G) :=
  zx_lt (zx_up G 11 13 s1) fun G_1 =>
  zx_if ((G_1 11 10) < 0)
    (f_H_readFrame_138 G_1)
    (zx_if ((G_1 11 12) < 0)
      (f_H_readFrame_138 G_1)
      (zx_if (0 ≤ (G_1 11 13))
        (zx_bd (f_U_skipRestOfByte_13 G_1) fun r_6 G_5 =>
        zx_lt (zx_up G_5 11 14 (G_5 13 1)) fun G_8 =>
        zx_lt (zx_up G_8 11 15 (G_8 13 2)) fun G_9 =>
        zx_gd (zx_01 (1 : Int32)) <|
        zx_lt (zx_up G_9 11 4 (1 : Int32)) fun G_11 =>
        some ((0 : Int32), G_11))
        (f_H_readFrame_138 G_1)))
def f_H_readFrame_79 (s1 : Int32) (G : zx_G) : Option (Int32 × zx_G) :=
  zx_gd (zx_01 s1) <|
  zx_lt (zx_up G 11 11 s1) fun G_2 =>
  zx_bd (f_U_nextBits_13 (3 : Int32) G_2) fun r_4 G_3 =>
  zx_lt (zx_up G_3 11 12 r_4) fun G_6 =>
  zx_if ((G_6 11 5) = 0)
    (f_H_readFrame_114 (0 : Int32) G_6)
    (zx_bd (f_U_nextBits_13 (2 : Int32) G_6) fun r_9 G_8 =>
    f_H_readFrame_114 r_9 G_8)
def f_H_readFrame (G : zx_G) : Option (Int32 × zx_G) :=
  zx_bd (f_U_nextBits_13 (2 : Int32) G) fun r_2 G_1 =>
  zx_lt r_2 fun x1_4 =>
  zx_if (x1_4 = 0)
    (zx_bd (f_U_nextBits_13 (1 : Int32) G_1) fun r_7 G_6 =>
    zx_lt r_7 fun x2_9 =>
    zx_if (x2_9 = 0)
      (zx_bd (f_U_nextBits_13 (6 : Int32) G_6) fun r_12 G_11 =>
      zx_lt (zx_up G_11 11 10 r_12) fun G_14 =>
      zx_bd (f_U_nextBits_13 (1 : Int32) G_14) fun r_16 G_15 =>
      zx_if (¬ r_16 = (1 : Int32))
        (f_H_readFrame_79 (0 : Int32) G_15)
        (f_H_readFrame_79 (1 : Int32) G_15))
      (zx_if (0 ≤ x2_9)
        (f_H_readFrame_47 (5 : Int32) G_6)
        (f_H_readFrame_47 (7 : Int32) G_6)))
    (zx_if (0 ≤ x1_4)
      (f_H_readFrame_23 (5 : Int32) G_1)
      (f_H_readFrame_23 (7 : Int32) G_1))
set_option maxRecDepth 100000 in
set_option maxHeartbeats 4000000 in
theorem z_H_readFrame_23 {κ : zx_K} {ad : Nat → Nat} {r : Int32} {G1 : zx_G} (h : zx_C M_H_readFrame κ ad) (hE : zx_E M_H_readFrame κ ad r G1) (s0 : Int32) (G : zx_G) (hf : f_H_readFrame_23 s0 G = some (r, G1)) : zx_Z κ ad 23 [] [.int s0] G := by
  unfold f_H_readFrame_23 at hf
  exact zr_iret h hE d_H_readFrame_23 rfl hf
set_option maxRecDepth 100000 in
set_option maxHeartbeats 4000000 in
theorem z_H_readFrame_47 {κ : zx_K} {ad : Nat → Nat} {r : Int32} {G1 : zx_G} (h : zx_C M_H_readFrame κ ad) (hE : zx_E M_H_readFrame κ ad r G1) (s0 : Int32) (G : zx_G) (hf : f_H_readFrame_47 s0 G = some (r, G1)) : zx_Z κ ad 47 [] [.int s0] G := by
  unfold f_H_readFrame_47 at hf
  exact zr_iret h hE d_H_readFrame_47 rfl hf
set_option maxRecDepth 100000 in
set_option maxHeartbeats 4000000 in
theorem z_H_readFrame_138 {κ : zx_K} {ad : Nat → Nat} {r : Int32} {G1 : zx_G} (h : zx_C M_H_readFrame κ ad) (hE : zx_E M_H_readFrame κ ad r G1) (G : zx_G) (hf : f_H_readFrame_138 G = some (r, G1)) : zx_Z κ ad 138 [] [] G := by
  unfold f_H_readFrame_138 at hf
  refine zr_bipush (v := (7 : Int32)) h d_H_readFrame_138 rfl (by decide) ?_
  exact zr_iret h hE d_H_readFrame_140 rfl hf
set_option maxRecDepth 100000 in
set_option maxHeartbeats 4000000 in
theorem z_H_readFrame_114 {κ : zx_K} {ad : Nat → Nat} {r : Int32} {G1 : zx_G} (h : zx_C M_H_readFrame κ ad) (hE : zx_E M_H_readFrame κ ad r G1) (s1 : Int32) (G : zx_G) (hf : f_H_readFrame_114 s1 G = some (r, G1)) : zx_Z κ ad 114 [(0, .ref (ad 11))] [.int s1, .ref (ad 11)] G := by
  unfold f_H_readFrame_114 at hf
  obtain ⟨G_1, eG_1, hf⟩ := zx_lt_some hf
  refine zr_putI h d_H_readFrame_114 rfl fl_H_106 pl_H_13 sh_11 rfl rfl rfl eG_1 ?_
  refine zr_aload_n h d_H_readFrame_117 rfl rfl 0 rfl ?_
  refine zr_getI h d_H_readFrame_118 rfl fl_H_97 sh_11 rfl ?_
  rcases zx_if_some hf with ⟨hc_2, hf⟩ | ⟨hc_2, hf⟩
  · refine zr_if_lt_t (tgt := 138) h d_H_readFrame_121 rfl hc_2 ?_
    refine zr_sub [] rfl ?_
    exact z_H_readFrame_138 h hE G_1 hf
  · refine zr_if_lt_f h 138 d_H_readFrame_121 rfl rfl hc_2 ?_
    refine zr_aload_n h d_H_readFrame_124 rfl rfl 0 rfl ?_
    refine zr_getI h d_H_readFrame_125 rfl fl_H_103 sh_11 rfl ?_
    rcases zx_if_some hf with ⟨hc_3, hf⟩ | ⟨hc_3, hf⟩
    · refine zr_if_lt_t (tgt := 138) h d_H_readFrame_128 rfl hc_3 ?_
      refine zr_sub [] rfl ?_
      exact z_H_readFrame_138 h hE G_1 hf
    · refine zr_if_lt_f h 138 d_H_readFrame_128 rfl rfl hc_3 ?_
      refine zr_aload_n h d_H_readFrame_131 rfl rfl 0 rfl ?_
      refine zr_getI h d_H_readFrame_132 rfl fl_H_106 sh_11 rfl ?_
      rcases zx_if_some hf with ⟨hc_4, hf⟩ | ⟨hc_4, hf⟩
      · refine zr_if_ge_t (tgt := 141) h d_H_readFrame_135 rfl hc_4 ?_
        refine zr_aload_n h d_H_readFrame_141 rfl rfl 0 rfl ?_
        refine zr_getR h d_H_readFrame_142 rfl fl_H_30 sh_11 rfl ?_
        obtain ⟨r_6, G_5, hq_7, hf⟩ := zx_bd_some hf
        refine zr_callVV (As := []) (b := 13) h (c_U_skipRestOfByte_13 _ _ _ _ _ G_1 r_6 G_5 hq_7) cc_H_109 d_H_readFrame_145 rfl rfl rfl sh_13 ⟨rfl, rfl, by decide, by decide⟩ (Nat.le_of_ble_eq_true rfl) ?_
        refine zr_aload_n h d_H_readFrame_148 rfl rfl 0 rfl ?_
        refine zr_aload_n h d_H_readFrame_149 rfl rfl 0 rfl ?_
        refine zr_getR h d_H_readFrame_150 rfl fl_H_30 sh_11 rfl ?_
        refine zr_getI h d_H_readFrame_153 rfl fl_H_61 sh_13 rfl ?_
        obtain ⟨G_8, eG_8, hf⟩ := zx_lt_some hf
        refine zr_putI h d_H_readFrame_156 rfl fl_H_112 pl_H_14 sh_11 rfl rfl rfl eG_8 ?_
        refine zr_aload_n h d_H_readFrame_159 rfl rfl 0 rfl ?_
        refine zr_aload_n h d_H_readFrame_160 rfl rfl 0 rfl ?_
        refine zr_getR h d_H_readFrame_161 rfl fl_H_30 sh_11 rfl ?_
        refine zr_getI h d_H_readFrame_164 rfl fl_H_115 sh_13 rfl ?_
        obtain ⟨G_9, eG_9, hf⟩ := zx_lt_some hf
        refine zr_putI h d_H_readFrame_167 rfl fl_H_118 pl_H_15 sh_11 rfl rfl rfl eG_9 ?_
        refine zr_aload_n h d_H_readFrame_170 rfl rfl 0 rfl ?_
        refine zr_iconst (v := (1 : Int32)) h d_H_readFrame_171 rfl (by decide) ?_
        obtain ⟨hb_10, hf⟩ := zx_gd_some hf
        obtain ⟨G_11, eG_11, hf⟩ := zx_lt_some hf
        refine zr_putI h d_H_readFrame_172 rfl fl_H_37 pl_H_4 sh_11 rfl (zx_01_n hb_10) (zx_01_f hb_10) eG_11 ?_
        refine zr_iconst (v := (0 : Int32)) h d_H_readFrame_175 rfl (by decide) ?_
        exact zr_iret h hE d_H_readFrame_176 rfl hf
      · refine zr_if_ge_f h 141 d_H_readFrame_135 rfl rfl hc_4 ?_
        refine zr_sub [] rfl ?_
        exact z_H_readFrame_138 h hE G_1 hf
set_option maxRecDepth 100000 in
set_option maxHeartbeats 4000000 in
theorem z_H_readFrame_79 {κ : zx_K} {ad : Nat → Nat} {r : Int32} {G1 : zx_G} (h : zx_C M_H_readFrame κ ad) (hE : zx_E M_H_readFrame κ ad r G1) (s1 : Int32) (G : zx_G) (hf : f_H_readFrame_79 s1 G = some (r, G1)) : zx_Z κ ad 79 [(0, .ref (ad 11))] [.int s1, .ref (ad 11)] G := by
  unfold f_H_readFrame_79 at hf
  obtain ⟨hb_1, hf⟩ := zx_gd_some hf
  obtain ⟨G_2, eG_2, hf⟩ := zx_lt_some hf
  refine zr_putI h d_H_readFrame_79 rfl fl_H_100 pl_H_11 sh_11 rfl (zx_01_n hb_1) (zx_01_f hb_1) eG_2 ?_
  refine zr_aload_n h d_H_readFrame_82 rfl rfl 0 rfl ?_
  refine zr_aload_n h d_H_readFrame_83 rfl rfl 0 rfl ?_
  refine zr_getR h d_H_readFrame_84 rfl fl_H_30 sh_11 rfl ?_
  refine zr_iconst (v := (3 : Int32)) h d_H_readFrame_87 rfl (by decide) ?_
  obtain ⟨r_4, G_3, hq_5, hf⟩ := zx_bd_some hf
  refine zr_callVI (As := [.int (3 : Int32)]) (b := 13) h (c_U_nextBits_13 _ _ _ _ _ (3 : Int32) G_2 r_4 G_3 hq_5) cc_H_74 d_H_readFrame_88 rfl rfl rfl sh_13 ⟨rfl, rfl, by decide, by decide⟩ (Nat.le_of_ble_eq_true rfl) ?_
  obtain ⟨G_6, eG_6, hf⟩ := zx_lt_some hf
  refine zr_putI h d_H_readFrame_91 rfl fl_H_103 pl_H_12 sh_11 rfl rfl rfl eG_6 ?_
  refine zr_aload_n h d_H_readFrame_94 rfl rfl 0 rfl ?_
  refine zr_aload_n h d_H_readFrame_95 rfl rfl 0 rfl ?_
  refine zr_getI h d_H_readFrame_96 rfl fl_H_84 sh_11 rfl ?_
  rcases zx_if_some hf with ⟨hc_7, hf⟩ | ⟨hc_7, hf⟩
  · refine zr_if_eq_t (tgt := 113) h d_H_readFrame_99 rfl hc_7 ?_
    refine zr_iconst (v := (0 : Int32)) h d_H_readFrame_113 rfl (by decide) ?_
    exact z_H_readFrame_114 h hE (0 : Int32) G_6 hf
  · refine zr_if_eq_f h 113 d_H_readFrame_99 rfl rfl hc_7 ?_
    refine zr_aload_n h d_H_readFrame_102 rfl rfl 0 rfl ?_
    refine zr_getR h d_H_readFrame_103 rfl fl_H_30 sh_11 rfl ?_
    refine zr_iconst (v := (2 : Int32)) h d_H_readFrame_106 rfl (by decide) ?_
    obtain ⟨r_9, G_8, hq_10, hf⟩ := zx_bd_some hf
    refine zr_callVI (As := [.int (2 : Int32)]) (b := 13) h (c_U_nextBits_13 _ _ _ _ _ (2 : Int32) G_6 r_9 G_8 hq_10) cc_H_74 d_H_readFrame_107 rfl rfl rfl sh_13 ⟨rfl, rfl, by decide, by decide⟩ (Nat.le_of_ble_eq_true rfl) ?_
    refine zr_goto (tgt := 114) h d_H_readFrame_110 rfl ?_
    exact z_H_readFrame_114 h hE r_9 G_8 hf
set_option maxRecDepth 100000 in
set_option maxHeartbeats 4000000 in
theorem z_H_readFrame_0 {κ : zx_K} {ad : Nat → Nat} {r : Int32} {G1 : zx_G} (h : zx_C M_H_readFrame κ ad) (hE : zx_E M_H_readFrame κ ad r G1) (G : zx_G) (hf : f_H_readFrame G = some (r, G1)) : zx_Z κ ad 0 [(0, .ref (ad 11))] [] G := by
  unfold f_H_readFrame at hf
  refine zr_aload_n h d_H_readFrame_0 rfl rfl 0 rfl ?_
  refine zr_getR h d_H_readFrame_1 rfl fl_H_30 sh_11 rfl ?_
  refine zr_iconst (v := (2 : Int32)) h d_H_readFrame_4 rfl (by decide) ?_
  obtain ⟨r_2, G_1, hq_3, hf⟩ := zx_bd_some hf
  refine zr_callVI (As := [.int (2 : Int32)]) (b := 13) h (c_U_nextBits_13 _ _ _ _ _ (2 : Int32) G r_2 G_1 hq_3) cc_H_74 d_H_readFrame_5 rfl rfl rfl sh_13 ⟨rfl, rfl, by decide, by decide⟩ (Nat.le_of_ble_eq_true rfl) ?_
  obtain ⟨x1_4, ex1_4, hf⟩ := zx_lt_some hf
  refine zr_istore_n h d_H_readFrame_8 rfl rfl (by decide) ex1_4 rfl ?_
  refine zr_iload_n h d_H_readFrame_9 rfl rfl 0 rfl ?_
  rcases zx_if_some hf with ⟨hc_5, hf⟩ | ⟨hc_5, hf⟩
  · refine zr_if_eq_t (tgt := 24) h d_H_readFrame_10 rfl hc_5 ?_
    refine zr_aload_n h d_H_readFrame_24 rfl rfl 1 rfl ?_
    refine zr_getR h d_H_readFrame_25 rfl fl_H_30 sh_11 rfl ?_
    refine zr_iconst (v := (1 : Int32)) h d_H_readFrame_28 rfl (by decide) ?_
    obtain ⟨r_7, G_6, hq_8, hf⟩ := zx_bd_some hf
    refine zr_callVI (As := [.int (1 : Int32)]) (b := 13) h (c_U_nextBits_13 _ _ _ _ _ (1 : Int32) G_1 r_7 G_6 hq_8) cc_H_74 d_H_readFrame_29 rfl rfl rfl sh_13 ⟨rfl, rfl, by decide, by decide⟩ (Nat.le_of_ble_eq_true rfl) ?_
    obtain ⟨x2_9, ex2_9, hf⟩ := zx_lt_some hf
    refine zr_istore_n h d_H_readFrame_32 rfl rfl (by decide) ex2_9 rfl ?_
    refine zr_iload_n h d_H_readFrame_33 rfl rfl 0 rfl ?_
    rcases zx_if_some hf with ⟨hc_10, hf⟩ | ⟨hc_10, hf⟩
    · refine zr_if_eq_t (tgt := 48) h d_H_readFrame_34 rfl hc_10 ?_
      refine zr_aload_n h d_H_readFrame_48 rfl rfl 2 rfl ?_
      refine zr_aload_n h d_H_readFrame_49 rfl rfl 2 rfl ?_
      refine zr_getR h d_H_readFrame_50 rfl fl_H_30 sh_11 rfl ?_
      refine zr_bipush (v := (6 : Int32)) h d_H_readFrame_53 rfl (by decide) ?_
      obtain ⟨r_12, G_11, hq_13, hf⟩ := zx_bd_some hf
      refine zr_callVI (As := [.int (6 : Int32)]) (b := 13) h (c_U_nextBits_13 _ _ _ _ _ (6 : Int32) G_6 r_12 G_11 hq_13) cc_H_74 d_H_readFrame_55 rfl rfl rfl sh_13 ⟨rfl, rfl, by decide, by decide⟩ (Nat.le_of_ble_eq_true rfl) ?_
      obtain ⟨G_14, eG_14, hf⟩ := zx_lt_some hf
      refine zr_putI h d_H_readFrame_58 rfl fl_H_97 pl_H_10 sh_11 rfl rfl rfl eG_14 ?_
      refine zr_aload_n h d_H_readFrame_61 rfl rfl 2 rfl ?_
      refine zr_aload_n h d_H_readFrame_62 rfl rfl 2 rfl ?_
      refine zr_getR h d_H_readFrame_63 rfl fl_H_30 sh_11 rfl ?_
      refine zr_iconst (v := (1 : Int32)) h d_H_readFrame_66 rfl (by decide) ?_
      obtain ⟨r_16, G_15, hq_17, hf⟩ := zx_bd_some hf
      refine zr_callVI (As := [.int (1 : Int32)]) (b := 13) h (c_U_nextBits_13 _ _ _ _ _ (1 : Int32) G_14 r_16 G_15 hq_17) cc_H_74 d_H_readFrame_67 rfl rfl rfl sh_13 ⟨rfl, rfl, by decide, by decide⟩ (Nat.le_of_ble_eq_true rfl) ?_
      refine zr_iconst (v := (1 : Int32)) h d_H_readFrame_70 rfl (by decide) ?_
      rcases zx_if_some hf with ⟨hc_18, hf⟩ | ⟨hc_18, hf⟩
      · refine zr_icmp_ne_t (tgt := 78) h d_H_readFrame_71 rfl hc_18 ?_
        refine zr_iconst (v := (0 : Int32)) h d_H_readFrame_78 rfl (by decide) ?_
        refine zr_sub [2] rfl ?_
        exact z_H_readFrame_79 h hE (0 : Int32) G_15 hf
      · refine zr_icmp_ne_f h 78 d_H_readFrame_71 rfl rfl hc_18 ?_
        refine zr_iconst (v := (1 : Int32)) h d_H_readFrame_74 rfl (by decide) ?_
        refine zr_goto (tgt := 79) h d_H_readFrame_75 rfl ?_
        refine zr_sub [2] rfl ?_
        exact z_H_readFrame_79 h hE (1 : Int32) G_15 hf
    · refine zr_if_eq_f h 48 d_H_readFrame_34 rfl rfl hc_10 ?_
      refine zr_iload_n h d_H_readFrame_37 rfl rfl 0 rfl ?_
      rcases zx_if_some hf with ⟨hc_19, hf⟩ | ⟨hc_19, hf⟩
      · refine zr_if_ge_t (tgt := 46) h d_H_readFrame_38 rfl hc_19 ?_
        refine zr_iconst (v := (5 : Int32)) h d_H_readFrame_46 rfl (by decide) ?_
        refine zr_sub [] rfl ?_
        exact z_H_readFrame_47 h hE (5 : Int32) G_6 hf
      · refine zr_if_ge_f h 46 d_H_readFrame_38 rfl rfl hc_19 ?_
        refine zr_bipush (v := (7 : Int32)) h d_H_readFrame_41 rfl (by decide) ?_
        refine zr_goto (tgt := 47) h d_H_readFrame_43 rfl ?_
        refine zr_sub [] rfl ?_
        exact z_H_readFrame_47 h hE (7 : Int32) G_6 hf
  · refine zr_if_eq_f h 24 d_H_readFrame_10 rfl rfl hc_5 ?_
    refine zr_iload_n h d_H_readFrame_13 rfl rfl 0 rfl ?_
    rcases zx_if_some hf with ⟨hc_20, hf⟩ | ⟨hc_20, hf⟩
    · refine zr_if_ge_t (tgt := 22) h d_H_readFrame_14 rfl hc_20 ?_
      refine zr_iconst (v := (5 : Int32)) h d_H_readFrame_22 rfl (by decide) ?_
      refine zr_sub [] rfl ?_
      exact z_H_readFrame_23 h hE (5 : Int32) G_1 hf
    · refine zr_if_ge_f h 22 d_H_readFrame_14 rfl rfl hc_20 ?_
      refine zr_bipush (v := (7 : Int32)) h d_H_readFrame_17 rfl (by decide) ?_
      refine zr_goto (tgt := 23) h d_H_readFrame_19 rfl ?_
      refine zr_sub [] rfl ?_
      exact z_H_readFrame_23 h hE (7 : Int32) G_1 hf
theorem c_H_readFrame (l : Launch) (D : va_G) (cA : ClassId) (ad : Nat → Nat) (A : Nat → Prop) (G : zx_G) (r : Int32) (G1 : zx_G) (hf : f_H_readFrame G = some (r, G1)) : zx_met l y_H_readFrame M_H_readFrame [.ref (ad 11)] D cA ad A G r G1 :=
  zx_toMet (by decide) rfl (Nat.le_of_ble_eq_true rfl) (fun κ h hE => by exact z_H_readFrame_0 h hE G hf)

def f_I_agrees_38 (G : zx_G) : Option (Int32 × zx_G) :=
  zx_gd (zx_01 (0 : Int32)) <| some ((0 : Int32), G)
def f_I_agrees_104 : Nat → Int32 → Int32 → Int32 → Int32 → zx_G → Option (Int32 × zx_G)
  | 0, _, _, _, _, _ => none
  | n + 1, x4, x5, x7, x8, G =>
    zx_if (x4 < x8)
      (zx_gd (zx_01 (1 : Int32)) <| some ((1 : Int32), G))
      (zx_gd (zx_in (x7 + x8) 240) <|
      zx_if ((G 1 (Int32.toNatClampNeg (x7 + x8))) = x5)
        (zx_lt (x8 + (1 : Int32)) fun x8_5 =>
        f_I_agrees_104 n x4 x5 x7 x8_5 G)
        (zx_gd (zx_01 (0 : Int32)) <| some ((0 : Int32), G)))
def f_I_agrees (x1 x2 x3 x4 x5 : Int32) (G : zx_G) : Option (Int32 × zx_G) :=
  zx_gd (zx_in (G 8 8) 16) <|
  zx_lt (G 4 (Int32.toNatClampNeg (G 8 8))) fun x6_2 =>
  zx_gd (zx_in x6_2 240) <|
  zx_if (¬ (G 1 (Int32.toNatClampNeg x6_2)) = x1)
    (f_I_agrees_38 G)
    (zx_gd (zx_in (x6_2 + (1 : Int32)) 240) <|
    zx_if ((G 1 (Int32.toNatClampNeg (x6_2 + (1 : Int32)))) = x2)
      (zx_gd (zx_in (G 8 9) 16) <|
      zx_gd (zx_in (G 4 (Int32.toNatClampNeg (G 8 9))) 240) <|
      zx_if ((G 1 (Int32.toNatClampNeg (G 4 (Int32.toNatClampNeg (G 8 9))))) = x3)
        (zx_if (¬ (G 8 10) = (-1 : Int32))
          (zx_gd (zx_in (G 8 10) 16) <|
          zx_lt (G 4 (Int32.toNatClampNeg (G 8 10))) fun x7_12 =>
          zx_gd (zx_in x7_12 240) <|
          zx_if ((G 1 (Int32.toNatClampNeg x7_12)) = x4)
            (zx_lt (1 : Int32) fun x8_15 =>
            f_I_agrees_104 2048 x4 x5 x7_12 x8_15 G)
            (zx_gd (zx_01 (0 : Int32)) <| some ((0 : Int32), G)))
          (zx_gd (zx_01 (1 : Int32)) <| some ((1 : Int32), G)))
        (zx_gd (zx_01 (0 : Int32)) <| some ((0 : Int32), G)))
      (f_I_agrees_38 G))
set_option maxRecDepth 100000 in
set_option maxHeartbeats 4000000 in
theorem z_I_agrees_38 {κ : zx_K} {ad : Nat → Nat} {r : Int32} {G1 : zx_G} (h : zx_C M_I_agrees κ ad) (hE : zx_E M_I_agrees κ ad r G1) (G : zx_G) (hf : f_I_agrees_38 G = some (r, G1)) : zx_Z κ ad 38 [] [] G := by
  unfold f_I_agrees_38 at hf
  refine zr_iconst (v := (0 : Int32)) h d_I_agrees_38 rfl (by decide) ?_
  obtain ⟨hb_1, hf⟩ := zx_gd_some hf
  exact zr_zret h hE d_I_agrees_39 rfl hb_1 hf
set_option maxRecDepth 100000 in
set_option maxHeartbeats 4000000 in
theorem z_I_agrees_104 {κ : zx_K} {ad : Nat → Nat} {r : Int32} {G1 : zx_G} (h : zx_C M_I_agrees κ ad) (hE : zx_E M_I_agrees κ ad r G1) : ∀ (n : Nat) (x4 x5 x7 x8 : Int32) (G : zx_G), f_I_agrees_104 n x4 x5 x7 x8 G = some (r, G1) → zx_Z κ ad 104 [(0, .ref (ad 8)), (4, .int x4), (5, .int x5), (7, .int x7), (8, .int x8)] [] G := by
  intro n
  induction n with
  | zero => intro x4 x5 x7 x8 G hf; cases hf
  | succ n ih =>
    intro x4 x5 x7 x8 G hf
    unfold f_I_agrees_104 at hf
    refine zr_iload h d_I_agrees_104 rfl 4 rfl ?_
    refine zr_iload h d_I_agrees_106 rfl 1 rfl ?_
    rcases zx_if_some hf with ⟨hc_1, hf⟩ | ⟨hc_1, hf⟩
    · refine zr_icmp_gt_t (tgt := 134) h d_I_agrees_108 rfl hc_1 ?_
      refine zr_iconst (v := (1 : Int32)) h d_I_agrees_134 rfl (by decide) ?_
      obtain ⟨hb_2, hf⟩ := zx_gd_some hf
      exact zr_zret h hE d_I_agrees_135 rfl hb_2 hf
    · refine zr_icmp_gt_f h 134 d_I_agrees_108 rfl rfl hc_1 ?_
      refine zr_aload_n h d_I_agrees_111 rfl rfl 0 rfl ?_
      refine zr_getR h d_I_agrees_112 rfl fl_I_15 sh_8 rfl ?_
      refine zr_iload h d_I_agrees_115 rfl 3 rfl ?_
      refine zr_iload h d_I_agrees_117 rfl 4 rfl ?_
      refine zr_iadd h d_I_agrees_119 rfl ?_
      obtain ⟨hb_3, hf⟩ := zx_gd_some hf
      refine zr_iald h d_I_agrees_120 rfl sh_1 hb_3 ?_
      refine zr_iload h d_I_agrees_121 rfl 2 rfl ?_
      rcases zx_if_some hf with ⟨hc_4, hf⟩ | ⟨hc_4, hf⟩
      · refine zr_icmp_eq_t (tgt := 128) h d_I_agrees_123 rfl hc_4 ?_
        obtain ⟨x8_5, ex8_5, hf⟩ := zx_lt_some hf
        refine zr_iinc (j := 4) h d_I_agrees_128 rfl rfl (by decide) ex8_5 (by decide) rfl ?_
        refine zr_goto (tgt := 104) h d_I_agrees_131 rfl ?_
        refine zr_sub [1, 2, 3, 4, 0] rfl ?_
        exact ih x4 x5 x7 x8_5 G hf
      · refine zr_icmp_eq_f h 128 d_I_agrees_123 rfl rfl hc_4 ?_
        refine zr_iconst (v := (0 : Int32)) h d_I_agrees_126 rfl (by decide) ?_
        obtain ⟨hb_6, hf⟩ := zx_gd_some hf
        exact zr_zret h hE d_I_agrees_127 rfl hb_6 hf
set_option maxRecDepth 100000 in
set_option maxHeartbeats 4000000 in
theorem z_I_agrees_0 {κ : zx_K} {ad : Nat → Nat} {r : Int32} {G1 : zx_G} (h : zx_C M_I_agrees κ ad) (hE : zx_E M_I_agrees κ ad r G1) (x1 x2 x3 x4 x5 : Int32) (G : zx_G) (hf : f_I_agrees x1 x2 x3 x4 x5 G = some (r, G1)) : zx_Z κ ad 0 [(0, .ref (ad 8)), (1, .int x1), (2, .int x2), (3, .int x3), (4, .int x4), (5, .int x5)] [] G := by
  unfold f_I_agrees at hf
  refine zr_aload_n h d_I_agrees_0 rfl rfl 0 rfl ?_
  refine zr_getR h d_I_agrees_1 rfl fl_I_18 sh_8 rfl ?_
  refine zr_getR h d_I_agrees_4 rfl fl_I_52 sh_2 rfl ?_
  refine zr_aload_n h d_I_agrees_7 rfl rfl 0 rfl ?_
  refine zr_getI h d_I_agrees_8 rfl fl_I_91 sh_8 rfl ?_
  obtain ⟨hb_1, hf⟩ := zx_gd_some hf
  refine zr_iald h d_I_agrees_11 rfl sh_4 hb_1 ?_
  obtain ⟨x6_2, ex6_2, hf⟩ := zx_lt_some hf
  refine zr_istore h d_I_agrees_12 rfl (by decide) ex6_2 rfl ?_
  refine zr_aload_n h d_I_agrees_14 rfl rfl 1 rfl ?_
  refine zr_getR h d_I_agrees_15 rfl fl_I_15 sh_8 rfl ?_
  refine zr_iload h d_I_agrees_18 rfl 0 rfl ?_
  obtain ⟨hb_3, hf⟩ := zx_gd_some hf
  refine zr_iald h d_I_agrees_20 rfl sh_1 hb_3 ?_
  refine zr_iload_n h d_I_agrees_21 rfl rfl 2 rfl ?_
  rcases zx_if_some hf with ⟨hc_4, hf⟩ | ⟨hc_4, hf⟩
  · refine zr_icmp_ne_t (tgt := 38) h d_I_agrees_22 rfl hc_4 ?_
    refine zr_sub [] rfl ?_
    exact z_I_agrees_38 h hE G hf
  · refine zr_icmp_ne_f h 38 d_I_agrees_22 rfl rfl hc_4 ?_
    refine zr_aload_n h d_I_agrees_25 rfl rfl 1 rfl ?_
    refine zr_getR h d_I_agrees_26 rfl fl_I_15 sh_8 rfl ?_
    refine zr_iload h d_I_agrees_29 rfl 0 rfl ?_
    refine zr_iconst (v := (1 : Int32)) h d_I_agrees_31 rfl (by decide) ?_
    refine zr_iadd h d_I_agrees_32 rfl ?_
    obtain ⟨hb_5, hf⟩ := zx_gd_some hf
    refine zr_iald h d_I_agrees_33 rfl sh_1 hb_5 ?_
    refine zr_iload_n h d_I_agrees_34 rfl rfl 3 rfl ?_
    rcases zx_if_some hf with ⟨hc_6, hf⟩ | ⟨hc_6, hf⟩
    · refine zr_icmp_eq_t (tgt := 40) h d_I_agrees_35 rfl hc_6 ?_
      refine zr_aload_n h d_I_agrees_40 rfl rfl 1 rfl ?_
      refine zr_getR h d_I_agrees_41 rfl fl_I_15 sh_8 rfl ?_
      refine zr_aload_n h d_I_agrees_44 rfl rfl 1 rfl ?_
      refine zr_getR h d_I_agrees_45 rfl fl_I_18 sh_8 rfl ?_
      refine zr_getR h d_I_agrees_48 rfl fl_I_52 sh_2 rfl ?_
      refine zr_aload_n h d_I_agrees_51 rfl rfl 1 rfl ?_
      refine zr_getI h d_I_agrees_52 rfl fl_I_94 sh_8 rfl ?_
      obtain ⟨hb_7, hf⟩ := zx_gd_some hf
      refine zr_iald h d_I_agrees_55 rfl sh_4 hb_7 ?_
      obtain ⟨hb_8, hf⟩ := zx_gd_some hf
      refine zr_iald h d_I_agrees_56 rfl sh_1 hb_8 ?_
      refine zr_iload_n h d_I_agrees_57 rfl rfl 4 rfl ?_
      rcases zx_if_some hf with ⟨hc_9, hf⟩ | ⟨hc_9, hf⟩
      · refine zr_icmp_eq_t (tgt := 63) h d_I_agrees_58 rfl hc_9 ?_
        refine zr_aload_n h d_I_agrees_63 rfl rfl 1 rfl ?_
        refine zr_getI h d_I_agrees_64 rfl fl_I_97 sh_8 rfl ?_
        refine zr_iconst (v := (-1 : Int32)) h d_I_agrees_67 rfl (by decide) ?_
        rcases zx_if_some hf with ⟨hc_10, hf⟩ | ⟨hc_10, hf⟩
        · refine zr_icmp_ne_t (tgt := 73) h d_I_agrees_68 rfl hc_10 ?_
          refine zr_aload_n h d_I_agrees_73 rfl rfl 1 rfl ?_
          refine zr_getR h d_I_agrees_74 rfl fl_I_18 sh_8 rfl ?_
          refine zr_getR h d_I_agrees_77 rfl fl_I_52 sh_2 rfl ?_
          refine zr_aload_n h d_I_agrees_80 rfl rfl 1 rfl ?_
          refine zr_getI h d_I_agrees_81 rfl fl_I_97 sh_8 rfl ?_
          obtain ⟨hb_11, hf⟩ := zx_gd_some hf
          refine zr_iald h d_I_agrees_84 rfl sh_4 hb_11 ?_
          obtain ⟨x7_12, ex7_12, hf⟩ := zx_lt_some hf
          refine zr_istore h d_I_agrees_85 rfl (by decide) ex7_12 rfl ?_
          refine zr_aload_n h d_I_agrees_87 rfl rfl 2 rfl ?_
          refine zr_getR h d_I_agrees_88 rfl fl_I_15 sh_8 rfl ?_
          refine zr_iload h d_I_agrees_91 rfl 0 rfl ?_
          obtain ⟨hb_13, hf⟩ := zx_gd_some hf
          refine zr_iald h d_I_agrees_93 rfl sh_1 hb_13 ?_
          refine zr_iload h d_I_agrees_94 rfl 6 rfl ?_
          rcases zx_if_some hf with ⟨hc_14, hf⟩ | ⟨hc_14, hf⟩
          · refine zr_icmp_eq_t (tgt := 101) h d_I_agrees_96 rfl hc_14 ?_
            refine zr_iconst (v := (1 : Int32)) h d_I_agrees_101 rfl (by decide) ?_
            obtain ⟨x8_15, ex8_15, hf⟩ := zx_lt_some hf
            refine zr_istore h d_I_agrees_102 rfl (by decide) ex8_15 rfl ?_
            refine zr_sub [3, 7, 8, 1, 0] rfl ?_
            exact z_I_agrees_104 h hE 2048 x4 x5 x7_12 x8_15 G hf
          · refine zr_icmp_eq_f h 101 d_I_agrees_96 rfl rfl hc_14 ?_
            refine zr_iconst (v := (0 : Int32)) h d_I_agrees_99 rfl (by decide) ?_
            obtain ⟨hb_16, hf⟩ := zx_gd_some hf
            exact zr_zret h hE d_I_agrees_100 rfl hb_16 hf
        · refine zr_icmp_ne_f h 73 d_I_agrees_68 rfl rfl hc_10 ?_
          refine zr_iconst (v := (1 : Int32)) h d_I_agrees_71 rfl (by decide) ?_
          obtain ⟨hb_17, hf⟩ := zx_gd_some hf
          exact zr_zret h hE d_I_agrees_72 rfl hb_17 hf
      · refine zr_icmp_eq_f h 63 d_I_agrees_58 rfl rfl hc_9 ?_
        refine zr_iconst (v := (0 : Int32)) h d_I_agrees_61 rfl (by decide) ?_
        obtain ⟨hb_18, hf⟩ := zx_gd_some hf
        exact zr_zret h hE d_I_agrees_62 rfl hb_18 hf
    · refine zr_icmp_eq_f h 40 d_I_agrees_35 rfl rfl hc_6 ?_
      refine zr_sub [] rfl ?_
      exact z_I_agrees_38 h hE G hf
theorem c_I_agrees (l : Launch) (D : va_G) (cA : ClassId) (ad : Nat → Nat) (A : Nat → Prop) (x1 x2 x3 x4 x5 : Int32) (G : zx_G) (r : Int32) (G1 : zx_G) (hf : f_I_agrees x1 x2 x3 x4 x5 G = some (r, G1)) : zx_met l y_I_agrees M_I_agrees [.ref (ad 8), .int x1, .int x2, .int x3, .int x4, .int x5] D cA ad A G r G1 :=
  zx_toMet (by decide) rfl (Nat.le_of_ble_eq_true rfl) (fun κ h hE => by exact z_I_agrees_0 h hE x1 x2 x3 x4 x5 G hf)

def f_H_readSequence_93 (s0 : Int32) (G : zx_G) : Option (Int32 × zx_G) :=
  some (s0, G)
def f_H_readSequence_201 (s0 : Int32) (G : zx_G) : Option (Int32 × zx_G) :=
  some (s0, G)
def f_H_readSequence_156 (x1 x2 s1 : Int32) (G : zx_G) : Option (Int32 × zx_G) :=
  zx_lt (zx_up G 11 9 s1) fun G_1 =>
  zx_gd (zx_01 (1 : Int32)) <|
  zx_lt (zx_up G_1 11 3 (1 : Int32)) fun G_3 =>
  zx_bd (f_I_agrees (G_3 11 7) (G_3 11 8) (x1 + ((4 : Int32) * x2)) (G_3 11 6) (G_3 11 9) G_3) fun r_5 G_4 =>
  zx_if (r_5 = 0)
    (f_H_readSequence_201 (6 : Int32) G_4)
    (f_H_readSequence_201 (0 : Int32) G_4)
def f_H_readSequence_140 (x1 x2 s1 : Int32) (G : zx_G) : Option (Int32 × zx_G) :=
  zx_lt (zx_up G 11 6 s1) fun G_1 =>
  zx_if (¬ x2 = (1 : Int32))
    (f_H_readSequence_156 x1 x2 (8 : Int32) G_1)
    (f_H_readSequence_156 x1 x2 (10 : Int32) G_1)
def f_H_readSequence_127 (x1 x2 s1 : Int32) (G : zx_G) : Option (Int32 × zx_G) :=
  zx_gd (zx_01 s1) <|
  zx_lt (zx_up G 11 5 s1) fun G_2 =>
  zx_if (¬ x1 = 0)
    (f_H_readSequence_140 x1 x2 (3 : Int32) G_2)
    (f_H_readSequence_140 x1 x2 (1 : Int32) G_2)
def f_H_readSequence_62 : Nat → Int32 → Int32 → Int32 → zx_G → Option (Int32 × zx_G)
  | 0, _, _, _, _ => none
  | n + 1, x1, x2, x3, G =>
    zx_if ((2 : Int32) ≤ x3)
      (zx_bd (f_U_nextBits_13 (1 : Int32) G) fun r_3 G_2 =>
      zx_lt r_3 fun x3_5 =>
      zx_if (0 ≤ x3_5)
        (zx_if (¬ x3_5 = (1 : Int32))
          (f_H_readSequence_127 x1 x2 (0 : Int32) G_2)
          (f_H_readSequence_127 x1 x2 (1 : Int32) G_2))
        (some ((7 : Int32), G_2)))
      (zx_bd (f_U_nextBits_13 (1 : Int32) G) fun r_9 G_8 =>
      zx_lt r_9 fun x4_11 =>
      zx_if (x4_11 = 0)
        (zx_lt (x3 + (1 : Int32)) fun x3_13 =>
        f_H_readSequence_62 n x1 x2 x3_13 G_8)
        (zx_if (0 ≤ x4_11)
          (f_H_readSequence_93 (5 : Int32) G_8)
          (f_H_readSequence_93 (7 : Int32) G_8)))
def f_H_readSequence (G : zx_G) : Option (Int32 × zx_G) :=
  zx_bd (f_U_nextBits_13 (2 : Int32) G) fun r_2 G_1 =>
  zx_lt r_2 fun x1_4 =>
  zx_if (0 ≤ x1_4)
    (zx_if (x1_4 ≤ (1 : Int32))
      (zx_bd (f_U_nextBits_13 (1 : Int32) G_1) fun r_8 G_7 =>
      zx_lt r_8 fun x2_10 =>
      zx_bd (f_U_nextBits_13 (4 : Int32) G_7) fun r_12 G_11 =>
      zx_lt (zx_up G_11 11 7 (r_12 + (1 : Int32))) fun G_14 =>
      zx_bd (f_U_nextBits_13 (4 : Int32) G_14) fun r_16 G_15 =>
      zx_lt (zx_up G_15 11 8 (r_16 + (1 : Int32))) fun G_18 =>
      zx_lt (0 : Int32) fun x3_19 =>
      f_H_readSequence_62 2048 x1_4 x2_10 x3_19 G_18)
      (some ((5 : Int32), G_1)))
    (some ((7 : Int32), G_1))
set_option maxRecDepth 100000 in
set_option maxHeartbeats 4000000 in
theorem z_H_readSequence_93 {κ : zx_K} {ad : Nat → Nat} {r : Int32} {G1 : zx_G} (h : zx_C M_H_readSequence κ ad) (hE : zx_E M_H_readSequence κ ad r G1) (s0 : Int32) (G : zx_G) (hf : f_H_readSequence_93 s0 G = some (r, G1)) : zx_Z κ ad 93 [] [.int s0] G := by
  unfold f_H_readSequence_93 at hf
  exact zr_iret h hE d_H_readSequence_93 rfl hf
set_option maxRecDepth 100000 in
set_option maxHeartbeats 4000000 in
theorem z_H_readSequence_201 {κ : zx_K} {ad : Nat → Nat} {r : Int32} {G1 : zx_G} (h : zx_C M_H_readSequence κ ad) (hE : zx_E M_H_readSequence κ ad r G1) (s0 : Int32) (G : zx_G) (hf : f_H_readSequence_201 s0 G = some (r, G1)) : zx_Z κ ad 201 [] [.int s0] G := by
  unfold f_H_readSequence_201 at hf
  exact zr_iret h hE d_H_readSequence_201 rfl hf
set_option maxRecDepth 100000 in
set_option maxHeartbeats 4000000 in
theorem z_H_readSequence_156 {κ : zx_K} {ad : Nat → Nat} {r : Int32} {G1 : zx_G} (h : zx_C M_H_readSequence κ ad) (hE : zx_E M_H_readSequence κ ad r G1) (x1 x2 s1 : Int32) (G : zx_G) (hf : f_H_readSequence_156 x1 x2 s1 G = some (r, G1)) : zx_Z κ ad 156 [(0, .ref (ad 11)), (1, .int x1), (2, .int x2)] [.int s1, .ref (ad 11)] G := by
  unfold f_H_readSequence_156 at hf
  obtain ⟨G_1, eG_1, hf⟩ := zx_lt_some hf
  refine zr_putI h d_H_readSequence_156 rfl fl_H_90 pl_H_9 sh_11 rfl rfl rfl eG_1 ?_
  refine zr_aload_n h d_H_readSequence_159 rfl rfl 0 rfl ?_
  refine zr_iconst (v := (1 : Int32)) h d_H_readSequence_160 rfl (by decide) ?_
  obtain ⟨hb_2, hf⟩ := zx_gd_some hf
  obtain ⟨G_3, eG_3, hf⟩ := zx_lt_some hf
  refine zr_putI h d_H_readSequence_161 rfl fl_H_33 pl_H_3 sh_11 rfl (zx_01_n hb_2) (zx_01_f hb_2) eG_3 ?_
  refine zr_aload_n h d_H_readSequence_164 rfl rfl 0 rfl ?_
  refine zr_getR h d_H_readSequence_165 rfl fl_H_9 sh_11 rfl ?_
  refine zr_aload_n h d_H_readSequence_168 rfl rfl 0 rfl ?_
  refine zr_getI h d_H_readSequence_169 rfl fl_H_78 sh_11 rfl ?_
  refine zr_aload_n h d_H_readSequence_172 rfl rfl 0 rfl ?_
  refine zr_getI h d_H_readSequence_173 rfl fl_H_81 sh_11 rfl ?_
  refine zr_iload_n h d_H_readSequence_176 rfl rfl 1 rfl ?_
  refine zr_iconst (v := (4 : Int32)) h d_H_readSequence_177 rfl (by decide) ?_
  refine zr_iload_n h d_H_readSequence_178 rfl rfl 2 rfl ?_
  refine zr_imul h d_H_readSequence_179 rfl ?_
  refine zr_iadd h d_H_readSequence_180 rfl ?_
  refine zr_aload_n h d_H_readSequence_181 rfl rfl 0 rfl ?_
  refine zr_getI h d_H_readSequence_182 rfl fl_H_87 sh_11 rfl ?_
  refine zr_aload_n h d_H_readSequence_185 rfl rfl 0 rfl ?_
  refine zr_getI h d_H_readSequence_186 rfl fl_H_90 sh_11 rfl ?_
  obtain ⟨r_5, G_4, hq_6, hf⟩ := zx_bd_some hf
  refine zr_callVI (As := [.int (G_3 11 7), .int (G_3 11 8), .int (x1 + ((4 : Int32) * x2)), .int (G_3 11 6), .int (G_3 11 9)]) (b := 8) h (c_I_agrees _ _ _ _ _ (G_3 11 7) (G_3 11 8) (x1 + ((4 : Int32) * x2)) (G_3 11 6) (G_3 11 9) G_3 r_5 G_4 hq_6) cc_H_93 d_H_readSequence_189 rfl rfl rfl sh_8 ⟨rfl, rfl, by decide, by decide⟩ (Nat.le_of_ble_eq_true rfl) ?_
  rcases zx_if_some hf with ⟨hc_7, hf⟩ | ⟨hc_7, hf⟩
  · refine zr_if_eq_t (tgt := 199) h d_H_readSequence_192 rfl hc_7 ?_
    refine zr_bipush (v := (6 : Int32)) h d_H_readSequence_199 rfl (by decide) ?_
    refine zr_sub [] rfl ?_
    exact z_H_readSequence_201 h hE (6 : Int32) G_4 hf
  · refine zr_if_eq_f h 199 d_H_readSequence_192 rfl rfl hc_7 ?_
    refine zr_iconst (v := (0 : Int32)) h d_H_readSequence_195 rfl (by decide) ?_
    refine zr_goto (tgt := 201) h d_H_readSequence_196 rfl ?_
    refine zr_sub [] rfl ?_
    exact z_H_readSequence_201 h hE (0 : Int32) G_4 hf
set_option maxRecDepth 100000 in
set_option maxHeartbeats 4000000 in
theorem z_H_readSequence_140 {κ : zx_K} {ad : Nat → Nat} {r : Int32} {G1 : zx_G} (h : zx_C M_H_readSequence κ ad) (hE : zx_E M_H_readSequence κ ad r G1) (x1 x2 s1 : Int32) (G : zx_G) (hf : f_H_readSequence_140 x1 x2 s1 G = some (r, G1)) : zx_Z κ ad 140 [(0, .ref (ad 11)), (1, .int x1), (2, .int x2)] [.int s1, .ref (ad 11)] G := by
  unfold f_H_readSequence_140 at hf
  obtain ⟨G_1, eG_1, hf⟩ := zx_lt_some hf
  refine zr_putI h d_H_readSequence_140 rfl fl_H_87 pl_H_6 sh_11 rfl rfl rfl eG_1 ?_
  refine zr_aload_n h d_H_readSequence_143 rfl rfl 0 rfl ?_
  refine zr_iload_n h d_H_readSequence_144 rfl rfl 2 rfl ?_
  refine zr_iconst (v := (1 : Int32)) h d_H_readSequence_145 rfl (by decide) ?_
  rcases zx_if_some hf with ⟨hc_2, hf⟩ | ⟨hc_2, hf⟩
  · refine zr_icmp_ne_t (tgt := 154) h d_H_readSequence_146 rfl hc_2 ?_
    refine zr_bipush (v := (8 : Int32)) h d_H_readSequence_154 rfl (by decide) ?_
    exact z_H_readSequence_156 h hE x1 x2 (8 : Int32) G_1 hf
  · refine zr_icmp_ne_f h 154 d_H_readSequence_146 rfl rfl hc_2 ?_
    refine zr_bipush (v := (10 : Int32)) h d_H_readSequence_149 rfl (by decide) ?_
    refine zr_goto (tgt := 156) h d_H_readSequence_151 rfl ?_
    exact z_H_readSequence_156 h hE x1 x2 (10 : Int32) G_1 hf
set_option maxRecDepth 100000 in
set_option maxHeartbeats 4000000 in
theorem z_H_readSequence_127 {κ : zx_K} {ad : Nat → Nat} {r : Int32} {G1 : zx_G} (h : zx_C M_H_readSequence κ ad) (hE : zx_E M_H_readSequence κ ad r G1) (x1 x2 s1 : Int32) (G : zx_G) (hf : f_H_readSequence_127 x1 x2 s1 G = some (r, G1)) : zx_Z κ ad 127 [(0, .ref (ad 11)), (1, .int x1), (2, .int x2)] [.int s1, .ref (ad 11)] G := by
  unfold f_H_readSequence_127 at hf
  obtain ⟨hb_1, hf⟩ := zx_gd_some hf
  obtain ⟨G_2, eG_2, hf⟩ := zx_lt_some hf
  refine zr_putI h d_H_readSequence_127 rfl fl_H_84 pl_H_5 sh_11 rfl (zx_01_n hb_1) (zx_01_f hb_1) eG_2 ?_
  refine zr_aload_n h d_H_readSequence_130 rfl rfl 0 rfl ?_
  refine zr_iload_n h d_H_readSequence_131 rfl rfl 1 rfl ?_
  rcases zx_if_some hf with ⟨hc_3, hf⟩ | ⟨hc_3, hf⟩
  · refine zr_if_ne_t (tgt := 139) h d_H_readSequence_132 rfl hc_3 ?_
    refine zr_iconst (v := (3 : Int32)) h d_H_readSequence_139 rfl (by decide) ?_
    exact z_H_readSequence_140 h hE x1 x2 (3 : Int32) G_2 hf
  · refine zr_if_ne_f h 139 d_H_readSequence_132 rfl rfl hc_3 ?_
    refine zr_iconst (v := (1 : Int32)) h d_H_readSequence_135 rfl (by decide) ?_
    refine zr_goto (tgt := 140) h d_H_readSequence_136 rfl ?_
    exact z_H_readSequence_140 h hE x1 x2 (1 : Int32) G_2 hf
set_option maxRecDepth 100000 in
set_option maxHeartbeats 4000000 in
theorem z_H_readSequence_62 {κ : zx_K} {ad : Nat → Nat} {r : Int32} {G1 : zx_G} (h : zx_C M_H_readSequence κ ad) (hE : zx_E M_H_readSequence κ ad r G1) : ∀ (n : Nat) (x1 x2 x3 : Int32) (G : zx_G), f_H_readSequence_62 n x1 x2 x3 G = some (r, G1) → zx_Z κ ad 62 [(0, .ref (ad 11)), (1, .int x1), (2, .int x2), (3, .int x3)] [] G := by
  intro n
  induction n with
  | zero => intro x1 x2 x3 G hf; cases hf
  | succ n ih =>
    intro x1 x2 x3 G hf
    unfold f_H_readSequence_62 at hf
    refine zr_iload_n h d_H_readSequence_62 rfl rfl 3 rfl ?_
    refine zr_iconst (v := (2 : Int32)) h d_H_readSequence_63 rfl (by decide) ?_
    rcases zx_if_some hf with ⟨hc_1, hf⟩ | ⟨hc_1, hf⟩
    · refine zr_icmp_ge_t (tgt := 100) h d_H_readSequence_64 rfl hc_1 ?_
      refine zr_aload_n h d_H_readSequence_100 rfl rfl 0 rfl ?_
      refine zr_getR h d_H_readSequence_101 rfl fl_H_30 sh_11 rfl ?_
      refine zr_iconst (v := (1 : Int32)) h d_H_readSequence_104 rfl (by decide) ?_
      obtain ⟨r_3, G_2, hq_4, hf⟩ := zx_bd_some hf
      refine zr_callVI (As := [.int (1 : Int32)]) (b := 13) h (c_U_nextBits_13 _ _ _ _ _ (1 : Int32) G r_3 G_2 hq_4) cc_H_74 d_H_readSequence_105 rfl rfl rfl sh_13 ⟨rfl, rfl, by decide, by decide⟩ (Nat.le_of_ble_eq_true rfl) ?_
      obtain ⟨x3_5, ex3_5, hf⟩ := zx_lt_some hf
      refine zr_istore_n h d_H_readSequence_108 rfl rfl (by decide) ex3_5 rfl ?_
      refine zr_iload_n h d_H_readSequence_109 rfl rfl 0 rfl ?_
      rcases zx_if_some hf with ⟨hc_6, hf⟩ | ⟨hc_6, hf⟩
      · refine zr_if_ge_t (tgt := 116) h d_H_readSequence_110 rfl hc_6 ?_
        refine zr_aload_n h d_H_readSequence_116 rfl rfl 1 rfl ?_
        refine zr_iload_n h d_H_readSequence_117 rfl rfl 0 rfl ?_
        refine zr_iconst (v := (1 : Int32)) h d_H_readSequence_118 rfl (by decide) ?_
        rcases zx_if_some hf with ⟨hc_7, hf⟩ | ⟨hc_7, hf⟩
        · refine zr_icmp_ne_t (tgt := 126) h d_H_readSequence_119 rfl hc_7 ?_
          refine zr_iconst (v := (0 : Int32)) h d_H_readSequence_126 rfl (by decide) ?_
          refine zr_sub [1, 2, 3] rfl ?_
          exact z_H_readSequence_127 h hE x1 x2 (0 : Int32) G_2 hf
        · refine zr_icmp_ne_f h 126 d_H_readSequence_119 rfl rfl hc_7 ?_
          refine zr_iconst (v := (1 : Int32)) h d_H_readSequence_122 rfl (by decide) ?_
          refine zr_goto (tgt := 127) h d_H_readSequence_123 rfl ?_
          refine zr_sub [1, 2, 3] rfl ?_
          exact z_H_readSequence_127 h hE x1 x2 (1 : Int32) G_2 hf
      · refine zr_if_ge_f h 116 d_H_readSequence_110 rfl rfl hc_6 ?_
        refine zr_bipush (v := (7 : Int32)) h d_H_readSequence_113 rfl (by decide) ?_
        exact zr_iret h hE d_H_readSequence_115 rfl hf
    · refine zr_icmp_ge_f h 100 d_H_readSequence_64 rfl rfl hc_1 ?_
      refine zr_aload_n h d_H_readSequence_67 rfl rfl 0 rfl ?_
      refine zr_getR h d_H_readSequence_68 rfl fl_H_30 sh_11 rfl ?_
      refine zr_iconst (v := (1 : Int32)) h d_H_readSequence_71 rfl (by decide) ?_
      obtain ⟨r_9, G_8, hq_10, hf⟩ := zx_bd_some hf
      refine zr_callVI (As := [.int (1 : Int32)]) (b := 13) h (c_U_nextBits_13 _ _ _ _ _ (1 : Int32) G r_9 G_8 hq_10) cc_H_74 d_H_readSequence_72 rfl rfl rfl sh_13 ⟨rfl, rfl, by decide, by decide⟩ (Nat.le_of_ble_eq_true rfl) ?_
      obtain ⟨x4_11, ex4_11, hf⟩ := zx_lt_some hf
      refine zr_istore h d_H_readSequence_75 rfl (by decide) ex4_11 rfl ?_
      refine zr_iload h d_H_readSequence_77 rfl 0 rfl ?_
      rcases zx_if_some hf with ⟨hc_12, hf⟩ | ⟨hc_12, hf⟩
      · refine zr_if_eq_t (tgt := 94) h d_H_readSequence_79 rfl hc_12 ?_
        obtain ⟨x3_13, ex3_13, hf⟩ := zx_lt_some hf
        refine zr_iinc (j := 4) h d_H_readSequence_94 rfl rfl (by decide) ex3_13 (by decide) rfl ?_
        refine zr_goto (tgt := 62) h d_H_readSequence_97 rfl ?_
        refine zr_sub [2, 3, 4, 0] rfl ?_
        exact ih x1 x2 x3_13 G_8 hf
      · refine zr_if_eq_f h 94 d_H_readSequence_79 rfl rfl hc_12 ?_
        refine zr_iload h d_H_readSequence_82 rfl 0 rfl ?_
        rcases zx_if_some hf with ⟨hc_14, hf⟩ | ⟨hc_14, hf⟩
        · refine zr_if_ge_t (tgt := 92) h d_H_readSequence_84 rfl hc_14 ?_
          refine zr_iconst (v := (5 : Int32)) h d_H_readSequence_92 rfl (by decide) ?_
          refine zr_sub [] rfl ?_
          exact z_H_readSequence_93 h hE (5 : Int32) G_8 hf
        · refine zr_if_ge_f h 92 d_H_readSequence_84 rfl rfl hc_14 ?_
          refine zr_bipush (v := (7 : Int32)) h d_H_readSequence_87 rfl (by decide) ?_
          refine zr_goto (tgt := 93) h d_H_readSequence_89 rfl ?_
          refine zr_sub [] rfl ?_
          exact z_H_readSequence_93 h hE (7 : Int32) G_8 hf
set_option maxRecDepth 100000 in
set_option maxHeartbeats 4000000 in
theorem z_H_readSequence_0 {κ : zx_K} {ad : Nat → Nat} {r : Int32} {G1 : zx_G} (h : zx_C M_H_readSequence κ ad) (hE : zx_E M_H_readSequence κ ad r G1) (G : zx_G) (hf : f_H_readSequence G = some (r, G1)) : zx_Z κ ad 0 [(0, .ref (ad 11))] [] G := by
  unfold f_H_readSequence at hf
  refine zr_aload_n h d_H_readSequence_0 rfl rfl 0 rfl ?_
  refine zr_getR h d_H_readSequence_1 rfl fl_H_30 sh_11 rfl ?_
  refine zr_iconst (v := (2 : Int32)) h d_H_readSequence_4 rfl (by decide) ?_
  obtain ⟨r_2, G_1, hq_3, hf⟩ := zx_bd_some hf
  refine zr_callVI (As := [.int (2 : Int32)]) (b := 13) h (c_U_nextBits_13 _ _ _ _ _ (2 : Int32) G r_2 G_1 hq_3) cc_H_74 d_H_readSequence_5 rfl rfl rfl sh_13 ⟨rfl, rfl, by decide, by decide⟩ (Nat.le_of_ble_eq_true rfl) ?_
  obtain ⟨x1_4, ex1_4, hf⟩ := zx_lt_some hf
  refine zr_istore_n h d_H_readSequence_8 rfl rfl (by decide) ex1_4 rfl ?_
  refine zr_iload_n h d_H_readSequence_9 rfl rfl 0 rfl ?_
  rcases zx_if_some hf with ⟨hc_5, hf⟩ | ⟨hc_5, hf⟩
  · refine zr_if_ge_t (tgt := 16) h d_H_readSequence_10 rfl hc_5 ?_
    refine zr_iload_n h d_H_readSequence_16 rfl rfl 0 rfl ?_
    refine zr_iconst (v := (1 : Int32)) h d_H_readSequence_17 rfl (by decide) ?_
    rcases zx_if_some hf with ⟨hc_6, hf⟩ | ⟨hc_6, hf⟩
    · refine zr_icmp_le_t (tgt := 23) h d_H_readSequence_18 rfl hc_6 ?_
      refine zr_aload_n h d_H_readSequence_23 rfl rfl 1 rfl ?_
      refine zr_getR h d_H_readSequence_24 rfl fl_H_30 sh_11 rfl ?_
      refine zr_iconst (v := (1 : Int32)) h d_H_readSequence_27 rfl (by decide) ?_
      obtain ⟨r_8, G_7, hq_9, hf⟩ := zx_bd_some hf
      refine zr_callVI (As := [.int (1 : Int32)]) (b := 13) h (c_U_nextBits_13 _ _ _ _ _ (1 : Int32) G_1 r_8 G_7 hq_9) cc_H_74 d_H_readSequence_28 rfl rfl rfl sh_13 ⟨rfl, rfl, by decide, by decide⟩ (Nat.le_of_ble_eq_true rfl) ?_
      obtain ⟨x2_10, ex2_10, hf⟩ := zx_lt_some hf
      refine zr_istore_n h d_H_readSequence_31 rfl rfl (by decide) ex2_10 rfl ?_
      refine zr_aload_n h d_H_readSequence_32 rfl rfl 2 rfl ?_
      refine zr_aload_n h d_H_readSequence_33 rfl rfl 2 rfl ?_
      refine zr_getR h d_H_readSequence_34 rfl fl_H_30 sh_11 rfl ?_
      refine zr_iconst (v := (4 : Int32)) h d_H_readSequence_37 rfl (by decide) ?_
      obtain ⟨r_12, G_11, hq_13, hf⟩ := zx_bd_some hf
      refine zr_callVI (As := [.int (4 : Int32)]) (b := 13) h (c_U_nextBits_13 _ _ _ _ _ (4 : Int32) G_7 r_12 G_11 hq_13) cc_H_74 d_H_readSequence_38 rfl rfl rfl sh_13 ⟨rfl, rfl, by decide, by decide⟩ (Nat.le_of_ble_eq_true rfl) ?_
      refine zr_iconst (v := (1 : Int32)) h d_H_readSequence_41 rfl (by decide) ?_
      refine zr_iadd h d_H_readSequence_42 rfl ?_
      obtain ⟨G_14, eG_14, hf⟩ := zx_lt_some hf
      refine zr_putI h d_H_readSequence_43 rfl fl_H_78 pl_H_7 sh_11 rfl rfl rfl eG_14 ?_
      refine zr_aload_n h d_H_readSequence_46 rfl rfl 2 rfl ?_
      refine zr_aload_n h d_H_readSequence_47 rfl rfl 2 rfl ?_
      refine zr_getR h d_H_readSequence_48 rfl fl_H_30 sh_11 rfl ?_
      refine zr_iconst (v := (4 : Int32)) h d_H_readSequence_51 rfl (by decide) ?_
      obtain ⟨r_16, G_15, hq_17, hf⟩ := zx_bd_some hf
      refine zr_callVI (As := [.int (4 : Int32)]) (b := 13) h (c_U_nextBits_13 _ _ _ _ _ (4 : Int32) G_14 r_16 G_15 hq_17) cc_H_74 d_H_readSequence_52 rfl rfl rfl sh_13 ⟨rfl, rfl, by decide, by decide⟩ (Nat.le_of_ble_eq_true rfl) ?_
      refine zr_iconst (v := (1 : Int32)) h d_H_readSequence_55 rfl (by decide) ?_
      refine zr_iadd h d_H_readSequence_56 rfl ?_
      obtain ⟨G_18, eG_18, hf⟩ := zx_lt_some hf
      refine zr_putI h d_H_readSequence_57 rfl fl_H_81 pl_H_8 sh_11 rfl rfl rfl eG_18 ?_
      refine zr_iconst (v := (0 : Int32)) h d_H_readSequence_60 rfl (by decide) ?_
      obtain ⟨x3_19, ex3_19, hf⟩ := zx_lt_some hf
      refine zr_istore_n h d_H_readSequence_61 rfl rfl (by decide) ex3_19 rfl ?_
      refine zr_sub [3, 2, 1, 0] rfl ?_
      exact z_H_readSequence_62 h hE 2048 x1_4 x2_10 x3_19 G_18 hf
    · refine zr_icmp_le_f h 23 d_H_readSequence_18 rfl rfl hc_6 ?_
      refine zr_iconst (v := (5 : Int32)) h d_H_readSequence_21 rfl (by decide) ?_
      exact zr_iret h hE d_H_readSequence_22 rfl hf
  · refine zr_if_ge_f h 16 d_H_readSequence_10 rfl rfl hc_5 ?_
    refine zr_bipush (v := (7 : Int32)) h d_H_readSequence_13 rfl (by decide) ?_
    exact zr_iret h hE d_H_readSequence_15 rfl hf
theorem c_H_readSequence (l : Launch) (D : va_G) (cA : ClassId) (ad : Nat → Nat) (A : Nat → Prop) (G : zx_G) (r : Int32) (G1 : zx_G) (hf : f_H_readSequence G = some (r, G1)) : zx_met l y_H_readSequence M_H_readSequence [.ref (ad 11)] D cA ad A G r G1 :=
  zx_toMet (by decide) rfl (Nat.le_of_ble_eq_true rfl) (fun κ h hE => by exact z_H_readSequence_0 h hE G hf)
