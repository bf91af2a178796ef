/-! the methods as functions, and the rows that tie them to the machine; written by a program -/
def f_M_differences_168 (k59 : Int32 → Int32 → Int32 → zx_G → Option (Int32 × zx_G)) (x1 x2 x3 s1 s2 : Int32) (G : zx_G) : Option (Int32 × zx_G) :=
  zx_gd (zx_in s1 16) <|
  zx_lt (zx_up G 47 (Int32.toNatClampNeg s1) s2) fun G_2 =>
  zx_lt (x3 + (-1 : Int32)) fun x3_3 =>
  k59 x1 x2 x3_3 G_2
def f_M_differences_166 (k59 : Int32 → Int32 → Int32 → zx_G → Option (Int32 × zx_G)) (x1 x2 x3 x5 s1 : Int32) (G : zx_G) : Option (Int32 × zx_G) :=
  f_M_differences_168 k59 x1 x2 x3 s1 x5 G
def f_M_differences_134 (k59 : Int32 → Int32 → Int32 → zx_G → Option (Int32 × zx_G)) (x1 x2 x3 s0 s1 : Int32) (G : zx_G) : Option (Int32 × zx_G) :=
  zx_lt (s0 + s1) fun x5_1 =>
  zx_gd (zx_in x3 16) <|
  zx_if (x5_1 = 0)
    (f_M_differences_166 k59 x1 x2 x3 x5_1 (G 51 (Int32.toNatClampNeg x3)) G)
    (zx_bd (f_M_bit G) fun r_5 G_4 =>
    zx_if (¬ r_5 = (1 : Int32))
      (f_M_differences_166 k59 x1 x2 x3 x5_1 (G 51 (Int32.toNatClampNeg x3)) G_4)
      (f_M_differences_168 k59 x1 x2 x3 (G 51 (Int32.toNatClampNeg x3)) (-x5_1) G_4))
def f_M_differences_120 (k59 : Int32 → Int32 → Int32 → zx_G → Option (Int32 × zx_G)) (x1 x2 x3 x4 s0 : Int32) (G : zx_G) : Option (Int32 × zx_G) :=
  zx_if (¬ x4 = (3 : Int32))
    (f_M_differences_134 k59 x1 x2 x3 s0 (0 : Int32) G)
    (zx_bd (f_M_more G) fun r_3 G_2 =>
    f_M_differences_134 k59 x1 x2 x3 s0 r_3 G_2)
def f_M_differences_100 (k59 : Int32 → Int32 → Int32 → zx_G → Option (Int32 × zx_G)) (x1 x2 x3 s1 s2 : Int32) (G : zx_G) : Option (Int32 × zx_G) :=
  zx_bd (f_M_symbol (s1 + s2) G) fun r_2 G_1 =>
  zx_lt r_2 fun x4_4 =>
  zx_if (¬ x3 = x2)
    (f_M_differences_120 k59 x1 x2 x3 x4_4 x4_4 G_1)
    (f_M_differences_120 k59 x1 x2 x3 x4_4 (x4_4 + (1 : Int32)) G_1)
def f_M_differences_82 (k59 : Int32 → Int32 → Int32 → zx_G → Option (Int32 × zx_G)) (x1 x2 x3 s1 : Int32) (G : zx_G) : Option (Int32 × zx_G) :=
  zx_if (¬ x3 = 0)
    (zx_if ((5 : Int32) < x3)
      (f_M_differences_100 k59 x1 x2 x3 s1 (2 : Int32) G)
      (f_M_differences_100 k59 x1 x2 x3 s1 (1 : Int32) G))
    (f_M_differences_100 k59 x1 x2 x3 s1 (0 : Int32) G)
def f_M_differences_243 (k192 : Int32 → Int32 → zx_G → Option (Int32 × zx_G)) (x3 x4 s1 s2 s3 : Int32) (G : zx_G) : Option (Int32 × zx_G) :=
  zx_bd (f_M_limited (s2 * s3) (32767 : Int32) G) fun r_2 G_1 =>
  zx_gd (zx_in s1 16) <|
  zx_lt (zx_up G_1 47 (Int32.toNatClampNeg s1) r_2) fun G_5 =>
  zx_lt (x4 + (1 : Int32)) fun x4_6 =>
  k192 x3 x4_6 G_5
def f_M_differences_295 (k260 : Int32 → Int32 → zx_G → Option (Int32 × zx_G)) (x3 x4 s1 s2 s3 : Int32) (G : zx_G) : Option (Int32 × zx_G) :=
  zx_bd (f_M_turn s1 s2 s3 (32767 : Int32) G) fun r_2 G_1 =>
  zx_lt (x4 + (1 : Int32)) fun x4_4 =>
  k260 x3 x4_4 G_1
def f_M_differences_343 (k310 : Int32 → Int32 → zx_G → Option (Int32 × zx_G)) (x3 x4 s1 s2 s3 : Int32) (G : zx_G) : Option (Int32 × zx_G) :=
  zx_bd (f_M_turn s1 s2 s3 (2000000000 : Int32) G) fun r_2 G_1 =>
  zx_lt (x4 + (1 : Int32)) fun x4_4 =>
  k310 x3 x4_4 G_1
def f_M_differences_402 (k358 : Int32 → zx_G → Option (Int32 × zx_G)) (x4 s1 s2 : Int32) (G : zx_G) : Option (Int32 × zx_G) :=
  zx_gd (zx_in s1 16) <|
  zx_lt (zx_up G 47 (Int32.toNatClampNeg s1) s2) fun G_2 =>
  zx_lt (x4 + (1 : Int32)) fun x4_3 =>
  k358 x4_3 G_2
def f_M_differences_358 : Nat → Int32 → zx_G → Option (Int32 × zx_G)
  | 0, _, _ => none
  | n + 1, x4, G =>
    zx_if ((16 : Int32) ≤ x4)
      (some ((0 : Int32), G))
      (zx_if (¬ (G 32 21) = 0)
        (zx_gd (zx_in x4 16) <|
        f_M_differences_402 (f_M_differences_358 n) x4 x4 (((G 47 (Int32.toNatClampNeg x4)) + (8 : Int32)) >>> ((4 : Int32) &&& 31)) G)
        (zx_gd (zx_in x4 16) <|
        f_M_differences_402 (f_M_differences_358 n) x4 x4 ((G 47 (Int32.toNatClampNeg x4)) >>> ((2 : Int32) &&& 31)) G))
def f_M_differences_310 : Nat → Int32 → Int32 → zx_G → Option (Int32 × zx_G)
  | 0, _, _, _ => none
  | n + 1, x3, x4, G =>
    zx_if ((4 : Int32) ≤ x4)
      (zx_lt (0 : Int32) fun x4_2 =>
      f_M_differences_358 2048 x4_2 G)
      (zx_if (¬ (G 32 21) = 0)
        (zx_gd (zx_nz (2 : Int32)) <|
        zx_if (¬ (zx_div x3 (2 : Int32)) = (1 : Int32))
          (f_M_differences_343 (f_M_differences_310 n) x3 x4 x4 (4 : Int32) (2 : Int32) G)
          (f_M_differences_343 (f_M_differences_310 n) x3 x4 x4 (4 : Int32) (1 : Int32) G))
        (f_M_differences_343 (f_M_differences_310 n) x3 x4 x4 (4 : Int32) (0 : Int32) G))
def f_M_differences_260 : Nat → Int32 → Int32 → zx_G → Option (Int32 × zx_G)
  | 0, _, _, _ => none
  | n + 1, x3, x4, G =>
    zx_if ((4 : Int32) ≤ x4)
      (zx_lt (0 : Int32) fun x4_2 =>
      f_M_differences_310 2048 x3 x4_2 G)
      (zx_if (¬ (G 32 21) = 0)
        (zx_gd (zx_nz (2 : Int32)) <|
        zx_if (¬ (zx_rem x3 (2 : Int32)) = (1 : Int32))
          (f_M_differences_295 (f_M_differences_260 n) x3 x4 ((4 : Int32) * x4) (1 : Int32) (2 : Int32) G)
          (f_M_differences_295 (f_M_differences_260 n) x3 x4 ((4 : Int32) * x4) (1 : Int32) (1 : Int32) G))
        (f_M_differences_295 (f_M_differences_260 n) x3 x4 ((4 : Int32) * x4) (1 : Int32) (0 : Int32) G))
def f_M_differences_257 (x3 : Int32) (G : zx_G) : Option (Int32 × zx_G) :=
  zx_lt (0 : Int32) fun x4_1 =>
  f_M_differences_260 2048 x3 x4_1 G
def f_M_differences_192 : Nat → Int32 → Int32 → zx_G → Option (Int32 × zx_G)
  | 0, _, _, _ => none
  | n + 1, x3, x4, G =>
    zx_if ((16 : Int32) ≤ x4)
      (f_M_differences_257 x3 G)
      (zx_if ((G 32 21) = 0)
        (f_M_differences_257 x3 G)
        (zx_gd (zx_in x4 16) <|
        zx_if (¬ x4 = 0)
          (f_M_differences_243 (f_M_differences_192 n) x3 x4 x4 (G 47 (Int32.toNatClampNeg x4)) ((4 : Int32) + ((3 : Int32) * (G 32 21))) G)
          (f_M_differences_243 (f_M_differences_192 n) x3 x4 x4 (G 47 (Int32.toNatClampNeg x4)) ((4 : Int32) + ((2 : Int32) * (G 32 21))) G)))
def f_M_differences_175 (G : zx_G) : Option (Int32 × zx_G) :=
  zx_gd (zx_in (((4 : Int32) * (G 32 37)) + (3 : Int32)) 68) <|
  zx_lt (G 45 (Int32.toNatClampNeg (((4 : Int32) * (G 32 37)) + (3 : Int32)))) fun x3_2 =>
  zx_lt (0 : Int32) fun x4_3 =>
  f_M_differences_192 2048 x3_2 x4_3 G
def f_M_differences_59 : Nat → Int32 → Int32 → Int32 → zx_G → Option (Int32 × zx_G)
  | 0, _, _, _, _ => none
  | n + 1, x1, x2, x3, G =>
    zx_if (x3 < 0)
      (f_M_differences_175 G)
      (zx_if (¬ (G 32 10) = 0)
        (f_M_differences_175 G)
        (zx_if (¬ x1 = 0)
          (f_M_differences_82 (f_M_differences_59 n) x1 x2 x3 (16 : Int32) G)
          (f_M_differences_82 (f_M_differences_59 n) x1 x2 x3 (13 : Int32) G)))
def f_M_differences_53 (x1 s1 : Int32) (G : zx_G) : Option (Int32 × zx_G) :=
  zx_bd (f_M_symbol s1 G) fun r_2 G_1 =>
  zx_lt r_2 fun x2_4 =>
  zx_lt x2_4 fun x3_5 =>
  f_M_differences_59 2048 x1 x2_4 x3_5 G_1
def f_M_differences_33 (x1 s1 : Int32) (G : zx_G) : Option (Int32 × zx_G) :=
  zx_bd (f_M_symbol s1 G) fun r_2 G_1 =>
  zx_if (¬ r_2 = (1 : Int32))
    (zx_if (¬ x1 = 0)
      (f_M_differences_53 x1 (12 : Int32) G_1)
      (f_M_differences_53 x1 (11 : Int32) G_1))
    (some ((0 : Int32), G_1))
def f_M_differences_2 : Nat → Int32 → Int32 → zx_G → Option (Int32 × zx_G)
  | 0, _, _, _ => none
  | n + 1, x1, x2, G =>
    zx_if ((16 : Int32) ≤ x2)
      (zx_if (¬ x1 = 0)
        (f_M_differences_33 x1 (9 : Int32) G)
        (f_M_differences_33 x1 (8 : Int32) G))
      (zx_gd (zx_in x2 16) <|
      zx_lt (zx_up G 47 (Int32.toNatClampNeg x2) (0 : Int32)) fun G_4 =>
      zx_lt (x2 + (1 : Int32)) fun x2_5 =>
      f_M_differences_2 n x1 x2_5 G_4)
def f_M_differences (x1 : Int32) (G : zx_G) : Option (Int32 × zx_G) :=
  zx_lt (0 : Int32) fun x2_1 =>
  f_M_differences_2 2048 x1 x2_1 G
set_option maxRecDepth 100000 in
set_option maxHeartbeats 4000000 in
theorem z_M_differences_168 {κ : zx_K} {ad : Nat → Nat} {r : Int32} {G1 : zx_G} (h : zx_C M_M_differences κ ad) (hE : zx_E M_M_differences κ ad r G1) {k59 : Int32 → Int32 → Int32 → zx_G → Option (Int32 × zx_G)} (hk59 : ∀ (x1 x2 x3 : Int32) (G : zx_G), k59 x1 x2 x3 G = some (r, G1) → zx_Z κ ad 59 [(0, .ref (ad 32)), (1, .int x1), (2, .int x2), (3, .int x3)] [] G) (x1 x2 x3 s1 s2 : Int32) (G : zx_G) (hf : f_M_differences_168 k59 x1 x2 x3 s1 s2 G = some (r, G1)) : zx_Z κ ad 168 [(0, .ref (ad 32)), (1, .int x1), (2, .int x2), (3, .int x3)] [.int s2, .int s1, .ref (ad 47)] G := by
  unfold f_M_differences_168 at hf
  obtain ⟨hb_1, hf⟩ := zx_gd_some hf
  obtain ⟨G_2, eG_2, hf⟩ := zx_lt_some hf
  refine zr_iast h d_M_differences_168 rfl sh_47 hb_1 eG_2 ?_
  obtain ⟨x3_3, ex3_3, hf⟩ := zx_lt_some hf
  refine zr_iinc (j := 3) h d_M_differences_169 rfl rfl (by decide) ex3_3 (by decide) rfl ?_
  refine zr_goto (tgt := 59) h d_M_differences_172 rfl ?_
  refine zr_sub [1, 2, 3, 0] rfl ?_
  exact hk59 x1 x2 x3_3 G_2 hf
set_option maxRecDepth 100000 in
set_option maxHeartbeats 4000000 in
theorem z_M_differences_166 {κ : zx_K} {ad : Nat → Nat} {r : Int32} {G1 : zx_G} (h : zx_C M_M_differences κ ad) (hE : zx_E M_M_differences κ ad r G1) {k59 : Int32 → Int32 → Int32 → zx_G → Option (Int32 × zx_G)} (hk59 : ∀ (x1 x2 x3 : Int32) (G : zx_G), k59 x1 x2 x3 G = some (r, G1) → zx_Z κ ad 59 [(0, .ref (ad 32)), (1, .int x1), (2, .int x2), (3, .int x3)] [] G) (x1 x2 x3 x5 s1 : Int32) (G : zx_G) (hf : f_M_differences_166 k59 x1 x2 x3 x5 s1 G = some (r, G1)) : zx_Z κ ad 166 [(0, .ref (ad 32)), (1, .int x1), (2, .int x2), (3, .int x3), (5, .int x5)] [.int s1, .ref (ad 47)] G := by
  unfold f_M_differences_166 at hf
  refine zr_iload h d_M_differences_166 rfl 4 rfl ?_
  refine zr_sub [0, 1, 2, 3] rfl ?_
  exact z_M_differences_168 h hE hk59 x1 x2 x3 s1 x5 G hf
set_option maxRecDepth 100000 in
set_option maxHeartbeats 4000000 in
theorem z_M_differences_134 {κ : zx_K} {ad : Nat → Nat} {r : Int32} {G1 : zx_G} (h : zx_C M_M_differences κ ad) (hE : zx_E M_M_differences κ ad r G1) {k59 : Int32 → Int32 → Int32 → zx_G → Option (Int32 × zx_G)} (hk59 : ∀ (x1 x2 x3 : Int32) (G : zx_G), k59 x1 x2 x3 G = some (r, G1) → zx_Z κ ad 59 [(0, .ref (ad 32)), (1, .int x1), (2, .int x2), (3, .int x3)] [] G) (x1 x2 x3 s0 s1 : Int32) (G : zx_G) (hf : f_M_differences_134 k59 x1 x2 x3 s0 s1 G = some (r, G1)) : zx_Z κ ad 134 [(0, .ref (ad 32)), (1, .int x1), (2, .int x2), (3, .int x3)] [.int s1, .int s0] G := by
  unfold f_M_differences_134 at hf
  refine zr_iadd h d_M_differences_134 rfl ?_
  obtain ⟨x5_1, ex5_1, hf⟩ := zx_lt_some hf
  refine zr_istore h d_M_differences_135 rfl (by decide) ex5_1 rfl ?_
  refine zr_aload_n h d_M_differences_137 rfl rfl 1 rfl ?_
  refine zr_getR h d_M_differences_138 rfl fl_M_52 sh_32 rfl ?_
  refine zr_aload_n h d_M_differences_141 rfl rfl 1 rfl ?_
  refine zr_getR h d_M_differences_142 rfl fl_M_64 sh_32 rfl ?_
  refine zr_iload_n h d_M_differences_145 rfl rfl 4 rfl ?_
  obtain ⟨hb_2, hf⟩ := zx_gd_some hf
  refine zr_iald h d_M_differences_146 rfl sh_51 hb_2 ?_
  refine zr_iload h d_M_differences_147 rfl 0 rfl ?_
  rcases zx_if_some hf with ⟨hc_3, hf⟩ | ⟨hc_3, hf⟩
  · refine zr_if_eq_t (tgt := 166) h d_M_differences_149 rfl hc_3 ?_
    refine zr_sub [1, 2, 3, 4, 0] rfl ?_
    exact z_M_differences_166 h hE hk59 x1 x2 x3 x5_1 (G 51 (Int32.toNatClampNeg x3)) G hf
  · refine zr_if_eq_f h 166 d_M_differences_149 rfl rfl hc_3 ?_
    refine zr_aload_n h d_M_differences_152 rfl rfl 1 rfl ?_
    obtain ⟨r_5, G_4, hq_6, hf⟩ := zx_bd_some hf
    refine zr_callVI (As := []) (b := 32) h (c_M_bit _ _ _ _ _ G r_5 G_4 hq_6) cc_M_257 d_M_differences_153 rfl rfl rfl sh_32 ⟨rfl, rfl, by decide, by decide⟩ (Nat.le_of_ble_eq_true rfl) ?_
    refine zr_iconst (v := (1 : Int32)) h d_M_differences_156 rfl (by decide) ?_
    rcases zx_if_some hf with ⟨hc_7, hf⟩ | ⟨hc_7, hf⟩
    · refine zr_icmp_ne_t (tgt := 166) h d_M_differences_157 rfl hc_7 ?_
      refine zr_sub [1, 2, 3, 4, 0] rfl ?_
      exact z_M_differences_166 h hE hk59 x1 x2 x3 x5_1 (G 51 (Int32.toNatClampNeg x3)) G_4 hf
    · refine zr_icmp_ne_f h 166 d_M_differences_157 rfl rfl hc_7 ?_
      refine zr_iload h d_M_differences_160 rfl 0 rfl ?_
      refine zr_ineg h d_M_differences_162 rfl ?_
      refine zr_goto (tgt := 168) h d_M_differences_163 rfl ?_
      refine zr_sub [1, 2, 3, 4] rfl ?_
      exact z_M_differences_168 h hE hk59 x1 x2 x3 (G 51 (Int32.toNatClampNeg x3)) (-x5_1) G_4 hf
set_option maxRecDepth 100000 in
set_option maxHeartbeats 4000000 in
theorem z_M_differences_120 {κ : zx_K} {ad : Nat → Nat} {r : Int32} {G1 : zx_G} (h : zx_C M_M_differences κ ad) (hE : zx_E M_M_differences κ ad r G1) {k59 : Int32 → Int32 → Int32 → zx_G → Option (Int32 × zx_G)} (hk59 : ∀ (x1 x2 x3 : Int32) (G : zx_G), k59 x1 x2 x3 G = some (r, G1) → zx_Z κ ad 59 [(0, .ref (ad 32)), (1, .int x1), (2, .int x2), (3, .int x3)] [] G) (x1 x2 x3 x4 s0 : Int32) (G : zx_G) (hf : f_M_differences_120 k59 x1 x2 x3 x4 s0 G = some (r, G1)) : zx_Z κ ad 120 [(0, .ref (ad 32)), (1, .int x1), (2, .int x2), (3, .int x3), (4, .int x4)] [.int s0] G := by
  unfold f_M_differences_120 at hf
  refine zr_iload h d_M_differences_120 rfl 4 rfl ?_
  refine zr_iconst (v := (3 : Int32)) h d_M_differences_122 rfl (by decide) ?_
  rcases zx_if_some hf with ⟨hc_1, hf⟩ | ⟨hc_1, hf⟩
  · refine zr_icmp_ne_t (tgt := 133) h d_M_differences_123 rfl hc_1 ?_
    refine zr_iconst (v := (0 : Int32)) h d_M_differences_133 rfl (by decide) ?_
    refine zr_sub [0, 1, 2, 3] rfl ?_
    exact z_M_differences_134 h hE hk59 x1 x2 x3 s0 (0 : Int32) G hf
  · refine zr_icmp_ne_f h 133 d_M_differences_123 rfl rfl hc_1 ?_
    refine zr_aload_n h d_M_differences_126 rfl rfl 0 rfl ?_
    obtain ⟨r_3, G_2, hq_4, hf⟩ := zx_bd_some hf
    refine zr_callVI (As := []) (b := 32) h (c_M_more _ _ _ _ _ G r_3 G_2 hq_4) cc_M_254 d_M_differences_127 rfl rfl rfl sh_32 ⟨rfl, rfl, by decide, by decide⟩ (Nat.le_of_ble_eq_true rfl) ?_
    refine zr_goto (tgt := 134) h d_M_differences_130 rfl ?_
    refine zr_sub [0, 1, 2, 3] rfl ?_
    exact z_M_differences_134 h hE hk59 x1 x2 x3 s0 r_3 G_2 hf
set_option maxRecDepth 100000 in
set_option maxHeartbeats 4000000 in
theorem z_M_differences_100 {κ : zx_K} {ad : Nat → Nat} {r : Int32} {G1 : zx_G} (h : zx_C M_M_differences κ ad) (hE : zx_E M_M_differences κ ad r G1) {k59 : Int32 → Int32 → Int32 → zx_G → Option (Int32 × zx_G)} (hk59 : ∀ (x1 x2 x3 : Int32) (G : zx_G), k59 x1 x2 x3 G = some (r, G1) → zx_Z κ ad 59 [(0, .ref (ad 32)), (1, .int x1), (2, .int x2), (3, .int x3)] [] G) (x1 x2 x3 s1 s2 : Int32) (G : zx_G) (hf : f_M_differences_100 k59 x1 x2 x3 s1 s2 G = some (r, G1)) : zx_Z κ ad 100 [(0, .ref (ad 32)), (1, .int x1), (2, .int x2), (3, .int x3)] [.int s2, .int s1, .ref (ad 32)] G := by
  unfold f_M_differences_100 at hf
  refine zr_iadd h d_M_differences_100 rfl ?_
  obtain ⟨r_2, G_1, hq_3, hf⟩ := zx_bd_some hf
  refine zr_callVI (As := [.int (s1 + s2)]) (b := 32) h (c_M_symbol _ _ _ _ _ (s1 + s2) G r_2 G_1 hq_3) cc_M_226 d_M_differences_101 rfl rfl rfl sh_32 ⟨rfl, rfl, by decide, by decide⟩ (Nat.le_of_ble_eq_true rfl) ?_
  obtain ⟨x4_4, ex4_4, hf⟩ := zx_lt_some hf
  refine zr_istore h d_M_differences_104 rfl (by decide) ex4_4 rfl ?_
  refine zr_iload_n h d_M_differences_106 rfl rfl 4 rfl ?_
  refine zr_iload_n h d_M_differences_107 rfl rfl 3 rfl ?_
  rcases zx_if_some hf with ⟨hc_5, hf⟩ | ⟨hc_5, hf⟩
  · refine zr_icmp_ne_t (tgt := 118) h d_M_differences_108 rfl hc_5 ?_
    refine zr_iload h d_M_differences_118 rfl 0 rfl ?_
    refine zr_sub [1, 2, 3, 4, 0] rfl ?_
    exact z_M_differences_120 h hE hk59 x1 x2 x3 x4_4 x4_4 G_1 hf
  · refine zr_icmp_ne_f h 118 d_M_differences_108 rfl rfl hc_5 ?_
    refine zr_iload h d_M_differences_111 rfl 0 rfl ?_
    refine zr_iconst (v := (1 : Int32)) h d_M_differences_113 rfl (by decide) ?_
    refine zr_iadd h d_M_differences_114 rfl ?_
    refine zr_goto (tgt := 120) h d_M_differences_115 rfl ?_
    refine zr_sub [1, 2, 3, 4, 0] rfl ?_
    exact z_M_differences_120 h hE hk59 x1 x2 x3 x4_4 (x4_4 + (1 : Int32)) G_1 hf
set_option maxRecDepth 100000 in
set_option maxHeartbeats 4000000 in
theorem z_M_differences_82 {κ : zx_K} {ad : Nat → Nat} {r : Int32} {G1 : zx_G} (h : zx_C M_M_differences κ ad) (hE : zx_E M_M_differences κ ad r G1) {k59 : Int32 → Int32 → Int32 → zx_G → Option (Int32 × zx_G)} (hk59 : ∀ (x1 x2 x3 : Int32) (G : zx_G), k59 x1 x2 x3 G = some (r, G1) → zx_Z κ ad 59 [(0, .ref (ad 32)), (1, .int x1), (2, .int x2), (3, .int x3)] [] G) (x1 x2 x3 s1 : Int32) (G : zx_G) (hf : f_M_differences_82 k59 x1 x2 x3 s1 G = some (r, G1)) : zx_Z κ ad 82 [(0, .ref (ad 32)), (1, .int x1), (2, .int x2), (3, .int x3)] [.int s1, .ref (ad 32)] G := by
  unfold f_M_differences_82 at hf
  refine zr_iload_n h d_M_differences_82 rfl rfl 3 rfl ?_
  rcases zx_if_some hf with ⟨hc_1, hf⟩ | ⟨hc_1, hf⟩
  · refine zr_if_ne_t (tgt := 90) h d_M_differences_83 rfl hc_1 ?_
    refine zr_iload_n h d_M_differences_90 rfl rfl 3 rfl ?_
    refine zr_iconst (v := (5 : Int32)) h d_M_differences_91 rfl (by decide) ?_
    rcases zx_if_some hf with ⟨hc_2, hf⟩ | ⟨hc_2, hf⟩
    · refine zr_icmp_gt_t (tgt := 99) h d_M_differences_92 rfl hc_2 ?_
      refine zr_iconst (v := (2 : Int32)) h d_M_differences_99 rfl (by decide) ?_
      exact z_M_differences_100 h hE hk59 x1 x2 x3 s1 (2 : Int32) G hf
    · refine zr_icmp_gt_f h 99 d_M_differences_92 rfl rfl hc_2 ?_
      refine zr_iconst (v := (1 : Int32)) h d_M_differences_95 rfl (by decide) ?_
      refine zr_goto (tgt := 100) h d_M_differences_96 rfl ?_
      exact z_M_differences_100 h hE hk59 x1 x2 x3 s1 (1 : Int32) G hf
  · refine zr_if_ne_f h 90 d_M_differences_83 rfl rfl hc_1 ?_
    refine zr_iconst (v := (0 : Int32)) h d_M_differences_86 rfl (by decide) ?_
    refine zr_goto (tgt := 100) h d_M_differences_87 rfl ?_
    exact z_M_differences_100 h hE hk59 x1 x2 x3 s1 (0 : Int32) G hf
set_option maxRecDepth 100000 in
set_option maxHeartbeats 4000000 in
theorem z_M_differences_243 {κ : zx_K} {ad : Nat → Nat} {r : Int32} {G1 : zx_G} (h : zx_C M_M_differences κ ad) (hE : zx_E M_M_differences κ ad r G1) {k192 : Int32 → Int32 → zx_G → Option (Int32 × zx_G)} (hk192 : ∀ (x3 x4 : Int32) (G : zx_G), k192 x3 x4 G = some (r, G1) → zx_Z κ ad 192 [(0, .ref (ad 32)), (3, .int x3), (4, .int x4)] [] G) (x3 x4 s1 s2 s3 : Int32) (G : zx_G) (hf : f_M_differences_243 k192 x3 x4 s1 s2 s3 G = some (r, G1)) : zx_Z κ ad 243 [(0, .ref (ad 32)), (3, .int x3), (4, .int x4)] [.int s3, .int s2, .int s1, .ref (ad 47)] G := by
  unfold f_M_differences_243 at hf
  refine zr_imul h d_M_differences_243 rfl ?_
  refine zr_sipush (v := (32767 : Int32)) h d_M_differences_244 rfl (by decide) ?_
  obtain ⟨r_2, G_1, hq_3, hf⟩ := zx_bd_some hf
  refine zr_callSI (As := [.int (s2 * s3), .int (32767 : Int32)]) h (c_M_limited _ _ _ _ _ (s2 * s3) (32767 : Int32) G r_2 G_1 hq_3) cc_M_260 d_M_differences_247 rfl rfl rfl ⟨rfl, by decide, by decide⟩ (Nat.le_of_ble_eq_true rfl) ?_
  obtain ⟨hb_4, hf⟩ := zx_gd_some hf
  obtain ⟨G_5, eG_5, hf⟩ := zx_lt_some hf
  refine zr_iast h d_M_differences_250 rfl sh_47 hb_4 eG_5 ?_
  obtain ⟨x4_6, ex4_6, hf⟩ := zx_lt_some hf
  refine zr_iinc (j := 2) h d_M_differences_251 rfl rfl (by decide) ex4_6 (by decide) rfl ?_
  refine zr_goto (tgt := 192) h d_M_differences_254 rfl ?_
  refine zr_sub [1, 2, 0] rfl ?_
  exact hk192 x3 x4_6 G_5 hf
set_option maxRecDepth 100000 in
set_option maxHeartbeats 4000000 in
theorem z_M_differences_295 {κ : zx_K} {ad : Nat → Nat} {r : Int32} {G1 : zx_G} (h : zx_C M_M_differences κ ad) (hE : zx_E M_M_differences κ ad r G1) {k260 : Int32 → Int32 → zx_G → Option (Int32 × zx_G)} (hk260 : ∀ (x3 x4 : Int32) (G : zx_G), k260 x3 x4 G = some (r, G1) → zx_Z κ ad 260 [(0, .ref (ad 32)), (3, .int x3), (4, .int x4)] [] G) (x3 x4 s1 s2 s3 : Int32) (G : zx_G) (hf : f_M_differences_295 k260 x3 x4 s1 s2 s3 G = some (r, G1)) : zx_Z κ ad 295 [(0, .ref (ad 32)), (3, .int x3), (4, .int x4)] [.int s3, .int s2, .int s1, .ref (ad 32)] G := by
  unfold f_M_differences_295 at hf
  refine zr_sipush (v := (32767 : Int32)) h d_M_differences_295 rfl (by decide) ?_
  obtain ⟨r_2, G_1, hq_3, hf⟩ := zx_bd_some hf
  refine zr_callVV (As := [.int s1, .int s2, .int s3, .int (32767 : Int32)]) (b := 32) h (c_M_turn _ _ _ _ _ s1 s2 s3 (32767 : Int32) G r_2 G_1 hq_3) cc_M_263 d_M_differences_298 rfl rfl rfl sh_32 ⟨rfl, rfl, by decide, by decide⟩ (Nat.le_of_ble_eq_true rfl) ?_
  obtain ⟨x4_4, ex4_4, hf⟩ := zx_lt_some hf
  refine zr_iinc (j := 2) h d_M_differences_301 rfl rfl (by decide) ex4_4 (by decide) rfl ?_
  refine zr_goto (tgt := 260) h d_M_differences_304 rfl ?_
  refine zr_sub [1, 2, 0] rfl ?_
  exact hk260 x3 x4_4 G_1 hf
set_option maxRecDepth 100000 in
set_option maxHeartbeats 4000000 in
theorem z_M_differences_343 {κ : zx_K} {ad : Nat → Nat} {r : Int32} {G1 : zx_G} (h : zx_C M_M_differences κ ad) (hE : zx_E M_M_differences κ ad r G1) {k310 : Int32 → Int32 → zx_G → Option (Int32 × zx_G)} (hk310 : ∀ (x3 x4 : Int32) (G : zx_G), k310 x3 x4 G = some (r, G1) → zx_Z κ ad 310 [(0, .ref (ad 32)), (3, .int x3), (4, .int x4)] [] G) (x3 x4 s1 s2 s3 : Int32) (G : zx_G) (hf : f_M_differences_343 k310 x3 x4 s1 s2 s3 G = some (r, G1)) : zx_Z κ ad 343 [(0, .ref (ad 32)), (3, .int x3), (4, .int x4)] [.int s3, .int s2, .int s1, .ref (ad 32)] G := by
  unfold f_M_differences_343 at hf
  refine zr_ldc_w (v := (2000000000 : Int32)) h d_M_differences_343 rfl ct_M_266 ?_
  obtain ⟨r_2, G_1, hq_3, hf⟩ := zx_bd_some hf
  refine zr_callVV (As := [.int s1, .int s2, .int s3, .int (2000000000 : Int32)]) (b := 32) h (c_M_turn _ _ _ _ _ s1 s2 s3 (2000000000 : Int32) G r_2 G_1 hq_3) cc_M_263 d_M_differences_346 rfl rfl rfl sh_32 ⟨rfl, rfl, by decide, by decide⟩ (Nat.le_of_ble_eq_true rfl) ?_
  obtain ⟨x4_4, ex4_4, hf⟩ := zx_lt_some hf
  refine zr_iinc (j := 2) h d_M_differences_349 rfl rfl (by decide) ex4_4 (by decide) rfl ?_
  refine zr_goto (tgt := 310) h d_M_differences_352 rfl ?_
  refine zr_sub [1, 2, 0] rfl ?_
  exact hk310 x3 x4_4 G_1 hf
set_option maxRecDepth 100000 in
set_option maxHeartbeats 4000000 in
theorem z_M_differences_402 {κ : zx_K} {ad : Nat → Nat} {r : Int32} {G1 : zx_G} (h : zx_C M_M_differences κ ad) (hE : zx_E M_M_differences κ ad r G1) {k358 : Int32 → zx_G → Option (Int32 × zx_G)} (hk358 : ∀ (x4 : Int32) (G : zx_G), k358 x4 G = some (r, G1) → zx_Z κ ad 358 [(0, .ref (ad 32)), (4, .int x4)] [] G) (x4 s1 s2 : Int32) (G : zx_G) (hf : f_M_differences_402 k358 x4 s1 s2 G = some (r, G1)) : zx_Z κ ad 402 [(0, .ref (ad 32)), (4, .int x4)] [.int s2, .int s1, .ref (ad 47)] G := by
  unfold f_M_differences_402 at hf
  obtain ⟨hb_1, hf⟩ := zx_gd_some hf
  obtain ⟨G_2, eG_2, hf⟩ := zx_lt_some hf
  refine zr_iast h d_M_differences_402 rfl sh_47 hb_1 eG_2 ?_
  obtain ⟨x4_3, ex4_3, hf⟩ := zx_lt_some hf
  refine zr_iinc (j := 1) h d_M_differences_403 rfl rfl (by decide) ex4_3 (by decide) rfl ?_
  refine zr_goto (tgt := 358) h d_M_differences_406 rfl ?_
  refine zr_sub [1, 0] rfl ?_
  exact hk358 x4_3 G_2 hf
set_option maxRecDepth 100000 in
set_option maxHeartbeats 4000000 in
theorem z_M_differences_358 {κ : zx_K} {ad : Nat → Nat} {r : Int32} {G1 : zx_G} (h : zx_C M_M_differences κ ad) (hE : zx_E M_M_differences κ ad r G1) : ∀ (n : Nat) (x4 : Int32) (G : zx_G), f_M_differences_358 n x4 G = some (r, G1) → zx_Z κ ad 358 [(0, .ref (ad 32)), (4, .int x4)] [] G := by
  intro n
  induction n with
  | zero => intro x4 G hf; cases hf
  | succ n ih =>
    intro x4 G hf
    unfold f_M_differences_358 at hf
    refine zr_iload h d_M_differences_358 rfl 1 rfl ?_
    refine zr_bipush (v := (16 : Int32)) h d_M_differences_360 rfl (by decide) ?_
    rcases zx_if_some hf with ⟨hc_1, hf⟩ | ⟨hc_1, hf⟩
    · refine zr_icmp_ge_t (tgt := 409) h d_M_differences_362 rfl hc_1 ?_
      exact zr_vret h hE d_M_differences_409 rfl hf
    · refine zr_icmp_ge_f h 409 d_M_differences_362 rfl rfl hc_1 ?_
      refine zr_aload_n h d_M_differences_365 rfl rfl 0 rfl ?_
      refine zr_getR h d_M_differences_366 rfl fl_M_52 sh_32 rfl ?_
      refine zr_iload h d_M_differences_369 rfl 1 rfl ?_
      refine zr_aload_n h d_M_differences_371 rfl rfl 0 rfl ?_
      refine zr_getI h d_M_differences_372 rfl fl_M_183 sh_32 rfl ?_
      rcases zx_if_some hf with ⟨hc_2, hf⟩ | ⟨hc_2, hf⟩
      · refine zr_if_ne_t (tgt := 390) h d_M_differences_375 rfl hc_2 ?_
        refine zr_aload_n h d_M_differences_390 rfl rfl 0 rfl ?_
        refine zr_getR h d_M_differences_391 rfl fl_M_52 sh_32 rfl ?_
        refine zr_iload h d_M_differences_394 rfl 1 rfl ?_
        obtain ⟨hb_3, hf⟩ := zx_gd_some hf
        refine zr_iald h d_M_differences_396 rfl sh_47 hb_3 ?_
        refine zr_bipush (v := (8 : Int32)) h d_M_differences_397 rfl (by decide) ?_
        refine zr_iadd h d_M_differences_399 rfl ?_
        refine zr_iconst (v := (4 : Int32)) h d_M_differences_400 rfl (by decide) ?_
        refine zr_ishr h d_M_differences_401 rfl ?_
        exact z_M_differences_402 h hE ih x4 x4 (((G 47 (Int32.toNatClampNeg x4)) + (8 : Int32)) >>> ((4 : Int32) &&& 31)) G hf
      · refine zr_if_ne_f h 390 d_M_differences_375 rfl rfl hc_2 ?_
        refine zr_aload_n h d_M_differences_378 rfl rfl 0 rfl ?_
        refine zr_getR h d_M_differences_379 rfl fl_M_52 sh_32 rfl ?_
        refine zr_iload h d_M_differences_382 rfl 1 rfl ?_
        obtain ⟨hb_4, hf⟩ := zx_gd_some hf
        refine zr_iald h d_M_differences_384 rfl sh_47 hb_4 ?_
        refine zr_iconst (v := (2 : Int32)) h d_M_differences_385 rfl (by decide) ?_
        refine zr_ishr h d_M_differences_386 rfl ?_
        refine zr_goto (tgt := 402) h d_M_differences_387 rfl ?_
        exact z_M_differences_402 h hE ih x4 x4 ((G 47 (Int32.toNatClampNeg x4)) >>> ((2 : Int32) &&& 31)) G hf
set_option maxRecDepth 100000 in
set_option maxHeartbeats 4000000 in
theorem z_M_differences_310 {κ : zx_K} {ad : Nat → Nat} {r : Int32} {G1 : zx_G} (h : zx_C M_M_differences κ ad) (hE : zx_E M_M_differences κ ad r G1) : ∀ (n : Nat) (x3 x4 : Int32) (G : zx_G), f_M_differences_310 n x3 x4 G = some (r, G1) → zx_Z κ ad 310 [(0, .ref (ad 32)), (3, .int x3), (4, .int x4)] [] G := by
  intro n
  induction n with
  | zero => intro x3 x4 G hf; cases hf
  | succ n ih =>
    intro x3 x4 G hf
    unfold f_M_differences_310 at hf
    refine zr_iload h d_M_differences_310 rfl 2 rfl ?_
    refine zr_iconst (v := (4 : Int32)) h d_M_differences_312 rfl (by decide) ?_
    rcases zx_if_some hf with ⟨hc_1, hf⟩ | ⟨hc_1, hf⟩
    · refine zr_icmp_ge_t (tgt := 355) h d_M_differences_313 rfl hc_1 ?_
      refine zr_iconst (v := (0 : Int32)) h d_M_differences_355 rfl (by decide) ?_
      obtain ⟨x4_2, ex4_2, hf⟩ := zx_lt_some hf
      refine zr_istore h d_M_differences_356 rfl (by decide) ex4_2 rfl ?_
      refine zr_sub [1, 0] rfl ?_
      exact z_M_differences_358 h hE 2048 x4_2 G hf
    · refine zr_icmp_ge_f h 355 d_M_differences_313 rfl rfl hc_1 ?_
      refine zr_aload_n h d_M_differences_316 rfl rfl 0 rfl ?_
      refine zr_iload h d_M_differences_317 rfl 2 rfl ?_
      refine zr_iconst (v := (4 : Int32)) h d_M_differences_319 rfl (by decide) ?_
      refine zr_aload_n h d_M_differences_320 rfl rfl 0 rfl ?_
      refine zr_getI h d_M_differences_321 rfl fl_M_183 sh_32 rfl ?_
      rcases zx_if_some hf with ⟨hc_3, hf⟩ | ⟨hc_3, hf⟩
      · refine zr_if_ne_t (tgt := 331) h d_M_differences_324 rfl hc_3 ?_
        refine zr_iload_n h d_M_differences_331 rfl rfl 1 rfl ?_
        refine zr_iconst (v := (2 : Int32)) h d_M_differences_332 rfl (by decide) ?_
        obtain ⟨hb_4, hf⟩ := zx_gd_some hf
        refine zr_idiv h d_M_differences_333 rfl (zx_nz_ne hb_4) ?_
        refine zr_iconst (v := (1 : Int32)) h d_M_differences_334 rfl (by decide) ?_
        rcases zx_if_some hf with ⟨hc_5, hf⟩ | ⟨hc_5, hf⟩
        · refine zr_icmp_ne_t (tgt := 342) h d_M_differences_335 rfl hc_5 ?_
          refine zr_iconst (v := (2 : Int32)) h d_M_differences_342 rfl (by decide) ?_
          exact z_M_differences_343 h hE ih x3 x4 x4 (4 : Int32) (2 : Int32) G hf
        · refine zr_icmp_ne_f h 342 d_M_differences_335 rfl rfl hc_5 ?_
          refine zr_iconst (v := (1 : Int32)) h d_M_differences_338 rfl (by decide) ?_
          refine zr_goto (tgt := 343) h d_M_differences_339 rfl ?_
          exact z_M_differences_343 h hE ih x3 x4 x4 (4 : Int32) (1 : Int32) G hf
      · refine zr_if_ne_f h 331 d_M_differences_324 rfl rfl hc_3 ?_
        refine zr_iconst (v := (0 : Int32)) h d_M_differences_327 rfl (by decide) ?_
        refine zr_goto (tgt := 343) h d_M_differences_328 rfl ?_
        exact z_M_differences_343 h hE ih x3 x4 x4 (4 : Int32) (0 : Int32) G hf
set_option maxRecDepth 100000 in
set_option maxHeartbeats 4000000 in
theorem z_M_differences_260 {κ : zx_K} {ad : Nat → Nat} {r : Int32} {G1 : zx_G} (h : zx_C M_M_differences κ ad) (hE : zx_E M_M_differences κ ad r G1) : ∀ (n : Nat) (x3 x4 : Int32) (G : zx_G), f_M_differences_260 n x3 x4 G = some (r, G1) → zx_Z κ ad 260 [(0, .ref (ad 32)), (3, .int x3), (4, .int x4)] [] G := by
  intro n
  induction n with
  | zero => intro x3 x4 G hf; cases hf
  | succ n ih =>
    intro x3 x4 G hf
    unfold f_M_differences_260 at hf
    refine zr_iload h d_M_differences_260 rfl 2 rfl ?_
    refine zr_iconst (v := (4 : Int32)) h d_M_differences_262 rfl (by decide) ?_
    rcases zx_if_some hf with ⟨hc_1, hf⟩ | ⟨hc_1, hf⟩
    · refine zr_icmp_ge_t (tgt := 307) h d_M_differences_263 rfl hc_1 ?_
      refine zr_iconst (v := (0 : Int32)) h d_M_differences_307 rfl (by decide) ?_
      obtain ⟨x4_2, ex4_2, hf⟩ := zx_lt_some hf
      refine zr_istore h d_M_differences_308 rfl (by decide) ex4_2 rfl ?_
      refine zr_sub [1, 2, 0] rfl ?_
      exact z_M_differences_310 h hE 2048 x3 x4_2 G hf
    · refine zr_icmp_ge_f h 307 d_M_differences_263 rfl rfl hc_1 ?_
      refine zr_aload_n h d_M_differences_266 rfl rfl 0 rfl ?_
      refine zr_iconst (v := (4 : Int32)) h d_M_differences_267 rfl (by decide) ?_
      refine zr_iload h d_M_differences_268 rfl 2 rfl ?_
      refine zr_imul h d_M_differences_270 rfl ?_
      refine zr_iconst (v := (1 : Int32)) h d_M_differences_271 rfl (by decide) ?_
      refine zr_aload_n h d_M_differences_272 rfl rfl 0 rfl ?_
      refine zr_getI h d_M_differences_273 rfl fl_M_183 sh_32 rfl ?_
      rcases zx_if_some hf with ⟨hc_3, hf⟩ | ⟨hc_3, hf⟩
      · refine zr_if_ne_t (tgt := 283) h d_M_differences_276 rfl hc_3 ?_
        refine zr_iload_n h d_M_differences_283 rfl rfl 1 rfl ?_
        refine zr_iconst (v := (2 : Int32)) h d_M_differences_284 rfl (by decide) ?_
        obtain ⟨hb_4, hf⟩ := zx_gd_some hf
        refine zr_irem h d_M_differences_285 rfl (zx_nz_ne hb_4) ?_
        refine zr_iconst (v := (1 : Int32)) h d_M_differences_286 rfl (by decide) ?_
        rcases zx_if_some hf with ⟨hc_5, hf⟩ | ⟨hc_5, hf⟩
        · refine zr_icmp_ne_t (tgt := 294) h d_M_differences_287 rfl hc_5 ?_
          refine zr_iconst (v := (2 : Int32)) h d_M_differences_294 rfl (by decide) ?_
          exact z_M_differences_295 h hE ih x3 x4 ((4 : Int32) * x4) (1 : Int32) (2 : Int32) G hf
        · refine zr_icmp_ne_f h 294 d_M_differences_287 rfl rfl hc_5 ?_
          refine zr_iconst (v := (1 : Int32)) h d_M_differences_290 rfl (by decide) ?_
          refine zr_goto (tgt := 295) h d_M_differences_291 rfl ?_
          exact z_M_differences_295 h hE ih x3 x4 ((4 : Int32) * x4) (1 : Int32) (1 : Int32) G hf
      · refine zr_if_ne_f h 283 d_M_differences_276 rfl rfl hc_3 ?_
        refine zr_iconst (v := (0 : Int32)) h d_M_differences_279 rfl (by decide) ?_
        refine zr_goto (tgt := 295) h d_M_differences_280 rfl ?_
        exact z_M_differences_295 h hE ih x3 x4 ((4 : Int32) * x4) (1 : Int32) (0 : Int32) G hf
set_option maxRecDepth 100000 in
set_option maxHeartbeats 4000000 in
theorem z_M_differences_257 {κ : zx_K} {ad : Nat → Nat} {r : Int32} {G1 : zx_G} (h : zx_C M_M_differences κ ad) (hE : zx_E M_M_differences κ ad r G1) (x3 : Int32) (G : zx_G) (hf : f_M_differences_257 x3 G = some (r, G1)) : zx_Z κ ad 257 [(0, .ref (ad 32)), (3, .int x3)] [] G := by
  unfold f_M_differences_257 at hf
  refine zr_iconst (v := (0 : Int32)) h d_M_differences_257 rfl (by decide) ?_
  obtain ⟨x4_1, ex4_1, hf⟩ := zx_lt_some hf
  refine zr_istore h d_M_differences_258 rfl (by decide) ex4_1 rfl ?_
  refine zr_sub [1, 2, 0] rfl ?_
  exact z_M_differences_260 h hE 2048 x3 x4_1 G hf
set_option maxRecDepth 100000 in
set_option maxHeartbeats 4000000 in
theorem z_M_differences_192 {κ : zx_K} {ad : Nat → Nat} {r : Int32} {G1 : zx_G} (h : zx_C M_M_differences κ ad) (hE : zx_E M_M_differences κ ad r G1) : ∀ (n : Nat) (x3 x4 : Int32) (G : zx_G), f_M_differences_192 n x3 x4 G = some (r, G1) → zx_Z κ ad 192 [(0, .ref (ad 32)), (3, .int x3), (4, .int x4)] [] G := by
  intro n
  induction n with
  | zero => intro x3 x4 G hf; cases hf
  | succ n ih =>
    intro x3 x4 G hf
    unfold f_M_differences_192 at hf
    refine zr_iload h d_M_differences_192 rfl 2 rfl ?_
    refine zr_bipush (v := (16 : Int32)) h d_M_differences_194 rfl (by decide) ?_
    rcases zx_if_some hf with ⟨hc_1, hf⟩ | ⟨hc_1, hf⟩
    · refine zr_icmp_ge_t (tgt := 257) h d_M_differences_196 rfl hc_1 ?_
      refine zr_sub [0, 1] rfl ?_
      exact z_M_differences_257 h hE x3 G hf
    · refine zr_icmp_ge_f h 257 d_M_differences_196 rfl rfl hc_1 ?_
      refine zr_aload_n h d_M_differences_199 rfl rfl 0 rfl ?_
      refine zr_getI h d_M_differences_200 rfl fl_M_183 sh_32 rfl ?_
      rcases zx_if_some hf with ⟨hc_2, hf⟩ | ⟨hc_2, hf⟩
      · refine zr_if_eq_t (tgt := 257) h d_M_differences_203 rfl hc_2 ?_
        refine zr_sub [0, 1] rfl ?_
        exact z_M_differences_257 h hE x3 G hf
      · refine zr_if_eq_f h 257 d_M_differences_203 rfl rfl hc_2 ?_
        refine zr_aload_n h d_M_differences_206 rfl rfl 0 rfl ?_
        refine zr_getR h d_M_differences_207 rfl fl_M_52 sh_32 rfl ?_
        refine zr_iload h d_M_differences_210 rfl 2 rfl ?_
        refine zr_aload_n h d_M_differences_212 rfl rfl 0 rfl ?_
        refine zr_getR h d_M_differences_213 rfl fl_M_52 sh_32 rfl ?_
        refine zr_iload h d_M_differences_216 rfl 2 rfl ?_
        obtain ⟨hb_3, hf⟩ := zx_gd_some hf
        refine zr_iald h d_M_differences_218 rfl sh_47 hb_3 ?_
        refine zr_iload h d_M_differences_219 rfl 2 rfl ?_
        rcases zx_if_some hf with ⟨hc_4, hf⟩ | ⟨hc_4, hf⟩
        · refine zr_if_ne_t (tgt := 235) h d_M_differences_221 rfl hc_4 ?_
          refine zr_iconst (v := (4 : Int32)) h d_M_differences_235 rfl (by decide) ?_
          refine zr_iconst (v := (3 : Int32)) h d_M_differences_236 rfl (by decide) ?_
          refine zr_aload_n h d_M_differences_237 rfl rfl 0 rfl ?_
          refine zr_getI h d_M_differences_238 rfl fl_M_183 sh_32 rfl ?_
          refine zr_imul h d_M_differences_241 rfl ?_
          refine zr_iadd h d_M_differences_242 rfl ?_
          exact z_M_differences_243 h hE ih x3 x4 x4 (G 47 (Int32.toNatClampNeg x4)) ((4 : Int32) + ((3 : Int32) * (G 32 21))) G hf
        · refine zr_if_ne_f h 235 d_M_differences_221 rfl rfl hc_4 ?_
          refine zr_iconst (v := (4 : Int32)) h d_M_differences_224 rfl (by decide) ?_
          refine zr_iconst (v := (2 : Int32)) h d_M_differences_225 rfl (by decide) ?_
          refine zr_aload_n h d_M_differences_226 rfl rfl 0 rfl ?_
          refine zr_getI h d_M_differences_227 rfl fl_M_183 sh_32 rfl ?_
          refine zr_imul h d_M_differences_230 rfl ?_
          refine zr_iadd h d_M_differences_231 rfl ?_
          refine zr_goto (tgt := 243) h d_M_differences_232 rfl ?_
          exact z_M_differences_243 h hE ih x3 x4 x4 (G 47 (Int32.toNatClampNeg x4)) ((4 : Int32) + ((2 : Int32) * (G 32 21))) G hf
set_option maxRecDepth 100000 in
set_option maxHeartbeats 4000000 in
theorem z_M_differences_175 {κ : zx_K} {ad : Nat → Nat} {r : Int32} {G1 : zx_G} (h : zx_C M_M_differences κ ad) (hE : zx_E M_M_differences κ ad r G1) (G : zx_G) (hf : f_M_differences_175 G = some (r, G1)) : zx_Z κ ad 175 [(0, .ref (ad 32))] [] G := by
  unfold f_M_differences_175 at hf
  refine zr_aload_n h d_M_differences_175 rfl rfl 0 rfl ?_
  refine zr_getR h d_M_differences_176 rfl fl_M_46 sh_32 rfl ?_
  refine zr_iconst (v := (4 : Int32)) h d_M_differences_179 rfl (by decide) ?_
  refine zr_aload_n h d_M_differences_180 rfl rfl 0 rfl ?_
  refine zr_getI h d_M_differences_181 rfl fl_M_223 sh_32 rfl ?_
  refine zr_imul h d_M_differences_184 rfl ?_
  refine zr_iconst (v := (3 : Int32)) h d_M_differences_185 rfl (by decide) ?_
  refine zr_iadd h d_M_differences_186 rfl ?_
  obtain ⟨hb_1, hf⟩ := zx_gd_some hf
  refine zr_iald h d_M_differences_187 rfl sh_45 hb_1 ?_
  obtain ⟨x3_2, ex3_2, hf⟩ := zx_lt_some hf
  refine zr_istore_n h d_M_differences_188 rfl rfl (by decide) ex3_2 rfl ?_
  refine zr_iconst (v := (0 : Int32)) h d_M_differences_189 rfl (by decide) ?_
  obtain ⟨x4_3, ex4_3, hf⟩ := zx_lt_some hf
  refine zr_istore h d_M_differences_190 rfl (by decide) ex4_3 rfl ?_
  refine zr_sub [2, 1, 0] rfl ?_
  exact z_M_differences_192 h hE 2048 x3_2 x4_3 G hf
set_option maxRecDepth 100000 in
set_option maxHeartbeats 4000000 in
theorem z_M_differences_59 {κ : zx_K} {ad : Nat → Nat} {r : Int32} {G1 : zx_G} (h : zx_C M_M_differences κ ad) (hE : zx_E M_M_differences κ ad r G1) : ∀ (n : Nat) (x1 x2 x3 : Int32) (G : zx_G), f_M_differences_59 n x1 x2 x3 G = some (r, G1) → zx_Z κ ad 59 [(0, .ref (ad 32)), (1, .int x1), (2, .int x2), (3, .int x3)] [] G := by
  intro n
  induction n with
  | zero => intro x1 x2 x3 G hf; cases hf
  | succ n ih =>
    intro x1 x2 x3 G hf
    unfold f_M_differences_59 at hf
    refine zr_iload_n h d_M_differences_59 rfl rfl 3 rfl ?_
    rcases zx_if_some hf with ⟨hc_1, hf⟩ | ⟨hc_1, hf⟩
    · refine zr_if_lt_t (tgt := 175) h d_M_differences_60 rfl hc_1 ?_
      refine zr_sub [0] rfl ?_
      exact z_M_differences_175 h hE G hf
    · refine zr_if_lt_f h 175 d_M_differences_60 rfl rfl hc_1 ?_
      refine zr_aload_n h d_M_differences_63 rfl rfl 0 rfl ?_
      refine zr_getI h d_M_differences_64 rfl fl_M_78 sh_32 rfl ?_
      rcases zx_if_some hf with ⟨hc_2, hf⟩ | ⟨hc_2, hf⟩
      · refine zr_if_ne_t (tgt := 175) h d_M_differences_67 rfl hc_2 ?_
        refine zr_sub [0] rfl ?_
        exact z_M_differences_175 h hE G hf
      · refine zr_if_ne_f h 175 d_M_differences_67 rfl rfl hc_2 ?_
        refine zr_aload_n h d_M_differences_70 rfl rfl 0 rfl ?_
        refine zr_iload_n h d_M_differences_71 rfl rfl 1 rfl ?_
        rcases zx_if_some hf with ⟨hc_3, hf⟩ | ⟨hc_3, hf⟩
        · refine zr_if_ne_t (tgt := 80) h d_M_differences_72 rfl hc_3 ?_
          refine zr_bipush (v := (16 : Int32)) h d_M_differences_80 rfl (by decide) ?_
          exact z_M_differences_82 h hE ih x1 x2 x3 (16 : Int32) G hf
        · refine zr_if_ne_f h 80 d_M_differences_72 rfl rfl hc_3 ?_
          refine zr_bipush (v := (13 : Int32)) h d_M_differences_75 rfl (by decide) ?_
          refine zr_goto (tgt := 82) h d_M_differences_77 rfl ?_
          exact z_M_differences_82 h hE ih x1 x2 x3 (13 : Int32) G hf
set_option maxRecDepth 100000 in
set_option maxHeartbeats 4000000 in
theorem z_M_differences_53 {κ : zx_K} {ad : Nat → Nat} {r : Int32} {G1 : zx_G} (h : zx_C M_M_differences κ ad) (hE : zx_E M_M_differences κ ad r G1) (x1 s1 : Int32) (G : zx_G) (hf : f_M_differences_53 x1 s1 G = some (r, G1)) : zx_Z κ ad 53 [(0, .ref (ad 32)), (1, .int x1)] [.int s1, .ref (ad 32)] G := by
  unfold f_M_differences_53 at hf
  obtain ⟨r_2, G_1, hq_3, hf⟩ := zx_bd_some hf
  refine zr_callVI (As := [.int s1]) (b := 32) h (c_M_symbol _ _ _ _ _ s1 G r_2 G_1 hq_3) cc_M_226 d_M_differences_53 rfl rfl rfl sh_32 ⟨rfl, rfl, by decide, by decide⟩ (Nat.le_of_ble_eq_true rfl) ?_
  obtain ⟨x2_4, ex2_4, hf⟩ := zx_lt_some hf
  refine zr_istore_n h d_M_differences_56 rfl rfl (by decide) ex2_4 rfl ?_
  refine zr_iload_n h d_M_differences_57 rfl rfl 0 rfl ?_
  obtain ⟨x3_5, ex3_5, hf⟩ := zx_lt_some hf
  refine zr_istore_n h d_M_differences_58 rfl rfl (by decide) ex3_5 rfl ?_
  refine zr_sub [2, 3, 1, 0] rfl ?_
  exact z_M_differences_59 h hE 2048 x1 x2_4 x3_5 G_1 hf
set_option maxRecDepth 100000 in
set_option maxHeartbeats 4000000 in
theorem z_M_differences_33 {κ : zx_K} {ad : Nat → Nat} {r : Int32} {G1 : zx_G} (h : zx_C M_M_differences κ ad) (hE : zx_E M_M_differences κ ad r G1) (x1 s1 : Int32) (G : zx_G) (hf : f_M_differences_33 x1 s1 G = some (r, G1)) : zx_Z κ ad 33 [(0, .ref (ad 32)), (1, .int x1)] [.int s1, .ref (ad 32)] G := by
  unfold f_M_differences_33 at hf
  obtain ⟨r_2, G_1, hq_3, hf⟩ := zx_bd_some hf
  refine zr_callVI (As := [.int s1]) (b := 32) h (c_M_symbol _ _ _ _ _ s1 G r_2 G_1 hq_3) cc_M_226 d_M_differences_33 rfl rfl rfl sh_32 ⟨rfl, rfl, by decide, by decide⟩ (Nat.le_of_ble_eq_true rfl) ?_
  refine zr_iconst (v := (1 : Int32)) h d_M_differences_36 rfl (by decide) ?_
  rcases zx_if_some hf with ⟨hc_4, hf⟩ | ⟨hc_4, hf⟩
  · refine zr_icmp_ne_t (tgt := 41) h d_M_differences_37 rfl hc_4 ?_
    refine zr_aload_n h d_M_differences_41 rfl rfl 0 rfl ?_
    refine zr_iload_n h d_M_differences_42 rfl rfl 1 rfl ?_
    rcases zx_if_some hf with ⟨hc_5, hf⟩ | ⟨hc_5, hf⟩
    · refine zr_if_ne_t (tgt := 51) h d_M_differences_43 rfl hc_5 ?_
      refine zr_bipush (v := (12 : Int32)) h d_M_differences_51 rfl (by decide) ?_
      exact z_M_differences_53 h hE x1 (12 : Int32) G_1 hf
    · refine zr_if_ne_f h 51 d_M_differences_43 rfl rfl hc_5 ?_
      refine zr_bipush (v := (11 : Int32)) h d_M_differences_46 rfl (by decide) ?_
      refine zr_goto (tgt := 53) h d_M_differences_48 rfl ?_
      exact z_M_differences_53 h hE x1 (11 : Int32) G_1 hf
  · refine zr_icmp_ne_f h 41 d_M_differences_37 rfl rfl hc_4 ?_
    exact zr_vret h hE d_M_differences_40 rfl hf
set_option maxRecDepth 100000 in
set_option maxHeartbeats 4000000 in
theorem z_M_differences_2 {κ : zx_K} {ad : Nat → Nat} {r : Int32} {G1 : zx_G} (h : zx_C M_M_differences κ ad) (hE : zx_E M_M_differences κ ad r G1) : ∀ (n : Nat) (x1 x2 : Int32) (G : zx_G), f_M_differences_2 n x1 x2 G = some (r, G1) → zx_Z κ ad 2 [(0, .ref (ad 32)), (1, .int x1), (2, .int x2)] [] G := by
  intro n
  induction n with
  | zero => intro x1 x2 G hf; cases hf
  | succ n ih =>
    intro x1 x2 G hf
    unfold f_M_differences_2 at hf
    refine zr_iload_n h d_M_differences_2 rfl rfl 2 rfl ?_
    refine zr_bipush (v := (16 : Int32)) h d_M_differences_3 rfl (by decide) ?_
    rcases zx_if_some hf with ⟨hc_1, hf⟩ | ⟨hc_1, hf⟩
    · refine zr_icmp_ge_t (tgt := 21) h d_M_differences_5 rfl hc_1 ?_
      refine zr_aload_n h d_M_differences_21 rfl rfl 0 rfl ?_
      refine zr_iload_n h d_M_differences_22 rfl rfl 1 rfl ?_
      rcases zx_if_some hf with ⟨hc_2, hf⟩ | ⟨hc_2, hf⟩
      · refine zr_if_ne_t (tgt := 31) h d_M_differences_23 rfl hc_2 ?_
        refine zr_bipush (v := (9 : Int32)) h d_M_differences_31 rfl (by decide) ?_
        refine zr_sub [0, 1] rfl ?_
        exact z_M_differences_33 h hE x1 (9 : Int32) G hf
      · refine zr_if_ne_f h 31 d_M_differences_23 rfl rfl hc_2 ?_
        refine zr_bipush (v := (8 : Int32)) h d_M_differences_26 rfl (by decide) ?_
        refine zr_goto (tgt := 33) h d_M_differences_28 rfl ?_
        refine zr_sub [0, 1] rfl ?_
        exact z_M_differences_33 h hE x1 (8 : Int32) G hf
    · refine zr_icmp_ge_f h 21 d_M_differences_5 rfl rfl hc_1 ?_
      refine zr_aload_n h d_M_differences_8 rfl rfl 0 rfl ?_
      refine zr_getR h d_M_differences_9 rfl fl_M_52 sh_32 rfl ?_
      refine zr_iload_n h d_M_differences_12 rfl rfl 2 rfl ?_
      refine zr_iconst (v := (0 : Int32)) h d_M_differences_13 rfl (by decide) ?_
      obtain ⟨hb_3, hf⟩ := zx_gd_some hf
      obtain ⟨G_4, eG_4, hf⟩ := zx_lt_some hf
      refine zr_iast h d_M_differences_14 rfl sh_47 hb_3 eG_4 ?_
      obtain ⟨x2_5, ex2_5, hf⟩ := zx_lt_some hf
      refine zr_iinc (j := 2) h d_M_differences_15 rfl rfl (by decide) ex2_5 (by decide) rfl ?_
      refine zr_goto (tgt := 2) h d_M_differences_18 rfl ?_
      refine zr_sub [1, 2, 0] rfl ?_
      exact ih x1 x2_5 G_4 hf
set_option maxRecDepth 100000 in
set_option maxHeartbeats 4000000 in
theorem z_M_differences_0 {κ : zx_K} {ad : Nat → Nat} {r : Int32} {G1 : zx_G} (h : zx_C M_M_differences κ ad) (hE : zx_E M_M_differences κ ad r G1) (x1 : Int32) (G : zx_G) (hf : f_M_differences x1 G = some (r, G1)) : zx_Z κ ad 0 [(0, .ref (ad 32)), (1, .int x1)] [] G := by
  unfold f_M_differences at hf
  refine zr_iconst (v := (0 : Int32)) h d_M_differences_0 rfl (by decide) ?_
  obtain ⟨x2_1, ex2_1, hf⟩ := zx_lt_some hf
  refine zr_istore_n h d_M_differences_1 rfl rfl (by decide) ex2_1 rfl ?_
  refine zr_sub [1, 2, 0] rfl ?_
  exact z_M_differences_2 h hE 2048 x1 x2_1 G hf
theorem c_M_differences (l : Launch) (D : va_G) (cA : ClassId) (ad : Nat → Nat) (A : Nat → Prop) (x1 : Int32) (G : zx_G) (r : Int32) (G1 : zx_G) (hf : f_M_differences x1 G = some (r, G1)) : zx_met l y_M_differences M_M_differences [.ref (ad 32), .int x1] D cA ad A G r G1 :=
  zx_toMet (by decide) rfl (Nat.le_of_ble_eq_true rfl) (fun κ h hE => by exact z_M_differences_0 h hE x1 G hf)

def f_M_edges_191 (k118 : Int32 → Int32 → Int32 → Int32 → Int32 → Int32 → zx_G → Option (Int32 × zx_G)) (x1 x2 x3 x5 x6 x7 s1 s2 : Int32) (G : zx_G) : Option (Int32 × zx_G) :=
  zx_gd (zx_in s1 4) <|
  zx_lt (zx_up G 50 (Int32.toNatClampNeg s1) s2) fun G_2 =>
  zx_lt (x7 + (1 : Int32)) fun x7_3 =>
  k118 x1 x2 x3 x5 x6 x7_3 G_2
def f_M_edges_157 (k118 : Int32 → Int32 → Int32 → Int32 → Int32 → Int32 → zx_G → Option (Int32 × zx_G)) (x1 x2 x3 x5 x6 x7 s1 s2 : Int32) (G : zx_G) : Option (Int32 × zx_G) :=
  zx_gd (zx_in s1 4) <|
  zx_lt (zx_up G 49 (Int32.toNatClampNeg s1) s2) fun G_2 =>
  zx_if (x2 ≤ 0)
    (f_M_edges_191 k118 x1 x2 x3 x5 x6 x7 x7 x6 G_2)
    (zx_gd (zx_in (((x1 + ((16 : Int32) * (x3 + x7))) + x2) - (1 : Int32)) 768) <|
    f_M_edges_191 k118 x1 x2 x3 x5 x6 x7 x7 (G_2 42 (Int32.toNatClampNeg (((x1 + ((16 : Int32) * (x3 + x7))) + x2) - (1 : Int32)))) G_2)
def f_M_edges_238 (s1 : Int32) (G : zx_G) : Option (Int32 × zx_G) :=
  zx_lt (zx_up G 32 44 s1) fun G_1 =>
  some ((0 : Int32), G_1)
def f_M_edges_227 (x3 x5 x6 : Int32) (G : zx_G) : Option (Int32 × zx_G) :=
  zx_if (x3 ≤ 0)
    (f_M_edges_238 x6 G)
    (f_M_edges_238 x5 G)
def f_M_edges_118 : Nat → Int32 → Int32 → Int32 → Int32 → Int32 → Int32 → zx_G → Option (Int32 × zx_G)
  | 0, _, _, _, _, _, _, _ => none
  | n + 1, x1, x2, x3, x5, x6, x7, G =>
    zx_if ((4 : Int32) ≤ x7)
      (zx_if (x2 ≤ 0)
        (f_M_edges_227 x3 x5 x6 G)
        (zx_if (x3 ≤ 0)
          (f_M_edges_227 x3 x5 x6 G)
          (zx_gd (zx_in (((x1 + ((16 : Int32) * (x3 - (1 : Int32)))) + x2) - (1 : Int32)) 768) <|
          f_M_edges_238 (G 42 (Int32.toNatClampNeg (((x1 + ((16 : Int32) * (x3 - (1 : Int32)))) + x2) - (1 : Int32)))) G)))
      (zx_if (x3 ≤ 0)
        (f_M_edges_157 (f_M_edges_118 n) x1 x2 x3 x5 x6 x7 x7 x5 G)
        (zx_gd (zx_in (((x1 + ((16 : Int32) * (x3 - (1 : Int32)))) + x2) + x7) 768) <|
        f_M_edges_157 (f_M_edges_118 n) x1 x2 x3 x5 x6 x7 x7 (G 42 (Int32.toNatClampNeg (((x1 + ((16 : Int32) * (x3 - (1 : Int32)))) + x2) + x7))) G))
def f_M_edges_113 (x1 x2 x3 x5 s0 : Int32) (G : zx_G) : Option (Int32 × zx_G) :=
  zx_lt s0 fun x6_1 =>
  zx_lt (0 : Int32) fun x7_2 =>
  f_M_edges_118 2048 x1 x2 x3 x5 x6_1 x7_2 G
def f_M_edges_65 (x1 x2 x3 x4 s0 : Int32) (G : zx_G) : Option (Int32 × zx_G) :=
  zx_lt s0 fun x5_1 =>
  zx_if (x2 ≤ 0)
    (zx_if (x3 ≤ 0)
      (f_M_edges_113 x1 x2 x3 x5_1 x4 G)
      (zx_gd (zx_in ((x1 + ((16 : Int32) * (x3 - (1 : Int32)))) + x2) 768) <|
      f_M_edges_113 x1 x2 x3 x5_1 (G 42 (Int32.toNatClampNeg ((x1 + ((16 : Int32) * (x3 - (1 : Int32)))) + x2))) G))
    (zx_gd (zx_in (((x1 + ((16 : Int32) * x3)) + x2) - (1 : Int32)) 768) <|
    f_M_edges_113 x1 x2 x3 x5_1 (G 42 (Int32.toNatClampNeg (((x1 + ((16 : Int32) * x3)) + x2) - (1 : Int32)))) G)
def f_M_edges_17 (x1 x2 x3 s0 : Int32) (G : zx_G) : Option (Int32 × zx_G) :=
  zx_lt s0 fun x4_1 =>
  zx_if (x3 ≤ 0)
    (zx_if (x2 ≤ 0)
      (f_M_edges_65 x1 x2 x3 x4_1 x4_1 G)
      (zx_gd (zx_in (((x1 + ((16 : Int32) * x3)) + x2) - (1 : Int32)) 768) <|
      f_M_edges_65 x1 x2 x3 x4_1 (G 42 (Int32.toNatClampNeg (((x1 + ((16 : Int32) * x3)) + x2) - (1 : Int32)))) G))
    (zx_gd (zx_in ((x1 + ((16 : Int32) * (x3 - (1 : Int32)))) + x2) 768) <|
    f_M_edges_65 x1 x2 x3 x4_1 (G 42 (Int32.toNatClampNeg ((x1 + ((16 : Int32) * (x3 - (1 : Int32)))) + x2))) G)
def f_M_edges (x1 x2 x3 : Int32) (G : zx_G) : Option (Int32 × zx_G) :=
  zx_if (¬ (G 32 17) = (1 : Int32))
    (f_M_edges_17 x1 x2 x3 (128 : Int32) G)
    (f_M_edges_17 x1 x2 x3 (512 : Int32) G)
set_option maxRecDepth 100000 in
set_option maxHeartbeats 4000000 in
theorem z_M_edges_191 {κ : zx_K} {ad : Nat → Nat} {r : Int32} {G1 : zx_G} (h : zx_C M_M_edges κ ad) (hE : zx_E M_M_edges κ ad r G1) {k118 : Int32 → Int32 → Int32 → Int32 → Int32 → Int32 → zx_G → Option (Int32 × zx_G)} (hk118 : ∀ (x1 x2 x3 x5 x6 x7 : Int32) (G : zx_G), k118 x1 x2 x3 x5 x6 x7 G = some (r, G1) → zx_Z κ ad 118 [(0, .ref (ad 32)), (1, .int x1), (2, .int x2), (3, .int x3), (5, .int x5), (6, .int x6), (7, .int x7)] [] G) (x1 x2 x3 x5 x6 x7 s1 s2 : Int32) (G : zx_G) (hf : f_M_edges_191 k118 x1 x2 x3 x5 x6 x7 s1 s2 G = some (r, G1)) : zx_Z κ ad 191 [(0, .ref (ad 32)), (1, .int x1), (2, .int x2), (3, .int x3), (5, .int x5), (6, .int x6), (7, .int x7)] [.int s2, .int s1, .ref (ad 50)] G := by
  unfold f_M_edges_191 at hf
  obtain ⟨hb_1, hf⟩ := zx_gd_some hf
  obtain ⟨G_2, eG_2, hf⟩ := zx_lt_some hf
  refine zr_iast h d_M_edges_191 rfl sh_50 hb_1 eG_2 ?_
  obtain ⟨x7_3, ex7_3, hf⟩ := zx_lt_some hf
  refine zr_iinc (j := 6) h d_M_edges_192 rfl rfl (by decide) ex7_3 (by decide) rfl ?_
  refine zr_goto (tgt := 118) h d_M_edges_195 rfl ?_
  refine zr_sub [1, 2, 3, 4, 5, 6, 0] rfl ?_
  exact hk118 x1 x2 x3 x5 x6 x7_3 G_2 hf
set_option maxRecDepth 100000 in
set_option maxHeartbeats 4000000 in
theorem z_M_edges_157 {κ : zx_K} {ad : Nat → Nat} {r : Int32} {G1 : zx_G} (h : zx_C M_M_edges κ ad) (hE : zx_E M_M_edges κ ad r G1) {k118 : Int32 → Int32 → Int32 → Int32 → Int32 → Int32 → zx_G → Option (Int32 × zx_G)} (hk118 : ∀ (x1 x2 x3 x5 x6 x7 : Int32) (G : zx_G), k118 x1 x2 x3 x5 x6 x7 G = some (r, G1) → zx_Z κ ad 118 [(0, .ref (ad 32)), (1, .int x1), (2, .int x2), (3, .int x3), (5, .int x5), (6, .int x6), (7, .int x7)] [] G) (x1 x2 x3 x5 x6 x7 s1 s2 : Int32) (G : zx_G) (hf : f_M_edges_157 k118 x1 x2 x3 x5 x6 x7 s1 s2 G = some (r, G1)) : zx_Z κ ad 157 [(0, .ref (ad 32)), (1, .int x1), (2, .int x2), (3, .int x3), (5, .int x5), (6, .int x6), (7, .int x7)] [.int s2, .int s1, .ref (ad 49)] G := by
  unfold f_M_edges_157 at hf
  obtain ⟨hb_1, hf⟩ := zx_gd_some hf
  obtain ⟨G_2, eG_2, hf⟩ := zx_lt_some hf
  refine zr_iast h d_M_edges_157 rfl sh_49 hb_1 eG_2 ?_
  refine zr_aload_n h d_M_edges_158 rfl rfl 0 rfl ?_
  refine zr_getR h d_M_edges_159 rfl fl_M_61 sh_32 rfl ?_
  refine zr_iload h d_M_edges_162 rfl 6 rfl ?_
  refine zr_iload_n h d_M_edges_164 rfl rfl 2 rfl ?_
  rcases zx_if_some hf with ⟨hc_3, hf⟩ | ⟨hc_3, hf⟩
  · refine zr_if_le_t (tgt := 189) h d_M_edges_165 rfl hc_3 ?_
    refine zr_iload h d_M_edges_189 rfl 5 rfl ?_
    exact z_M_edges_191 h hE hk118 x1 x2 x3 x5 x6 x7 x7 x6 G_2 hf
  · refine zr_if_le_f h 189 d_M_edges_165 rfl rfl hc_3 ?_
    refine zr_aload_n h d_M_edges_168 rfl rfl 0 rfl ?_
    refine zr_getR h d_M_edges_169 rfl fl_M_37 sh_32 rfl ?_
    refine zr_iload_n h d_M_edges_172 rfl rfl 1 rfl ?_
    refine zr_bipush (v := (16 : Int32)) h d_M_edges_173 rfl (by decide) ?_
    refine zr_iload_n h d_M_edges_175 rfl rfl 3 rfl ?_
    refine zr_iload h d_M_edges_176 rfl 6 rfl ?_
    refine zr_iadd h d_M_edges_178 rfl ?_
    refine zr_imul h d_M_edges_179 rfl ?_
    refine zr_iadd h d_M_edges_180 rfl ?_
    refine zr_iload_n h d_M_edges_181 rfl rfl 2 rfl ?_
    refine zr_iadd h d_M_edges_182 rfl ?_
    refine zr_iconst (v := (1 : Int32)) h d_M_edges_183 rfl (by decide) ?_
    refine zr_isub h d_M_edges_184 rfl ?_
    obtain ⟨hb_4, hf⟩ := zx_gd_some hf
    refine zr_iald h d_M_edges_185 rfl sh_42 hb_4 ?_
    refine zr_goto (tgt := 191) h d_M_edges_186 rfl ?_
    exact z_M_edges_191 h hE hk118 x1 x2 x3 x5 x6 x7 x7 (G_2 42 (Int32.toNatClampNeg (((x1 + ((16 : Int32) * (x3 + x7))) + x2) - (1 : Int32)))) G_2 hf
set_option maxRecDepth 100000 in
set_option maxHeartbeats 4000000 in
theorem z_M_edges_238 {κ : zx_K} {ad : Nat → Nat} {r : Int32} {G1 : zx_G} (h : zx_C M_M_edges κ ad) (hE : zx_E M_M_edges κ ad r G1) (s1 : Int32) (G : zx_G) (hf : f_M_edges_238 s1 G = some (r, G1)) : zx_Z κ ad 238 [] [.int s1, .ref (ad 32)] G := by
  unfold f_M_edges_238 at hf
  obtain ⟨G_1, eG_1, hf⟩ := zx_lt_some hf
  refine zr_putI h d_M_edges_238 rfl fl_M_248 pl_M_44 sh_32 rfl rfl rfl eG_1 ?_
  exact zr_vret h hE d_M_edges_241 rfl hf
set_option maxRecDepth 100000 in
set_option maxHeartbeats 4000000 in
theorem z_M_edges_227 {κ : zx_K} {ad : Nat → Nat} {r : Int32} {G1 : zx_G} (h : zx_C M_M_edges κ ad) (hE : zx_E M_M_edges κ ad r G1) (x3 x5 x6 : Int32) (G : zx_G) (hf : f_M_edges_227 x3 x5 x6 G = some (r, G1)) : zx_Z κ ad 227 [(3, .int x3), (5, .int x5), (6, .int x6)] [.ref (ad 32)] G := by
  unfold f_M_edges_227 at hf
  refine zr_iload_n h d_M_edges_227 rfl rfl 0 rfl ?_
  rcases zx_if_some hf with ⟨hc_1, hf⟩ | ⟨hc_1, hf⟩
  · refine zr_if_le_t (tgt := 236) h d_M_edges_228 rfl hc_1 ?_
    refine zr_iload h d_M_edges_236 rfl 2 rfl ?_
    refine zr_sub [] rfl ?_
    exact z_M_edges_238 h hE x6 G hf
  · refine zr_if_le_f h 236 d_M_edges_228 rfl rfl hc_1 ?_
    refine zr_iload h d_M_edges_231 rfl 1 rfl ?_
    refine zr_goto (tgt := 238) h d_M_edges_233 rfl ?_
    refine zr_sub [] rfl ?_
    exact z_M_edges_238 h hE x5 G hf
set_option maxRecDepth 100000 in
set_option maxHeartbeats 4000000 in
theorem z_M_edges_118 {κ : zx_K} {ad : Nat → Nat} {r : Int32} {G1 : zx_G} (h : zx_C M_M_edges κ ad) (hE : zx_E M_M_edges κ ad r G1) : ∀ (n : Nat) (x1 x2 x3 x5 x6 x7 : Int32) (G : zx_G), f_M_edges_118 n x1 x2 x3 x5 x6 x7 G = some (r, G1) → zx_Z κ ad 118 [(0, .ref (ad 32)), (1, .int x1), (2, .int x2), (3, .int x3), (5, .int x5), (6, .int x6), (7, .int x7)] [] G := by
  intro n
  induction n with
  | zero => intro x1 x2 x3 x5 x6 x7 G hf; cases hf
  | succ n ih =>
    intro x1 x2 x3 x5 x6 x7 G hf
    unfold f_M_edges_118 at hf
    refine zr_iload h d_M_edges_118 rfl 6 rfl ?_
    refine zr_iconst (v := (4 : Int32)) h d_M_edges_120 rfl (by decide) ?_
    rcases zx_if_some hf with ⟨hc_1, hf⟩ | ⟨hc_1, hf⟩
    · refine zr_icmp_ge_t (tgt := 198) h d_M_edges_121 rfl hc_1 ?_
      refine zr_aload_n h d_M_edges_198 rfl rfl 0 rfl ?_
      refine zr_iload_n h d_M_edges_199 rfl rfl 2 rfl ?_
      rcases zx_if_some hf with ⟨hc_2, hf⟩ | ⟨hc_2, hf⟩
      · refine zr_if_le_t (tgt := 227) h d_M_edges_200 rfl hc_2 ?_
        refine zr_sub [3, 4, 5] rfl ?_
        exact z_M_edges_227 h hE x3 x5 x6 G hf
      · refine zr_if_le_f h 227 d_M_edges_200 rfl rfl hc_2 ?_
        refine zr_iload_n h d_M_edges_203 rfl rfl 3 rfl ?_
        rcases zx_if_some hf with ⟨hc_3, hf⟩ | ⟨hc_3, hf⟩
        · refine zr_if_le_t (tgt := 227) h d_M_edges_204 rfl hc_3 ?_
          refine zr_sub [3, 4, 5] rfl ?_
          exact z_M_edges_227 h hE x3 x5 x6 G hf
        · refine zr_if_le_f h 227 d_M_edges_204 rfl rfl hc_3 ?_
          refine zr_aload_n h d_M_edges_207 rfl rfl 0 rfl ?_
          refine zr_getR h d_M_edges_208 rfl fl_M_37 sh_32 rfl ?_
          refine zr_iload_n h d_M_edges_211 rfl rfl 1 rfl ?_
          refine zr_bipush (v := (16 : Int32)) h d_M_edges_212 rfl (by decide) ?_
          refine zr_iload_n h d_M_edges_214 rfl rfl 3 rfl ?_
          refine zr_iconst (v := (1 : Int32)) h d_M_edges_215 rfl (by decide) ?_
          refine zr_isub h d_M_edges_216 rfl ?_
          refine zr_imul h d_M_edges_217 rfl ?_
          refine zr_iadd h d_M_edges_218 rfl ?_
          refine zr_iload_n h d_M_edges_219 rfl rfl 2 rfl ?_
          refine zr_iadd h d_M_edges_220 rfl ?_
          refine zr_iconst (v := (1 : Int32)) h d_M_edges_221 rfl (by decide) ?_
          refine zr_isub h d_M_edges_222 rfl ?_
          obtain ⟨hb_4, hf⟩ := zx_gd_some hf
          refine zr_iald h d_M_edges_223 rfl sh_42 hb_4 ?_
          refine zr_goto (tgt := 238) h d_M_edges_224 rfl ?_
          refine zr_sub [] rfl ?_
          exact z_M_edges_238 h hE (G 42 (Int32.toNatClampNeg (((x1 + ((16 : Int32) * (x3 - (1 : Int32)))) + x2) - (1 : Int32)))) G hf
    · refine zr_icmp_ge_f h 198 d_M_edges_121 rfl rfl hc_1 ?_
      refine zr_aload_n h d_M_edges_124 rfl rfl 0 rfl ?_
      refine zr_getR h d_M_edges_125 rfl fl_M_58 sh_32 rfl ?_
      refine zr_iload h d_M_edges_128 rfl 6 rfl ?_
      refine zr_iload_n h d_M_edges_130 rfl rfl 3 rfl ?_
      rcases zx_if_some hf with ⟨hc_5, hf⟩ | ⟨hc_5, hf⟩
      · refine zr_if_le_t (tgt := 155) h d_M_edges_131 rfl hc_5 ?_
        refine zr_iload h d_M_edges_155 rfl 4 rfl ?_
        exact z_M_edges_157 h hE ih x1 x2 x3 x5 x6 x7 x7 x5 G hf
      · refine zr_if_le_f h 155 d_M_edges_131 rfl rfl hc_5 ?_
        refine zr_aload_n h d_M_edges_134 rfl rfl 0 rfl ?_
        refine zr_getR h d_M_edges_135 rfl fl_M_37 sh_32 rfl ?_
        refine zr_iload_n h d_M_edges_138 rfl rfl 1 rfl ?_
        refine zr_bipush (v := (16 : Int32)) h d_M_edges_139 rfl (by decide) ?_
        refine zr_iload_n h d_M_edges_141 rfl rfl 3 rfl ?_
        refine zr_iconst (v := (1 : Int32)) h d_M_edges_142 rfl (by decide) ?_
        refine zr_isub h d_M_edges_143 rfl ?_
        refine zr_imul h d_M_edges_144 rfl ?_
        refine zr_iadd h d_M_edges_145 rfl ?_
        refine zr_iload_n h d_M_edges_146 rfl rfl 2 rfl ?_
        refine zr_iadd h d_M_edges_147 rfl ?_
        refine zr_iload h d_M_edges_148 rfl 6 rfl ?_
        refine zr_iadd h d_M_edges_150 rfl ?_
        obtain ⟨hb_6, hf⟩ := zx_gd_some hf
        refine zr_iald h d_M_edges_151 rfl sh_42 hb_6 ?_
        refine zr_goto (tgt := 157) h d_M_edges_152 rfl ?_
        exact z_M_edges_157 h hE ih x1 x2 x3 x5 x6 x7 x7 (G 42 (Int32.toNatClampNeg (((x1 + ((16 : Int32) * (x3 - (1 : Int32)))) + x2) + x7))) G hf
set_option maxRecDepth 100000 in
set_option maxHeartbeats 4000000 in
theorem z_M_edges_113 {κ : zx_K} {ad : Nat → Nat} {r : Int32} {G1 : zx_G} (h : zx_C M_M_edges κ ad) (hE : zx_E M_M_edges κ ad r G1) (x1 x2 x3 x5 s0 : Int32) (G : zx_G) (hf : f_M_edges_113 x1 x2 x3 x5 s0 G = some (r, G1)) : zx_Z κ ad 113 [(0, .ref (ad 32)), (1, .int x1), (2, .int x2), (3, .int x3), (5, .int x5)] [.int s0] G := by
  unfold f_M_edges_113 at hf
  obtain ⟨x6_1, ex6_1, hf⟩ := zx_lt_some hf
  refine zr_istore h d_M_edges_113 rfl (by decide) ex6_1 rfl ?_
  refine zr_iconst (v := (0 : Int32)) h d_M_edges_115 rfl (by decide) ?_
  obtain ⟨x7_2, ex7_2, hf⟩ := zx_lt_some hf
  refine zr_istore h d_M_edges_116 rfl (by decide) ex7_2 rfl ?_
  refine zr_sub [2, 3, 4, 5, 6, 1, 0] rfl ?_
  exact z_M_edges_118 h hE 2048 x1 x2 x3 x5 x6_1 x7_2 G hf
set_option maxRecDepth 100000 in
set_option maxHeartbeats 4000000 in
theorem z_M_edges_65 {κ : zx_K} {ad : Nat → Nat} {r : Int32} {G1 : zx_G} (h : zx_C M_M_edges κ ad) (hE : zx_E M_M_edges κ ad r G1) (x1 x2 x3 x4 s0 : Int32) (G : zx_G) (hf : f_M_edges_65 x1 x2 x3 x4 s0 G = some (r, G1)) : zx_Z κ ad 65 [(0, .ref (ad 32)), (1, .int x1), (2, .int x2), (3, .int x3), (4, .int x4)] [.int s0] G := by
  unfold f_M_edges_65 at hf
  obtain ⟨x5_1, ex5_1, hf⟩ := zx_lt_some hf
  refine zr_istore h d_M_edges_65 rfl (by decide) ex5_1 rfl ?_
  refine zr_iload_n h d_M_edges_67 rfl rfl 3 rfl ?_
  rcases zx_if_some hf with ⟨hc_2, hf⟩ | ⟨hc_2, hf⟩
  · refine zr_if_le_t (tgt := 89) h d_M_edges_68 rfl hc_2 ?_
    refine zr_iload_n h d_M_edges_89 rfl rfl 4 rfl ?_
    rcases zx_if_some hf with ⟨hc_3, hf⟩ | ⟨hc_3, hf⟩
    · refine zr_if_le_t (tgt := 111) h d_M_edges_90 rfl hc_3 ?_
      refine zr_iload h d_M_edges_111 rfl 5 rfl ?_
      refine zr_sub [1, 2, 3, 4, 0] rfl ?_
      exact z_M_edges_113 h hE x1 x2 x3 x5_1 x4 G hf
    · refine zr_if_le_f h 111 d_M_edges_90 rfl rfl hc_3 ?_
      refine zr_aload_n h d_M_edges_93 rfl rfl 1 rfl ?_
      refine zr_getR h d_M_edges_94 rfl fl_M_37 sh_32 rfl ?_
      refine zr_iload_n h d_M_edges_97 rfl rfl 2 rfl ?_
      refine zr_bipush (v := (16 : Int32)) h d_M_edges_98 rfl (by decide) ?_
      refine zr_iload_n h d_M_edges_100 rfl rfl 4 rfl ?_
      refine zr_iconst (v := (1 : Int32)) h d_M_edges_101 rfl (by decide) ?_
      refine zr_isub h d_M_edges_102 rfl ?_
      refine zr_imul h d_M_edges_103 rfl ?_
      refine zr_iadd h d_M_edges_104 rfl ?_
      refine zr_iload_n h d_M_edges_105 rfl rfl 3 rfl ?_
      refine zr_iadd h d_M_edges_106 rfl ?_
      obtain ⟨hb_4, hf⟩ := zx_gd_some hf
      refine zr_iald h d_M_edges_107 rfl sh_42 hb_4 ?_
      refine zr_goto (tgt := 113) h d_M_edges_108 rfl ?_
      refine zr_sub [1, 2, 3, 4, 0] rfl ?_
      exact z_M_edges_113 h hE x1 x2 x3 x5_1 (G 42 (Int32.toNatClampNeg ((x1 + ((16 : Int32) * (x3 - (1 : Int32)))) + x2))) G hf
  · refine zr_if_le_f h 89 d_M_edges_68 rfl rfl hc_2 ?_
    refine zr_aload_n h d_M_edges_71 rfl rfl 1 rfl ?_
    refine zr_getR h d_M_edges_72 rfl fl_M_37 sh_32 rfl ?_
    refine zr_iload_n h d_M_edges_75 rfl rfl 2 rfl ?_
    refine zr_bipush (v := (16 : Int32)) h d_M_edges_76 rfl (by decide) ?_
    refine zr_iload_n h d_M_edges_78 rfl rfl 4 rfl ?_
    refine zr_imul h d_M_edges_79 rfl ?_
    refine zr_iadd h d_M_edges_80 rfl ?_
    refine zr_iload_n h d_M_edges_81 rfl rfl 3 rfl ?_
    refine zr_iadd h d_M_edges_82 rfl ?_
    refine zr_iconst (v := (1 : Int32)) h d_M_edges_83 rfl (by decide) ?_
    refine zr_isub h d_M_edges_84 rfl ?_
    obtain ⟨hb_5, hf⟩ := zx_gd_some hf
    refine zr_iald h d_M_edges_85 rfl sh_42 hb_5 ?_
    refine zr_goto (tgt := 113) h d_M_edges_86 rfl ?_
    refine zr_sub [1, 2, 3, 4, 0] rfl ?_
    exact z_M_edges_113 h hE x1 x2 x3 x5_1 (G 42 (Int32.toNatClampNeg (((x1 + ((16 : Int32) * x3)) + x2) - (1 : Int32)))) G hf
set_option maxRecDepth 100000 in
set_option maxHeartbeats 4000000 in
theorem z_M_edges_17 {κ : zx_K} {ad : Nat → Nat} {r : Int32} {G1 : zx_G} (h : zx_C M_M_edges κ ad) (hE : zx_E M_M_edges κ ad r G1) (x1 x2 x3 s0 : Int32) (G : zx_G) (hf : f_M_edges_17 x1 x2 x3 s0 G = some (r, G1)) : zx_Z κ ad 17 [(0, .ref (ad 32)), (1, .int x1), (2, .int x2), (3, .int x3)] [.int s0] G := by
  unfold f_M_edges_17 at hf
  obtain ⟨x4_1, ex4_1, hf⟩ := zx_lt_some hf
  refine zr_istore h d_M_edges_17 rfl (by decide) ex4_1 rfl ?_
  refine zr_iload_n h d_M_edges_19 rfl rfl 4 rfl ?_
  rcases zx_if_some hf with ⟨hc_2, hf⟩ | ⟨hc_2, hf⟩
  · refine zr_if_le_t (tgt := 41) h d_M_edges_20 rfl hc_2 ?_
    refine zr_iload_n h d_M_edges_41 rfl rfl 3 rfl ?_
    rcases zx_if_some hf with ⟨hc_3, hf⟩ | ⟨hc_3, hf⟩
    · refine zr_if_le_t (tgt := 63) h d_M_edges_42 rfl hc_3 ?_
      refine zr_iload h d_M_edges_63 rfl 0 rfl ?_
      refine zr_sub [1, 2, 3, 4, 0] rfl ?_
      exact z_M_edges_65 h hE x1 x2 x3 x4_1 x4_1 G hf
    · refine zr_if_le_f h 63 d_M_edges_42 rfl rfl hc_3 ?_
      refine zr_aload_n h d_M_edges_45 rfl rfl 1 rfl ?_
      refine zr_getR h d_M_edges_46 rfl fl_M_37 sh_32 rfl ?_
      refine zr_iload_n h d_M_edges_49 rfl rfl 2 rfl ?_
      refine zr_bipush (v := (16 : Int32)) h d_M_edges_50 rfl (by decide) ?_
      refine zr_iload_n h d_M_edges_52 rfl rfl 4 rfl ?_
      refine zr_imul h d_M_edges_53 rfl ?_
      refine zr_iadd h d_M_edges_54 rfl ?_
      refine zr_iload_n h d_M_edges_55 rfl rfl 3 rfl ?_
      refine zr_iadd h d_M_edges_56 rfl ?_
      refine zr_iconst (v := (1 : Int32)) h d_M_edges_57 rfl (by decide) ?_
      refine zr_isub h d_M_edges_58 rfl ?_
      obtain ⟨hb_4, hf⟩ := zx_gd_some hf
      refine zr_iald h d_M_edges_59 rfl sh_42 hb_4 ?_
      refine zr_goto (tgt := 65) h d_M_edges_60 rfl ?_
      refine zr_sub [1, 2, 3, 4, 0] rfl ?_
      exact z_M_edges_65 h hE x1 x2 x3 x4_1 (G 42 (Int32.toNatClampNeg (((x1 + ((16 : Int32) * x3)) + x2) - (1 : Int32)))) G hf
  · refine zr_if_le_f h 41 d_M_edges_20 rfl rfl hc_2 ?_
    refine zr_aload_n h d_M_edges_23 rfl rfl 1 rfl ?_
    refine zr_getR h d_M_edges_24 rfl fl_M_37 sh_32 rfl ?_
    refine zr_iload_n h d_M_edges_27 rfl rfl 2 rfl ?_
    refine zr_bipush (v := (16 : Int32)) h d_M_edges_28 rfl (by decide) ?_
    refine zr_iload_n h d_M_edges_30 rfl rfl 4 rfl ?_
    refine zr_iconst (v := (1 : Int32)) h d_M_edges_31 rfl (by decide) ?_
    refine zr_isub h d_M_edges_32 rfl ?_
    refine zr_imul h d_M_edges_33 rfl ?_
    refine zr_iadd h d_M_edges_34 rfl ?_
    refine zr_iload_n h d_M_edges_35 rfl rfl 3 rfl ?_
    refine zr_iadd h d_M_edges_36 rfl ?_
    obtain ⟨hb_5, hf⟩ := zx_gd_some hf
    refine zr_iald h d_M_edges_37 rfl sh_42 hb_5 ?_
    refine zr_goto (tgt := 65) h d_M_edges_38 rfl ?_
    refine zr_sub [1, 2, 3, 4, 0] rfl ?_
    exact z_M_edges_65 h hE x1 x2 x3 x4_1 (G 42 (Int32.toNatClampNeg ((x1 + ((16 : Int32) * (x3 - (1 : Int32)))) + x2))) G hf
set_option maxRecDepth 100000 in
set_option maxHeartbeats 4000000 in
theorem z_M_edges_0 {κ : zx_K} {ad : Nat → Nat} {r : Int32} {G1 : zx_G} (h : zx_C M_M_edges κ ad) (hE : zx_E M_M_edges κ ad r G1) (x1 x2 x3 : Int32) (G : zx_G) (hf : f_M_edges x1 x2 x3 G = some (r, G1)) : zx_Z κ ad 0 [(0, .ref (ad 32)), (1, .int x1), (2, .int x2), (3, .int x3)] [] G := by
  unfold f_M_edges at hf
  refine zr_aload_n h d_M_edges_0 rfl rfl 0 rfl ?_
  refine zr_getI h d_M_edges_1 rfl fl_M_168 sh_32 rfl ?_
  refine zr_iconst (v := (1 : Int32)) h d_M_edges_4 rfl (by decide) ?_
  rcases zx_if_some hf with ⟨hc_1, hf⟩ | ⟨hc_1, hf⟩
  · refine zr_icmp_ne_t (tgt := 14) h d_M_edges_5 rfl hc_1 ?_
    refine zr_sipush (v := (128 : Int32)) h d_M_edges_14 rfl (by decide) ?_
    exact z_M_edges_17 h hE x1 x2 x3 (128 : Int32) G hf
  · refine zr_icmp_ne_f h 14 d_M_edges_5 rfl rfl hc_1 ?_
    refine zr_sipush (v := (512 : Int32)) h d_M_edges_8 rfl (by decide) ?_
    refine zr_goto (tgt := 17) h d_M_edges_11 rfl ?_
    exact z_M_edges_17 h hE x1 x2 x3 (512 : Int32) G hf
theorem c_M_edges (l : Launch) (D : va_G) (cA : ClassId) (ad : Nat → Nat) (A : Nat → Prop) (x1 x2 x3 : Int32) (G : zx_G) (r : Int32) (G1 : zx_G) (hf : f_M_edges x1 x2 x3 G = some (r, G1)) : zx_met l y_M_edges M_M_edges [.ref (ad 32), .int x1, .int x2, .int x3] D cA ad A G r G1 :=
  zx_toMet (by decide) rfl (Nat.le_of_ble_eq_true rfl) (fun κ h hE => by exact z_M_edges_0 h hE x1 x2 x3 G hf)

def f_M_piece_23 (G : zx_G) : Option (Int32 × zx_G) :=
  some ((0 : Int32), G)
def f_M_piece_212 (k112 : Int32 → Int32 → Int32 → Int32 → Int32 → Int32 → zx_G → Option (Int32 × zx_G)) (x1 x2 x3 x4 x5 x6 x7 x8 s0 : Int32) (G : zx_G) : Option (Int32 × zx_G) :=
  zx_lt s0 fun x10_1 =>
  zx_gd (zx_in x6 16) <|
  zx_bd (f_M_within (x10_1 + (G 47 (Int32.toNatClampNeg x6))) G) fun r_4 G_3 =>
  zx_gd (zx_in (((((256 : Int32) * x1) + ((16 : Int32) * (x3 + x8))) + x2) + x7) 768) <|
  zx_lt (zx_up G_3 42 (Int32.toNatClampNeg (((((256 : Int32) * x1) + ((16 : Int32) * (x3 + x8))) + x2) + x7)) r_4) fun G_7 =>
  zx_lt (x6 + (1 : Int32)) fun x6_8 =>
  k112 x1 x2 x3 x4 x5 x6_8 G_7
def f_M_piece_182 (k112 : Int32 → Int32 → Int32 → Int32 → Int32 → Int32 → zx_G → Option (Int32 × zx_G)) (x1 x2 x3 x4 x5 x6 x7 x8 x9 s1 s3 : Int32) (G : zx_G) : Option (Int32 × zx_G) :=
  zx_gd (zx_in s3 2) <|
  zx_bd (f_M_within (s1 + ((((G 46 (Int32.toNatClampNeg s3)) * (x9 - (x5 >>> ((4 : Int32) &&& 31)))) + (2 : Int32)) >>> ((2 : Int32) &&& 31))) G) fun r_3 G_2 =>
  f_M_piece_212 k112 x1 x2 x3 x4 x5 x6 x7 x8 r_3 G_2
def f_M_piece_112 : Nat → Int32 → Int32 → Int32 → Int32 → Int32 → Int32 → zx_G → Option (Int32 × zx_G)
  | 0, _, _, _, _, _, _, _ => none
  | n + 1, x1, x2, x3, x4, x5, x6, G =>
    zx_if ((16 : Int32) ≤ x6)
      (some ((0 : Int32), G))
      (zx_gd (zx_nz (4 : Int32)) <|
      zx_lt (zx_rem x6 (4 : Int32)) fun x7_3 =>
      zx_gd (zx_nz (4 : Int32)) <|
      zx_lt (zx_div x6 (4 : Int32)) fun x8_5 =>
      zx_gd (zx_in ((((16 : Int32) * (x3 + x8_5)) + x2) + x7_3) 768) <|
      zx_lt (G 42 (Int32.toNatClampNeg ((((16 : Int32) * (x3 + x8_5)) + x2) + x7_3))) fun x9_7 =>
      zx_if (¬ x4 = (6 : Int32))
        (zx_bd (f_M_predicted x4 x7_3 x8_5 G) fun r_10 G_9 =>
        f_M_piece_212 (f_M_piece_112 n) x1 x2 x3 x4 x5 x6 x7_3 x8_5 r_10 G_9)
        (zx_bd (f_M_predicted (0 : Int32) x7_3 x8_5 G) fun r_13 G_12 =>
        zx_if (¬ x1 = 0)
          (f_M_piece_182 (f_M_piece_112 n) x1 x2 x3 x4 x5 x6 x7_3 x8_5 x9_7 r_13 (x1 - (1 : Int32)) G_12)
          (f_M_piece_182 (f_M_piece_112 n) x1 x2 x3 x4 x5 x6 x7_3 x8_5 x9_7 r_13 (0 : Int32) G_12)))
def f_M_piece_70 : Nat → Int32 → Int32 → Int32 → Int32 → Int32 → Int32 → zx_G → Option (Int32 × zx_G)
  | 0, _, _, _, _, _, _, _ => none
  | n + 1, x1, x2, x3, x4, x5, x6, G =>
    zx_if ((16 : Int32) ≤ x6)
      (zx_lt (0 : Int32) fun x6_2 =>
      f_M_piece_112 2048 x1 x2 x3 x4 x5 x6_2 G)
      (zx_gd (zx_nz (4 : Int32)) <|
      zx_gd (zx_nz (4 : Int32)) <|
      zx_gd (zx_in ((((16 : Int32) * (x3 + (zx_div x6 (4 : Int32)))) + x2) + (zx_rem x6 (4 : Int32))) 768) <|
      zx_lt (x5 + (G 42 (Int32.toNatClampNeg ((((16 : Int32) * (x3 + (zx_div x6 (4 : Int32)))) + x2) + (zx_rem x6 (4 : Int32)))))) fun x5_6 =>
      zx_lt (x6 + (1 : Int32)) fun x6_7 =>
      f_M_piece_70 n x1 x2 x3 x4 x5_6 x6_7 G)
def f_M_piece_59 (x1 x2 x3 s1 s2 : Int32) (G : zx_G) : Option (Int32 × zx_G) :=
  zx_gd (zx_in (s1 + s2) 68) <|
  zx_lt (G 45 (Int32.toNatClampNeg (s1 + s2))) fun x4_2 =>
  zx_lt (8 : Int32) fun x5_3 =>
  zx_lt (0 : Int32) fun x6_4 =>
  f_M_piece_70 2048 x1 x2 x3 x4_2 x5_3 x6_4 G
def f_M_piece (x1 x2 x3 : Int32) (G : zx_G) : Option (Int32 × zx_G) :=
  zx_if ((G 32 18) ≤ x2)
    (f_M_piece_23 G)
    (zx_if ((G 32 19) ≤ x3)
      (f_M_piece_23 G)
      (zx_if ((G 32 10) = 0)
        (zx_bd (f_M_differences x1 G) fun r_5 G_4 =>
        zx_bd (f_M_edges ((256 : Int32) * x1) x2 x3 G_4) fun r_8 G_7 =>
        zx_if (¬ x1 = 0)
          (f_M_piece_59 x1 x2 x3 ((4 : Int32) * (G_7 32 37)) (2 : Int32) G_7)
          (f_M_piece_59 x1 x2 x3 ((4 : Int32) * (G_7 32 37)) (1 : Int32) G_7))
        (f_M_piece_23 G)))
set_option maxRecDepth 100000 in
set_option maxHeartbeats 4000000 in
theorem z_M_piece_23 {κ : zx_K} {ad : Nat → Nat} {r : Int32} {G1 : zx_G} (h : zx_C M_M_piece κ ad) (hE : zx_E M_M_piece κ ad r G1) (G : zx_G) (hf : f_M_piece_23 G = some (r, G1)) : zx_Z κ ad 23 [] [] G := by
  unfold f_M_piece_23 at hf
  exact zr_vret h hE d_M_piece_23 rfl hf
set_option maxRecDepth 100000 in
set_option maxHeartbeats 4000000 in
theorem z_M_piece_212 {κ : zx_K} {ad : Nat → Nat} {r : Int32} {G1 : zx_G} (h : zx_C M_M_piece κ ad) (hE : zx_E M_M_piece κ ad r G1) {k112 : Int32 → Int32 → Int32 → Int32 → Int32 → Int32 → zx_G → Option (Int32 × zx_G)} (hk112 : ∀ (x1 x2 x3 x4 x5 x6 : Int32) (G : zx_G), k112 x1 x2 x3 x4 x5 x6 G = some (r, G1) → zx_Z κ ad 112 [(0, .ref (ad 32)), (1, .int x1), (2, .int x2), (3, .int x3), (4, .int x4), (5, .int x5), (6, .int x6)] [] G) (x1 x2 x3 x4 x5 x6 x7 x8 s0 : Int32) (G : zx_G) (hf : f_M_piece_212 k112 x1 x2 x3 x4 x5 x6 x7 x8 s0 G = some (r, G1)) : zx_Z κ ad 212 [(0, .ref (ad 32)), (1, .int x1), (2, .int x2), (3, .int x3), (4, .int x4), (5, .int x5), (6, .int x6), (7, .int x7), (8, .int x8)] [.int s0] G := by
  unfold f_M_piece_212 at hf
  obtain ⟨x10_1, ex10_1, hf⟩ := zx_lt_some hf
  refine zr_istore h d_M_piece_212 rfl (by decide) ex10_1 rfl ?_
  refine zr_aload_n h d_M_piece_214 rfl rfl 1 rfl ?_
  refine zr_getR h d_M_piece_215 rfl fl_M_37 sh_32 rfl ?_
  refine zr_sipush (v := (256 : Int32)) h d_M_piece_218 rfl (by decide) ?_
  refine zr_iload_n h d_M_piece_221 rfl rfl 2 rfl ?_
  refine zr_imul h d_M_piece_222 rfl ?_
  refine zr_bipush (v := (16 : Int32)) h d_M_piece_223 rfl (by decide) ?_
  refine zr_iload_n h d_M_piece_225 rfl rfl 4 rfl ?_
  refine zr_iload h d_M_piece_226 rfl 9 rfl ?_
  refine zr_iadd h d_M_piece_228 rfl ?_
  refine zr_imul h d_M_piece_229 rfl ?_
  refine zr_iadd h d_M_piece_230 rfl ?_
  refine zr_iload_n h d_M_piece_231 rfl rfl 3 rfl ?_
  refine zr_iadd h d_M_piece_232 rfl ?_
  refine zr_iload h d_M_piece_233 rfl 8 rfl ?_
  refine zr_iadd h d_M_piece_235 rfl ?_
  refine zr_aload_n h d_M_piece_236 rfl rfl 1 rfl ?_
  refine zr_iload h d_M_piece_237 rfl 0 rfl ?_
  refine zr_aload_n h d_M_piece_239 rfl rfl 1 rfl ?_
  refine zr_getR h d_M_piece_240 rfl fl_M_52 sh_32 rfl ?_
  refine zr_iload h d_M_piece_243 rfl 7 rfl ?_
  obtain ⟨hb_2, hf⟩ := zx_gd_some hf
  refine zr_iald h d_M_piece_245 rfl sh_47 hb_2 ?_
  refine zr_iadd h d_M_piece_246 rfl ?_
  obtain ⟨r_4, G_3, hq_5, hf⟩ := zx_bd_some hf
  refine zr_callVI (As := [.int (x10_1 + (G 47 (Int32.toNatClampNeg x6)))]) (b := 32) h (c_M_within _ _ _ _ _ (x10_1 + (G 47 (Int32.toNatClampNeg x6))) G r_4 G_3 hq_5) cc_M_245 d_M_piece_247 rfl rfl rfl sh_32 ⟨rfl, rfl, by decide, by decide⟩ (Nat.le_of_ble_eq_true rfl) ?_
  obtain ⟨hb_6, hf⟩ := zx_gd_some hf
  obtain ⟨G_7, eG_7, hf⟩ := zx_lt_some hf
  refine zr_iast h d_M_piece_250 rfl sh_42 hb_6 eG_7 ?_
  obtain ⟨x6_8, ex6_8, hf⟩ := zx_lt_some hf
  refine zr_iinc (j := 7) h d_M_piece_251 rfl rfl (by decide) ex6_8 (by decide) rfl ?_
  refine zr_goto (tgt := 112) h d_M_piece_254 rfl ?_
  refine zr_sub [2, 3, 4, 5, 6, 7, 0] rfl ?_
  exact hk112 x1 x2 x3 x4 x5 x6_8 G_7 hf
set_option maxRecDepth 100000 in
set_option maxHeartbeats 4000000 in
theorem z_M_piece_182 {κ : zx_K} {ad : Nat → Nat} {r : Int32} {G1 : zx_G} (h : zx_C M_M_piece κ ad) (hE : zx_E M_M_piece κ ad r G1) {k112 : Int32 → Int32 → Int32 → Int32 → Int32 → Int32 → zx_G → Option (Int32 × zx_G)} (hk112 : ∀ (x1 x2 x3 x4 x5 x6 : Int32) (G : zx_G), k112 x1 x2 x3 x4 x5 x6 G = some (r, G1) → zx_Z κ ad 112 [(0, .ref (ad 32)), (1, .int x1), (2, .int x2), (3, .int x3), (4, .int x4), (5, .int x5), (6, .int x6)] [] G) (x1 x2 x3 x4 x5 x6 x7 x8 x9 s1 s3 : Int32) (G : zx_G) (hf : f_M_piece_182 k112 x1 x2 x3 x4 x5 x6 x7 x8 x9 s1 s3 G = some (r, G1)) : zx_Z κ ad 182 [(0, .ref (ad 32)), (1, .int x1), (2, .int x2), (3, .int x3), (4, .int x4), (5, .int x5), (6, .int x6), (7, .int x7), (8, .int x8), (9, .int x9)] [.int s3, .ref (ad 46), .int s1, .ref (ad 32)] G := by
  unfold f_M_piece_182 at hf
  obtain ⟨hb_1, hf⟩ := zx_gd_some hf
  refine zr_iald h d_M_piece_182 rfl sh_46 hb_1 ?_
  refine zr_iload h d_M_piece_183 rfl 9 rfl ?_
  refine zr_iload h d_M_piece_185 rfl 5 rfl ?_
  refine zr_iconst (v := (4 : Int32)) h d_M_piece_187 rfl (by decide) ?_
  refine zr_ishr h d_M_piece_188 rfl ?_
  refine zr_isub h d_M_piece_189 rfl ?_
  refine zr_imul h d_M_piece_190 rfl ?_
  refine zr_iconst (v := (2 : Int32)) h d_M_piece_191 rfl (by decide) ?_
  refine zr_iadd h d_M_piece_192 rfl ?_
  refine zr_iconst (v := (2 : Int32)) h d_M_piece_193 rfl (by decide) ?_
  refine zr_ishr h d_M_piece_194 rfl ?_
  refine zr_iadd h d_M_piece_195 rfl ?_
  obtain ⟨r_3, G_2, hq_4, hf⟩ := zx_bd_some hf
  refine zr_callVI (As := [.int (s1 + ((((G 46 (Int32.toNatClampNeg s3)) * (x9 - (x5 >>> ((4 : Int32) &&& 31)))) + (2 : Int32)) >>> ((2 : Int32) &&& 31)))]) (b := 32) h (c_M_within _ _ _ _ _ (s1 + ((((G 46 (Int32.toNatClampNeg s3)) * (x9 - (x5 >>> ((4 : Int32) &&& 31)))) + (2 : Int32)) >>> ((2 : Int32) &&& 31))) G r_3 G_2 hq_4) cc_M_245 d_M_piece_196 rfl rfl rfl sh_32 ⟨rfl, rfl, by decide, by decide⟩ (Nat.le_of_ble_eq_true rfl) ?_
  refine zr_goto (tgt := 212) h d_M_piece_199 rfl ?_
  refine zr_sub [0, 1, 2, 3, 4, 5, 6, 7, 8] rfl ?_
  exact z_M_piece_212 h hE hk112 x1 x2 x3 x4 x5 x6 x7 x8 r_3 G_2 hf
set_option maxRecDepth 100000 in
set_option maxHeartbeats 4000000 in
theorem z_M_piece_112 {κ : zx_K} {ad : Nat → Nat} {r : Int32} {G1 : zx_G} (h : zx_C M_M_piece κ ad) (hE : zx_E M_M_piece κ ad r G1) : ∀ (n : Nat) (x1 x2 x3 x4 x5 x6 : Int32) (G : zx_G), f_M_piece_112 n x1 x2 x3 x4 x5 x6 G = some (r, G1) → zx_Z κ ad 112 [(0, .ref (ad 32)), (1, .int x1), (2, .int x2), (3, .int x3), (4, .int x4), (5, .int x5), (6, .int x6)] [] G := by
  intro n
  induction n with
  | zero => intro x1 x2 x3 x4 x5 x6 G hf; cases hf
  | succ n ih =>
    intro x1 x2 x3 x4 x5 x6 G hf
    unfold f_M_piece_112 at hf
    refine zr_iload h d_M_piece_112 rfl 6 rfl ?_
    refine zr_bipush (v := (16 : Int32)) h d_M_piece_114 rfl (by decide) ?_
    rcases zx_if_some hf with ⟨hc_1, hf⟩ | ⟨hc_1, hf⟩
    · refine zr_icmp_ge_t (tgt := 257) h d_M_piece_116 rfl hc_1 ?_
      exact zr_vret h hE d_M_piece_257 rfl hf
    · refine zr_icmp_ge_f h 257 d_M_piece_116 rfl rfl hc_1 ?_
      refine zr_iload h d_M_piece_119 rfl 6 rfl ?_
      refine zr_iconst (v := (4 : Int32)) h d_M_piece_121 rfl (by decide) ?_
      obtain ⟨hb_2, hf⟩ := zx_gd_some hf
      refine zr_irem h d_M_piece_122 rfl (zx_nz_ne hb_2) ?_
      obtain ⟨x7_3, ex7_3, hf⟩ := zx_lt_some hf
      refine zr_istore h d_M_piece_123 rfl (by decide) ex7_3 rfl ?_
      refine zr_iload h d_M_piece_125 rfl 7 rfl ?_
      refine zr_iconst (v := (4 : Int32)) h d_M_piece_127 rfl (by decide) ?_
      obtain ⟨hb_4, hf⟩ := zx_gd_some hf
      refine zr_idiv h d_M_piece_128 rfl (zx_nz_ne hb_4) ?_
      obtain ⟨x8_5, ex8_5, hf⟩ := zx_lt_some hf
      refine zr_istore h d_M_piece_129 rfl (by decide) ex8_5 rfl ?_
      refine zr_aload_n h d_M_piece_131 rfl rfl 2 rfl ?_
      refine zr_getR h d_M_piece_132 rfl fl_M_37 sh_32 rfl ?_
      refine zr_bipush (v := (16 : Int32)) h d_M_piece_135 rfl (by decide) ?_
      refine zr_iload_n h d_M_piece_137 rfl rfl 5 rfl ?_
      refine zr_iload h d_M_piece_138 rfl 0 rfl ?_
      refine zr_iadd h d_M_piece_140 rfl ?_
      refine zr_imul h d_M_piece_141 rfl ?_
      refine zr_iload_n h d_M_piece_142 rfl rfl 4 rfl ?_
      refine zr_iadd h d_M_piece_143 rfl ?_
      refine zr_iload h d_M_piece_144 rfl 1 rfl ?_
      refine zr_iadd h d_M_piece_146 rfl ?_
      obtain ⟨hb_6, hf⟩ := zx_gd_some hf
      refine zr_iald h d_M_piece_147 rfl sh_42 hb_6 ?_
      obtain ⟨x9_7, ex9_7, hf⟩ := zx_lt_some hf
      refine zr_istore h d_M_piece_148 rfl (by decide) ex9_7 rfl ?_
      refine zr_iload h d_M_piece_150 rfl 7 rfl ?_
      refine zr_bipush (v := (6 : Int32)) h d_M_piece_152 rfl (by decide) ?_
      rcases zx_if_some hf with ⟨hc_8, hf⟩ | ⟨hc_8, hf⟩
      · refine zr_icmp_ne_t (tgt := 202) h d_M_piece_154 rfl hc_8 ?_
        refine zr_aload_n h d_M_piece_202 rfl rfl 3 rfl ?_
        refine zr_iload h d_M_piece_203 rfl 7 rfl ?_
        refine zr_iload h d_M_piece_205 rfl 2 rfl ?_
        refine zr_iload h d_M_piece_207 rfl 1 rfl ?_
        obtain ⟨r_10, G_9, hq_11, hf⟩ := zx_bd_some hf
        refine zr_callVI (As := [.int x4, .int x7_3, .int x8_5]) (b := 32) h (c_M_predicted _ _ _ _ _ x4 x7_3 x8_5 G r_10 G_9 hq_11) cc_M_241 d_M_piece_209 rfl rfl rfl sh_32 ⟨rfl, rfl, by decide, by decide⟩ (Nat.le_of_ble_eq_true rfl) ?_
        refine zr_sub [3, 4, 5, 6, 7, 8, 9, 2, 1] rfl ?_
        exact z_M_piece_212 h hE ih x1 x2 x3 x4 x5 x6 x7_3 x8_5 r_10 G_9 hf
      · refine zr_icmp_ne_f h 202 d_M_piece_154 rfl rfl hc_8 ?_
        refine zr_aload_n h d_M_piece_157 rfl rfl 3 rfl ?_
        refine zr_aload_n h d_M_piece_158 rfl rfl 3 rfl ?_
        refine zr_iconst (v := (0 : Int32)) h d_M_piece_159 rfl (by decide) ?_
        refine zr_iload h d_M_piece_160 rfl 2 rfl ?_
        refine zr_iload h d_M_piece_162 rfl 1 rfl ?_
        obtain ⟨r_13, G_12, hq_14, hf⟩ := zx_bd_some hf
        refine zr_callVI (As := [.int (0 : Int32), .int x7_3, .int x8_5]) (b := 32) h (c_M_predicted _ _ _ _ _ (0 : Int32) x7_3 x8_5 G r_13 G_12 hq_14) cc_M_241 d_M_piece_164 rfl rfl rfl sh_32 ⟨rfl, rfl, by decide, by decide⟩ (Nat.le_of_ble_eq_true rfl) ?_
        refine zr_aload_n h d_M_piece_167 rfl rfl 3 rfl ?_
        refine zr_getR h d_M_piece_168 rfl fl_M_49 sh_32 rfl ?_
        refine zr_iload_n h d_M_piece_171 rfl rfl 4 rfl ?_
        rcases zx_if_some hf with ⟨hc_15, hf⟩ | ⟨hc_15, hf⟩
        · refine zr_if_ne_t (tgt := 179) h d_M_piece_172 rfl hc_15 ?_
          refine zr_iload_n h d_M_piece_179 rfl rfl 4 rfl ?_
          refine zr_iconst (v := (1 : Int32)) h d_M_piece_180 rfl (by decide) ?_
          refine zr_isub h d_M_piece_181 rfl ?_
          refine zr_sub [3, 4, 5, 6, 7, 8, 9, 2, 1, 0] rfl ?_
          exact z_M_piece_182 h hE ih x1 x2 x3 x4 x5 x6 x7_3 x8_5 x9_7 r_13 (x1 - (1 : Int32)) G_12 hf
        · refine zr_if_ne_f h 179 d_M_piece_172 rfl rfl hc_15 ?_
          refine zr_iconst (v := (0 : Int32)) h d_M_piece_175 rfl (by decide) ?_
          refine zr_goto (tgt := 182) h d_M_piece_176 rfl ?_
          refine zr_sub [3, 4, 5, 6, 7, 8, 9, 2, 1, 0] rfl ?_
          exact z_M_piece_182 h hE ih x1 x2 x3 x4 x5 x6 x7_3 x8_5 x9_7 r_13 (0 : Int32) G_12 hf
set_option maxRecDepth 100000 in
set_option maxHeartbeats 4000000 in
theorem z_M_piece_70 {κ : zx_K} {ad : Nat → Nat} {r : Int32} {G1 : zx_G} (h : zx_C M_M_piece κ ad) (hE : zx_E M_M_piece κ ad r G1) : ∀ (n : Nat) (x1 x2 x3 x4 x5 x6 : Int32) (G : zx_G), f_M_piece_70 n x1 x2 x3 x4 x5 x6 G = some (r, G1) → zx_Z κ ad 70 [(0, .ref (ad 32)), (1, .int x1), (2, .int x2), (3, .int x3), (4, .int x4), (5, .int x5), (6, .int x6)] [] G := by
  intro n
  induction n with
  | zero => intro x1 x2 x3 x4 x5 x6 G hf; cases hf
  | succ n ih =>
    intro x1 x2 x3 x4 x5 x6 G hf
    unfold f_M_piece_70 at hf
    refine zr_iload h d_M_piece_70 rfl 6 rfl ?_
    refine zr_bipush (v := (16 : Int32)) h d_M_piece_72 rfl (by decide) ?_
    rcases zx_if_some hf with ⟨hc_1, hf⟩ | ⟨hc_1, hf⟩
    · refine zr_icmp_ge_t (tgt := 109) h d_M_piece_74 rfl hc_1 ?_
      refine zr_iconst (v := (0 : Int32)) h d_M_piece_109 rfl (by decide) ?_
      obtain ⟨x6_2, ex6_2, hf⟩ := zx_lt_some hf
      refine zr_istore h d_M_piece_110 rfl (by decide) ex6_2 rfl ?_
      refine zr_sub [1, 2, 3, 4, 5, 6, 0] rfl ?_
      exact z_M_piece_112 h hE 2048 x1 x2 x3 x4 x5 x6_2 G hf
    · refine zr_icmp_ge_f h 109 d_M_piece_74 rfl rfl hc_1 ?_
      refine zr_iload h d_M_piece_77 rfl 5 rfl ?_
      refine zr_aload_n h d_M_piece_79 rfl rfl 0 rfl ?_
      refine zr_getR h d_M_piece_80 rfl fl_M_37 sh_32 rfl ?_
      refine zr_bipush (v := (16 : Int32)) h d_M_piece_83 rfl (by decide) ?_
      refine zr_iload_n h d_M_piece_85 rfl rfl 3 rfl ?_
      refine zr_iload h d_M_piece_86 rfl 6 rfl ?_
      refine zr_iconst (v := (4 : Int32)) h d_M_piece_88 rfl (by decide) ?_
      obtain ⟨hb_3, hf⟩ := zx_gd_some hf
      refine zr_idiv h d_M_piece_89 rfl (zx_nz_ne hb_3) ?_
      refine zr_iadd h d_M_piece_90 rfl ?_
      refine zr_imul h d_M_piece_91 rfl ?_
      refine zr_iload_n h d_M_piece_92 rfl rfl 2 rfl ?_
      refine zr_iadd h d_M_piece_93 rfl ?_
      refine zr_iload h d_M_piece_94 rfl 6 rfl ?_
      refine zr_iconst (v := (4 : Int32)) h d_M_piece_96 rfl (by decide) ?_
      obtain ⟨hb_4, hf⟩ := zx_gd_some hf
      refine zr_irem h d_M_piece_97 rfl (zx_nz_ne hb_4) ?_
      refine zr_iadd h d_M_piece_98 rfl ?_
      obtain ⟨hb_5, hf⟩ := zx_gd_some hf
      refine zr_iald h d_M_piece_99 rfl sh_42 hb_5 ?_
      refine zr_iadd h d_M_piece_100 rfl ?_
      obtain ⟨x5_6, ex5_6, hf⟩ := zx_lt_some hf
      refine zr_istore h d_M_piece_101 rfl (by decide) ex5_6 rfl ?_
      obtain ⟨x6_7, ex6_7, hf⟩ := zx_lt_some hf
      refine zr_iinc (j := 6) h d_M_piece_103 rfl rfl (by decide) ex6_7 (by decide) rfl ?_
      refine zr_goto (tgt := 70) h d_M_piece_106 rfl ?_
      refine zr_sub [2, 3, 4, 5, 6, 1, 0] rfl ?_
      exact ih x1 x2 x3 x4 x5_6 x6_7 G hf
set_option maxRecDepth 100000 in
set_option maxHeartbeats 4000000 in
theorem z_M_piece_59 {κ : zx_K} {ad : Nat → Nat} {r : Int32} {G1 : zx_G} (h : zx_C M_M_piece κ ad) (hE : zx_E M_M_piece κ ad r G1) (x1 x2 x3 s1 s2 : Int32) (G : zx_G) (hf : f_M_piece_59 x1 x2 x3 s1 s2 G = some (r, G1)) : zx_Z κ ad 59 [(0, .ref (ad 32)), (1, .int x1), (2, .int x2), (3, .int x3)] [.int s2, .int s1, .ref (ad 45)] G := by
  unfold f_M_piece_59 at hf
  refine zr_iadd h d_M_piece_59 rfl ?_
  obtain ⟨hb_1, hf⟩ := zx_gd_some hf
  refine zr_iald h d_M_piece_60 rfl sh_45 hb_1 ?_
  obtain ⟨x4_2, ex4_2, hf⟩ := zx_lt_some hf
  refine zr_istore h d_M_piece_61 rfl (by decide) ex4_2 rfl ?_
  refine zr_bipush (v := (8 : Int32)) h d_M_piece_63 rfl (by decide) ?_
  obtain ⟨x5_3, ex5_3, hf⟩ := zx_lt_some hf
  refine zr_istore h d_M_piece_65 rfl (by decide) ex5_3 rfl ?_
  refine zr_iconst (v := (0 : Int32)) h d_M_piece_67 rfl (by decide) ?_
  obtain ⟨x6_4, ex6_4, hf⟩ := zx_lt_some hf
  refine zr_istore h d_M_piece_68 rfl (by decide) ex6_4 rfl ?_
  refine zr_sub [3, 4, 5, 6, 2, 1, 0] rfl ?_
  exact z_M_piece_70 h hE 2048 x1 x2 x3 x4_2 x5_3 x6_4 G hf
set_option maxRecDepth 100000 in
set_option maxHeartbeats 4000000 in
theorem z_M_piece_0 {κ : zx_K} {ad : Nat → Nat} {r : Int32} {G1 : zx_G} (h : zx_C M_M_piece κ ad) (hE : zx_E M_M_piece κ ad r G1) (x1 x2 x3 : Int32) (G : zx_G) (hf : f_M_piece x1 x2 x3 G = some (r, G1)) : zx_Z κ ad 0 [(0, .ref (ad 32)), (1, .int x1), (2, .int x2), (3, .int x3)] [] G := by
  unfold f_M_piece at hf
  refine zr_iload_n h d_M_piece_0 rfl rfl 2 rfl ?_
  refine zr_aload_n h d_M_piece_1 rfl rfl 0 rfl ?_
  refine zr_getI h d_M_piece_2 rfl fl_M_171 sh_32 rfl ?_
  rcases zx_if_some hf with ⟨hc_1, hf⟩ | ⟨hc_1, hf⟩
  · refine zr_icmp_ge_t (tgt := 23) h d_M_piece_5 rfl hc_1 ?_
    refine zr_sub [] rfl ?_
    exact z_M_piece_23 h hE G hf
  · refine zr_icmp_ge_f h 23 d_M_piece_5 rfl rfl hc_1 ?_
    refine zr_iload_n h d_M_piece_8 rfl rfl 3 rfl ?_
    refine zr_aload_n h d_M_piece_9 rfl rfl 0 rfl ?_
    refine zr_getI h d_M_piece_10 rfl fl_M_174 sh_32 rfl ?_
    rcases zx_if_some hf with ⟨hc_2, hf⟩ | ⟨hc_2, hf⟩
    · refine zr_icmp_ge_t (tgt := 23) h d_M_piece_13 rfl hc_2 ?_
      refine zr_sub [] rfl ?_
      exact z_M_piece_23 h hE G hf
    · refine zr_icmp_ge_f h 23 d_M_piece_13 rfl rfl hc_2 ?_
      refine zr_aload_n h d_M_piece_16 rfl rfl 0 rfl ?_
      refine zr_getI h d_M_piece_17 rfl fl_M_78 sh_32 rfl ?_
      rcases zx_if_some hf with ⟨hc_3, hf⟩ | ⟨hc_3, hf⟩
      · refine zr_if_eq_t (tgt := 24) h d_M_piece_20 rfl hc_3 ?_
        refine zr_aload_n h d_M_piece_24 rfl rfl 0 rfl ?_
        refine zr_iload_n h d_M_piece_25 rfl rfl 1 rfl ?_
        obtain ⟨r_5, G_4, hq_6, hf⟩ := zx_bd_some hf
        refine zr_callVV (As := [.int x1]) (b := 32) h (c_M_differences _ _ _ _ _ x1 G r_5 G_4 hq_6) cc_M_235 d_M_piece_26 rfl rfl rfl sh_32 ⟨rfl, rfl, by decide, by decide⟩ (Nat.le_of_ble_eq_true rfl) ?_
        refine zr_aload_n h d_M_piece_29 rfl rfl 0 rfl ?_
        refine zr_sipush (v := (256 : Int32)) h d_M_piece_30 rfl (by decide) ?_
        refine zr_iload_n h d_M_piece_33 rfl rfl 1 rfl ?_
        refine zr_imul h d_M_piece_34 rfl ?_
        refine zr_iload_n h d_M_piece_35 rfl rfl 2 rfl ?_
        refine zr_iload_n h d_M_piece_36 rfl rfl 3 rfl ?_
        obtain ⟨r_8, G_7, hq_9, hf⟩ := zx_bd_some hf
        refine zr_callVV (As := [.int ((256 : Int32) * x1), .int x2, .int x3]) (b := 32) h (c_M_edges _ _ _ _ _ ((256 : Int32) * x1) x2 x3 G_4 r_8 G_7 hq_9) cc_M_238 d_M_piece_37 rfl rfl rfl sh_32 ⟨rfl, rfl, by decide, by decide⟩ (Nat.le_of_ble_eq_true rfl) ?_
        refine zr_aload_n h d_M_piece_40 rfl rfl 0 rfl ?_
        refine zr_getR h d_M_piece_41 rfl fl_M_46 sh_32 rfl ?_
        refine zr_iconst (v := (4 : Int32)) h d_M_piece_44 rfl (by decide) ?_
        refine zr_aload_n h d_M_piece_45 rfl rfl 0 rfl ?_
        refine zr_getI h d_M_piece_46 rfl fl_M_223 sh_32 rfl ?_
        refine zr_imul h d_M_piece_49 rfl ?_
        refine zr_iload_n h d_M_piece_50 rfl rfl 1 rfl ?_
        rcases zx_if_some hf with ⟨hc_10, hf⟩ | ⟨hc_10, hf⟩
        · refine zr_if_ne_t (tgt := 58) h d_M_piece_51 rfl hc_10 ?_
          refine zr_iconst (v := (2 : Int32)) h d_M_piece_58 rfl (by decide) ?_
          exact z_M_piece_59 h hE x1 x2 x3 ((4 : Int32) * (G_7 32 37)) (2 : Int32) G_7 hf
        · refine zr_if_ne_f h 58 d_M_piece_51 rfl rfl hc_10 ?_
          refine zr_iconst (v := (1 : Int32)) h d_M_piece_54 rfl (by decide) ?_
          refine zr_goto (tgt := 59) h d_M_piece_55 rfl ?_
          exact z_M_piece_59 h hE x1 x2 x3 ((4 : Int32) * (G_7 32 37)) (1 : Int32) G_7 hf
      · refine zr_if_eq_f h 24 d_M_piece_20 rfl rfl hc_3 ?_
        refine zr_sub [] rfl ?_
        exact z_M_piece_23 h hE G hf
theorem c_M_piece (l : Launch) (D : va_G) (cA : ClassId) (ad : Nat → Nat) (A : Nat → Prop) (x1 x2 x3 : Int32) (G : zx_G) (r : Int32) (G1 : zx_G) (hf : f_M_piece x1 x2 x3 G = some (r, G1)) : zx_met l y_M_piece M_M_piece [.ref (ad 32), .int x1, .int x2, .int x3] D cA ad A G r G1 :=
  zx_toMet (by decide) rfl (Nat.le_of_ble_eq_true rfl) (fun κ h hE => by exact z_M_piece_0 h hE x1 x2 x3 G hf)

def f_M_readBlock_23 (G : zx_G) : Option (Int32 × zx_G) :=
  some ((0 : Int32), G)
def f_M_readBlock_316 (k300 : Int32 → Int32 → Int32 → Int32 → zx_G → Option (Int32 × zx_G)) : Nat → Int32 → Int32 → Int32 → Int32 → Int32 → zx_G → Option (Int32 × zx_G)
  | 0, _, _, _, _, _, _ => none
  | n + 1, x1, x2, x3, x7, x8, G =>
    zx_gd (zx_nz (16 : Int32)) <|
    zx_if ((zx_div (x3 * x3) (16 : Int32)) ≤ x8)
      (zx_lt (x7 + (1 : Int32)) fun x7_3 =>
      k300 x1 x2 x3 x7_3 G)
      (zx_gd (zx_nz (4 : Int32)) <|
      zx_gd (zx_nz (zx_div x3 (4 : Int32))) <|
      zx_gd (zx_nz (4 : Int32)) <|
      zx_gd (zx_nz (zx_div x3 (4 : Int32))) <|
      zx_bd (f_M_piece x7 (x1 + ((zx_rem x8 (zx_div x3 (4 : Int32))) * (4 : Int32))) (x2 + ((zx_div x8 (zx_div x3 (4 : Int32))) * (4 : Int32))) G) fun r_9 G_8 =>
      zx_lt (x8 + (1 : Int32)) fun x8_11 =>
      f_M_readBlock_316 k300 n x1 x2 x3 x7 x8_11 G_8)
def f_M_readBlock_300 : Nat → Int32 → Int32 → Int32 → Int32 → zx_G → Option (Int32 × zx_G)
  | 0, _, _, _, _, _ => none
  | n + 1, x1, x2, x3, x7, G =>
    zx_if (((1 : Int32) + ((2 : Int32) * (G 32 16))) ≤ x7)
      (some ((0 : Int32), G))
      (zx_lt (0 : Int32) fun x8_2 =>
      f_M_readBlock_316 (f_M_readBlock_300 n) 2048 x1 x2 x3 x7 x8_2 G)
def f_M_readBlock_253 : Nat → Int32 → Int32 → Int32 → Int32 → Int32 → zx_G → Option (Int32 × zx_G)
  | 0, _, _, _, _, _, _ => none
  | n + 1, x1, x2, x3, x4, x7, G =>
    zx_gd (zx_nz (16 : Int32)) <|
    zx_if ((zx_div (x3 * x3) (16 : Int32)) ≤ x7)
      (zx_lt (0 : Int32) fun x7_3 =>
      f_M_readBlock_300 2048 x1 x2 x3 x7_3 G)
      (zx_gd (zx_nz (4 : Int32)) <|
      zx_gd (zx_nz (zx_div x3 (4 : Int32))) <|
      zx_gd (zx_nz (4 : Int32)) <|
      zx_gd (zx_nz (zx_div x3 (4 : Int32))) <|
      zx_gd (zx_in ((x4 + ((zx_div x7 (zx_div x3 (4 : Int32))) * (4 : Int32))) + (zx_rem x7 (zx_div x3 (4 : Int32)))) 16) <|
      zx_lt (zx_up G 44 (Int32.toNatClampNeg ((x4 + ((zx_div x7 (zx_div x3 (4 : Int32))) * (4 : Int32))) + (zx_rem x7 (zx_div x3 (4 : Int32))))) (G 32 37)) fun G_9 =>
      zx_lt (x7 + (1 : Int32)) fun x7_10 =>
      f_M_readBlock_253 n x1 x2 x3 x4 x7_10 G_9)
def f_M_readBlock_249 (x1 x2 x3 x4 s1 s2 : Int32) (G : zx_G) : Option (Int32 × zx_G) :=
  zx_gd (zx_in s1 68) <|
  zx_lt (zx_up G 45 (Int32.toNatClampNeg s1) s2) fun G_2 =>
  zx_lt (0 : Int32) fun x7_3 =>
  f_M_readBlock_253 2048 x1 x2 x3 x4 x7_3 G_2
def f_M_readBlock_220 (x1 x2 x3 x4 : Int32) (G : zx_G) : Option (Int32 × zx_G) :=
  zx_if ((G 32 21) = 0)
    (f_M_readBlock_249 x1 x2 x3 x4 (((4 : Int32) * (G 32 37)) + (3 : Int32)) (0 : Int32) G)
    (zx_bd (f_M_symbol (10 : Int32) G) fun r_3 G_2 =>
    f_M_readBlock_249 x1 x2 x3 x4 (((4 : Int32) * (G 32 37)) + (3 : Int32)) r_3 G_2)
def f_M_readBlock_175 : Nat → Int32 → Int32 → Int32 → Int32 → Int32 → zx_G → Option (Int32 × zx_G)
  | 0, _, _, _, _, _, _ => none
  | n + 1, x1, x2, x3, x4, x7, G =>
    zx_if ((2 : Int32) ≤ x7)
      (f_M_readBlock_220 x1 x2 x3 x4 G)
      (zx_gd (zx_in (((4 : Int32) * (G 32 37)) + (2 : Int32)) 68) <|
      zx_if (¬ (G 45 (Int32.toNatClampNeg (((4 : Int32) * (G 32 37)) + (2 : Int32)))) = (6 : Int32))
        (f_M_readBlock_220 x1 x2 x3 x4 G)
        (zx_bd (f_M_symbol (7 : Int32) G) fun r_5 G_4 =>
        zx_gd (zx_in x7 2) <|
        zx_lt (zx_up G_4 46 (Int32.toNatClampNeg x7) (r_5 - (3 : Int32))) fun G_8 =>
        zx_lt (x7 + (1 : Int32)) fun x7_9 =>
        f_M_readBlock_175 n x1 x2 x3 x4 x7_9 G_8))
def f_M_readBlock_171 (x1 x2 x3 x4 s1 s2 : Int32) (G : zx_G) : Option (Int32 × zx_G) :=
  zx_gd (zx_in s1 68) <|
  zx_lt (zx_up G 45 (Int32.toNatClampNeg s1) s2) fun G_2 =>
  zx_lt (0 : Int32) fun x7_3 =>
  f_M_readBlock_175 2048 x1 x2 x3 x4 x7_3 G_2
def f_M_readBlock_93 (x1 x2 x3 x4 x5 s0 : Int32) (G : zx_G) : Option (Int32 × zx_G) :=
  zx_lt s0 fun x6_1 =>
  zx_lt (zx_up G 32 37 ((G 32 37) + (1 : Int32))) fun G_2 =>
  zx_gd (zx_in ((4 : Int32) * (G_2 32 37)) 68) <|
  zx_lt (zx_up G_2 45 (Int32.toNatClampNeg ((4 : Int32) * (G_2 32 37))) x3) fun G_4 =>
  zx_bd (f_M_symbol (((2 : Int32) + x5) + x6_1) G_4) fun r_6 G_5 =>
  zx_gd (zx_in (((4 : Int32) * (G_4 32 37)) + (1 : Int32)) 68) <|
  zx_lt (zx_up G_5 45 (Int32.toNatClampNeg (((4 : Int32) * (G_4 32 37)) + (1 : Int32))) r_6) fun G_9 =>
  zx_if (¬ (G_9 32 16) = (1 : Int32))
    (f_M_readBlock_171 x1 x2 x3 x4 (((4 : Int32) * (G_9 32 37)) + (2 : Int32)) (0 : Int32) G_9)
    (zx_bd (f_M_symbol (6 : Int32) G_9) fun r_12 G_11 =>
    f_M_readBlock_171 x1 x2 x3 x4 (((4 : Int32) * (G_9 32 37)) + (2 : Int32)) r_12 G_11)
def f_M_readBlock_92 (x1 x2 x3 x4 x5 : Int32) (G : zx_G) : Option (Int32 × zx_G) :=
  f_M_readBlock_93 x1 x2 x3 x4 x5 (0 : Int32) G
def f_M_readBlock_61 (x1 x2 x3 x4 s0 : Int32) (G : zx_G) : Option (Int32 × zx_G) :=
  zx_lt s0 fun x5_1 =>
  zx_if (x1 ≤ 0)
    (f_M_readBlock_92 x1 x2 x3 x4 x5_1 G)
    (zx_gd (zx_in (x4 - (1 : Int32)) 16) <|
    zx_gd (zx_in (((4 : Int32) * (G 44 (Int32.toNatClampNeg (x4 - (1 : Int32))))) + (1 : Int32)) 68) <|
    zx_if ((G 45 (Int32.toNatClampNeg (((4 : Int32) * (G 44 (Int32.toNatClampNeg (x4 - (1 : Int32))))) + (1 : Int32)))) = 0)
      (f_M_readBlock_92 x1 x2 x3 x4 x5_1 G)
      (f_M_readBlock_93 x1 x2 x3 x4 x5_1 (2 : Int32) G))
def f_M_readBlock_60 (x1 x2 x3 x4 : Int32) (G : zx_G) : Option (Int32 × zx_G) :=
  f_M_readBlock_61 x1 x2 x3 x4 (0 : Int32) G
def f_M_readBlock (x1 x2 x3 : Int32) (G : zx_G) : Option (Int32 × zx_G) :=
  zx_if ((G 32 18) ≤ x1)
    (f_M_readBlock_23 G)
    (zx_if ((G 32 19) ≤ x2)
      (f_M_readBlock_23 G)
      (zx_if ((G 32 10) = 0)
        (zx_gd (zx_nz (4 : Int32)) <|
        zx_lt (x2 + (zx_div x1 (4 : Int32))) fun x4_5 =>
        zx_if (x2 ≤ 0)
          (f_M_readBlock_60 x1 x2 x3 x4_5 G)
          (zx_gd (zx_in (x4_5 - (4 : Int32)) 16) <|
          zx_gd (zx_in (((4 : Int32) * (G 44 (Int32.toNatClampNeg (x4_5 - (4 : Int32))))) + (1 : Int32)) 68) <|
          zx_if ((G 45 (Int32.toNatClampNeg (((4 : Int32) * (G 44 (Int32.toNatClampNeg (x4_5 - (4 : Int32))))) + (1 : Int32)))) = 0)
            (f_M_readBlock_60 x1 x2 x3 x4_5 G)
            (f_M_readBlock_61 x1 x2 x3 x4_5 (1 : Int32) G)))
        (f_M_readBlock_23 G)))
set_option maxRecDepth 100000 in
set_option maxHeartbeats 4000000 in
theorem z_M_readBlock_23 {κ : zx_K} {ad : Nat → Nat} {r : Int32} {G1 : zx_G} (h : zx_C M_M_readBlock κ ad) (hE : zx_E M_M_readBlock κ ad r G1) (G : zx_G) (hf : f_M_readBlock_23 G = some (r, G1)) : zx_Z κ ad 23 [] [] G := by
  unfold f_M_readBlock_23 at hf
  exact zr_vret h hE d_M_readBlock_23 rfl hf
set_option maxRecDepth 100000 in
set_option maxHeartbeats 4000000 in
theorem z_M_readBlock_316 {κ : zx_K} {ad : Nat → Nat} {r : Int32} {G1 : zx_G} (h : zx_C M_M_readBlock κ ad) (hE : zx_E M_M_readBlock κ ad r G1) {k300 : Int32 → Int32 → Int32 → Int32 → zx_G → Option (Int32 × zx_G)} (hk300 : ∀ (x1 x2 x3 x7 : Int32) (G : zx_G), k300 x1 x2 x3 x7 G = some (r, G1) → zx_Z κ ad 300 [(0, .ref (ad 32)), (1, .int x1), (2, .int x2), (3, .int x3), (7, .int x7)] [] G) : ∀ (n : Nat) (x1 x2 x3 x7 x8 : Int32) (G : zx_G), f_M_readBlock_316 k300 n x1 x2 x3 x7 x8 G = some (r, G1) → zx_Z κ ad 316 [(0, .ref (ad 32)), (1, .int x1), (2, .int x2), (3, .int x3), (7, .int x7), (8, .int x8)] [] G := by
  intro n
  induction n with
  | zero => intro x1 x2 x3 x7 x8 G hf; cases hf
  | succ n ih =>
    intro x1 x2 x3 x7 x8 G hf
    unfold f_M_readBlock_316 at hf
    refine zr_iload h d_M_readBlock_316 rfl 5 rfl ?_
    refine zr_iload_n h d_M_readBlock_318 rfl rfl 3 rfl ?_
    refine zr_iload_n h d_M_readBlock_319 rfl rfl 3 rfl ?_
    refine zr_imul h d_M_readBlock_320 rfl ?_
    refine zr_bipush (v := (16 : Int32)) h d_M_readBlock_321 rfl (by decide) ?_
    obtain ⟨hb_1, hf⟩ := zx_gd_some hf
    refine zr_idiv h d_M_readBlock_323 rfl (zx_nz_ne hb_1) ?_
    rcases zx_if_some hf with ⟨hc_2, hf⟩ | ⟨hc_2, hf⟩
    · refine zr_icmp_ge_t (tgt := 359) h d_M_readBlock_324 rfl hc_2 ?_
      obtain ⟨x7_3, ex7_3, hf⟩ := zx_lt_some hf
      refine zr_iinc (j := 4) h d_M_readBlock_359 rfl rfl (by decide) ex7_3 (by decide) rfl ?_
      refine zr_goto (tgt := 300) h d_M_readBlock_362 rfl ?_
      refine zr_sub [1, 2, 3, 4, 0] rfl ?_
      exact hk300 x1 x2 x3 x7_3 G hf
    · refine zr_icmp_ge_f h 359 d_M_readBlock_324 rfl rfl hc_2 ?_
      refine zr_aload_n h d_M_readBlock_327 rfl rfl 0 rfl ?_
      refine zr_iload h d_M_readBlock_328 rfl 4 rfl ?_
      refine zr_iload_n h d_M_readBlock_330 rfl rfl 1 rfl ?_
      refine zr_iload h d_M_readBlock_331 rfl 5 rfl ?_
      refine zr_iload_n h d_M_readBlock_333 rfl rfl 3 rfl ?_
      refine zr_iconst (v := (4 : Int32)) h d_M_readBlock_334 rfl (by decide) ?_
      obtain ⟨hb_4, hf⟩ := zx_gd_some hf
      refine zr_idiv h d_M_readBlock_335 rfl (zx_nz_ne hb_4) ?_
      obtain ⟨hb_5, hf⟩ := zx_gd_some hf
      refine zr_irem h d_M_readBlock_336 rfl (zx_nz_ne hb_5) ?_
      refine zr_iconst (v := (4 : Int32)) h d_M_readBlock_337 rfl (by decide) ?_
      refine zr_imul h d_M_readBlock_338 rfl ?_
      refine zr_iadd h d_M_readBlock_339 rfl ?_
      refine zr_iload_n h d_M_readBlock_340 rfl rfl 2 rfl ?_
      refine zr_iload h d_M_readBlock_341 rfl 5 rfl ?_
      refine zr_iload_n h d_M_readBlock_343 rfl rfl 3 rfl ?_
      refine zr_iconst (v := (4 : Int32)) h d_M_readBlock_344 rfl (by decide) ?_
      obtain ⟨hb_6, hf⟩ := zx_gd_some hf
      refine zr_idiv h d_M_readBlock_345 rfl (zx_nz_ne hb_6) ?_
      obtain ⟨hb_7, hf⟩ := zx_gd_some hf
      refine zr_idiv h d_M_readBlock_346 rfl (zx_nz_ne hb_7) ?_
      refine zr_iconst (v := (4 : Int32)) h d_M_readBlock_347 rfl (by decide) ?_
      refine zr_imul h d_M_readBlock_348 rfl ?_
      refine zr_iadd h d_M_readBlock_349 rfl ?_
      obtain ⟨r_9, G_8, hq_10, hf⟩ := zx_bd_some hf
      refine zr_callVV (As := [.int x7, .int (x1 + ((zx_rem x8 (zx_div x3 (4 : Int32))) * (4 : Int32))), .int (x2 + ((zx_div x8 (zx_div x3 (4 : Int32))) * (4 : Int32)))]) (b := 32) h (c_M_piece _ _ _ _ _ x7 (x1 + ((zx_rem x8 (zx_div x3 (4 : Int32))) * (4 : Int32))) (x2 + ((zx_div x8 (zx_div x3 (4 : Int32))) * (4 : Int32))) G r_9 G_8 hq_10) cc_M_232 d_M_readBlock_350 rfl rfl rfl sh_32 ⟨rfl, rfl, by decide, by decide⟩ (Nat.le_of_ble_eq_true rfl) ?_
      obtain ⟨x8_11, ex8_11, hf⟩ := zx_lt_some hf
      refine zr_iinc (j := 5) h d_M_readBlock_353 rfl rfl (by decide) ex8_11 (by decide) rfl ?_
      refine zr_goto (tgt := 316) h d_M_readBlock_356 rfl ?_
      refine zr_sub [1, 2, 3, 4, 5, 0] rfl ?_
      exact ih x1 x2 x3 x7 x8_11 G_8 hf
set_option maxRecDepth 100000 in
set_option maxHeartbeats 4000000 in
theorem z_M_readBlock_300 {κ : zx_K} {ad : Nat → Nat} {r : Int32} {G1 : zx_G} (h : zx_C M_M_readBlock κ ad) (hE : zx_E M_M_readBlock κ ad r G1) : ∀ (n : Nat) (x1 x2 x3 x7 : Int32) (G : zx_G), f_M_readBlock_300 n x1 x2 x3 x7 G = some (r, G1) → zx_Z κ ad 300 [(0, .ref (ad 32)), (1, .int x1), (2, .int x2), (3, .int x3), (7, .int x7)] [] G := by
  intro n
  induction n with
  | zero => intro x1 x2 x3 x7 G hf; cases hf
  | succ n ih =>
    intro x1 x2 x3 x7 G hf
    unfold f_M_readBlock_300 at hf
    refine zr_iload h d_M_readBlock_300 rfl 4 rfl ?_
    refine zr_iconst (v := (1 : Int32)) h d_M_readBlock_302 rfl (by decide) ?_
    refine zr_iconst (v := (2 : Int32)) h d_M_readBlock_303 rfl (by decide) ?_
    refine zr_aload_n h d_M_readBlock_304 rfl rfl 0 rfl ?_
    refine zr_getI h d_M_readBlock_305 rfl fl_M_165 sh_32 rfl ?_
    refine zr_imul h d_M_readBlock_308 rfl ?_
    refine zr_iadd h d_M_readBlock_309 rfl ?_
    rcases zx_if_some hf with ⟨hc_1, hf⟩ | ⟨hc_1, hf⟩
    · refine zr_icmp_ge_t (tgt := 365) h d_M_readBlock_310 rfl hc_1 ?_
      exact zr_vret h hE d_M_readBlock_365 rfl hf
    · refine zr_icmp_ge_f h 365 d_M_readBlock_310 rfl rfl hc_1 ?_
      refine zr_iconst (v := (0 : Int32)) h d_M_readBlock_313 rfl (by decide) ?_
      obtain ⟨x8_2, ex8_2, hf⟩ := zx_lt_some hf
      refine zr_istore h d_M_readBlock_314 rfl (by decide) ex8_2 rfl ?_
      refine zr_sub [1, 2, 3, 4, 5, 0] rfl ?_
      exact z_M_readBlock_316 h hE ih 2048 x1 x2 x3 x7 x8_2 G hf
set_option maxRecDepth 100000 in
set_option maxHeartbeats 4000000 in
theorem z_M_readBlock_253 {κ : zx_K} {ad : Nat → Nat} {r : Int32} {G1 : zx_G} (h : zx_C M_M_readBlock κ ad) (hE : zx_E M_M_readBlock κ ad r G1) : ∀ (n : Nat) (x1 x2 x3 x4 x7 : Int32) (G : zx_G), f_M_readBlock_253 n x1 x2 x3 x4 x7 G = some (r, G1) → zx_Z κ ad 253 [(0, .ref (ad 32)), (1, .int x1), (2, .int x2), (3, .int x3), (4, .int x4), (7, .int x7)] [] G := by
  intro n
  induction n with
  | zero => intro x1 x2 x3 x4 x7 G hf; cases hf
  | succ n ih =>
    intro x1 x2 x3 x4 x7 G hf
    unfold f_M_readBlock_253 at hf
    refine zr_iload h d_M_readBlock_253 rfl 5 rfl ?_
    refine zr_iload_n h d_M_readBlock_255 rfl rfl 3 rfl ?_
    refine zr_iload_n h d_M_readBlock_256 rfl rfl 3 rfl ?_
    refine zr_imul h d_M_readBlock_257 rfl ?_
    refine zr_bipush (v := (16 : Int32)) h d_M_readBlock_258 rfl (by decide) ?_
    obtain ⟨hb_1, hf⟩ := zx_gd_some hf
    refine zr_idiv h d_M_readBlock_260 rfl (zx_nz_ne hb_1) ?_
    rcases zx_if_some hf with ⟨hc_2, hf⟩ | ⟨hc_2, hf⟩
    · refine zr_icmp_ge_t (tgt := 297) h d_M_readBlock_261 rfl hc_2 ?_
      refine zr_iconst (v := (0 : Int32)) h d_M_readBlock_297 rfl (by decide) ?_
      obtain ⟨x7_3, ex7_3, hf⟩ := zx_lt_some hf
      refine zr_istore h d_M_readBlock_298 rfl (by decide) ex7_3 rfl ?_
      refine zr_sub [1, 2, 3, 4, 0] rfl ?_
      exact z_M_readBlock_300 h hE 2048 x1 x2 x3 x7_3 G hf
    · refine zr_icmp_ge_f h 297 d_M_readBlock_261 rfl rfl hc_2 ?_
      refine zr_aload_n h d_M_readBlock_264 rfl rfl 0 rfl ?_
      refine zr_getR h d_M_readBlock_265 rfl fl_M_43 sh_32 rfl ?_
      refine zr_iload h d_M_readBlock_268 rfl 4 rfl ?_
      refine zr_iload h d_M_readBlock_270 rfl 5 rfl ?_
      refine zr_iload_n h d_M_readBlock_272 rfl rfl 3 rfl ?_
      refine zr_iconst (v := (4 : Int32)) h d_M_readBlock_273 rfl (by decide) ?_
      obtain ⟨hb_4, hf⟩ := zx_gd_some hf
      refine zr_idiv h d_M_readBlock_274 rfl (zx_nz_ne hb_4) ?_
      obtain ⟨hb_5, hf⟩ := zx_gd_some hf
      refine zr_idiv h d_M_readBlock_275 rfl (zx_nz_ne hb_5) ?_
      refine zr_iconst (v := (4 : Int32)) h d_M_readBlock_276 rfl (by decide) ?_
      refine zr_imul h d_M_readBlock_277 rfl ?_
      refine zr_iadd h d_M_readBlock_278 rfl ?_
      refine zr_iload h d_M_readBlock_279 rfl 5 rfl ?_
      refine zr_iload_n h d_M_readBlock_281 rfl rfl 3 rfl ?_
      refine zr_iconst (v := (4 : Int32)) h d_M_readBlock_282 rfl (by decide) ?_
      obtain ⟨hb_6, hf⟩ := zx_gd_some hf
      refine zr_idiv h d_M_readBlock_283 rfl (zx_nz_ne hb_6) ?_
      obtain ⟨hb_7, hf⟩ := zx_gd_some hf
      refine zr_irem h d_M_readBlock_284 rfl (zx_nz_ne hb_7) ?_
      refine zr_iadd h d_M_readBlock_285 rfl ?_
      refine zr_aload_n h d_M_readBlock_286 rfl rfl 0 rfl ?_
      refine zr_getI h d_M_readBlock_287 rfl fl_M_223 sh_32 rfl ?_
      obtain ⟨hb_8, hf⟩ := zx_gd_some hf
      obtain ⟨G_9, eG_9, hf⟩ := zx_lt_some hf
      refine zr_iast h d_M_readBlock_290 rfl sh_44 hb_8 eG_9 ?_
      obtain ⟨x7_10, ex7_10, hf⟩ := zx_lt_some hf
      refine zr_iinc (j := 5) h d_M_readBlock_291 rfl rfl (by decide) ex7_10 (by decide) rfl ?_
      refine zr_goto (tgt := 253) h d_M_readBlock_294 rfl ?_
      refine zr_sub [1, 2, 3, 4, 5, 0] rfl ?_
      exact ih x1 x2 x3 x4 x7_10 G_9 hf
set_option maxRecDepth 100000 in
set_option maxHeartbeats 4000000 in
theorem z_M_readBlock_249 {κ : zx_K} {ad : Nat → Nat} {r : Int32} {G1 : zx_G} (h : zx_C M_M_readBlock κ ad) (hE : zx_E M_M_readBlock κ ad r G1) (x1 x2 x3 x4 s1 s2 : Int32) (G : zx_G) (hf : f_M_readBlock_249 x1 x2 x3 x4 s1 s2 G = some (r, G1)) : zx_Z κ ad 249 [(0, .ref (ad 32)), (1, .int x1), (2, .int x2), (3, .int x3), (4, .int x4)] [.int s2, .int s1, .ref (ad 45)] G := by
  unfold f_M_readBlock_249 at hf
  obtain ⟨hb_1, hf⟩ := zx_gd_some hf
  obtain ⟨G_2, eG_2, hf⟩ := zx_lt_some hf
  refine zr_iast h d_M_readBlock_249 rfl sh_45 hb_1 eG_2 ?_
  refine zr_iconst (v := (0 : Int32)) h d_M_readBlock_250 rfl (by decide) ?_
  obtain ⟨x7_3, ex7_3, hf⟩ := zx_lt_some hf
  refine zr_istore h d_M_readBlock_251 rfl (by decide) ex7_3 rfl ?_
  refine zr_sub [1, 2, 3, 4, 5, 0] rfl ?_
  exact z_M_readBlock_253 h hE 2048 x1 x2 x3 x4 x7_3 G_2 hf
set_option maxRecDepth 100000 in
set_option maxHeartbeats 4000000 in
theorem z_M_readBlock_220 {κ : zx_K} {ad : Nat → Nat} {r : Int32} {G1 : zx_G} (h : zx_C M_M_readBlock κ ad) (hE : zx_E M_M_readBlock κ ad r G1) (x1 x2 x3 x4 : Int32) (G : zx_G) (hf : f_M_readBlock_220 x1 x2 x3 x4 G = some (r, G1)) : zx_Z κ ad 220 [(0, .ref (ad 32)), (1, .int x1), (2, .int x2), (3, .int x3), (4, .int x4)] [] G := by
  unfold f_M_readBlock_220 at hf
  refine zr_aload_n h d_M_readBlock_220 rfl rfl 0 rfl ?_
  refine zr_getR h d_M_readBlock_221 rfl fl_M_46 sh_32 rfl ?_
  refine zr_iconst (v := (4 : Int32)) h d_M_readBlock_224 rfl (by decide) ?_
  refine zr_aload_n h d_M_readBlock_225 rfl rfl 0 rfl ?_
  refine zr_getI h d_M_readBlock_226 rfl fl_M_223 sh_32 rfl ?_
  refine zr_imul h d_M_readBlock_229 rfl ?_
  refine zr_iconst (v := (3 : Int32)) h d_M_readBlock_230 rfl (by decide) ?_
  refine zr_iadd h d_M_readBlock_231 rfl ?_
  refine zr_aload_n h d_M_readBlock_232 rfl rfl 0 rfl ?_
  refine zr_getI h d_M_readBlock_233 rfl fl_M_183 sh_32 rfl ?_
  rcases zx_if_some hf with ⟨hc_1, hf⟩ | ⟨hc_1, hf⟩
  · refine zr_if_eq_t (tgt := 248) h d_M_readBlock_236 rfl hc_1 ?_
    refine zr_iconst (v := (0 : Int32)) h d_M_readBlock_248 rfl (by decide) ?_
    exact z_M_readBlock_249 h hE x1 x2 x3 x4 (((4 : Int32) * (G 32 37)) + (3 : Int32)) (0 : Int32) G hf
  · refine zr_if_eq_f h 248 d_M_readBlock_236 rfl rfl hc_1 ?_
    refine zr_aload_n h d_M_readBlock_239 rfl rfl 0 rfl ?_
    refine zr_bipush (v := (10 : Int32)) h d_M_readBlock_240 rfl (by decide) ?_
    obtain ⟨r_3, G_2, hq_4, hf⟩ := zx_bd_some hf
    refine zr_callVI (As := [.int (10 : Int32)]) (b := 32) h (c_M_symbol _ _ _ _ _ (10 : Int32) G r_3 G_2 hq_4) cc_M_226 d_M_readBlock_242 rfl rfl rfl sh_32 ⟨rfl, rfl, by decide, by decide⟩ (Nat.le_of_ble_eq_true rfl) ?_
    refine zr_goto (tgt := 249) h d_M_readBlock_245 rfl ?_
    exact z_M_readBlock_249 h hE x1 x2 x3 x4 (((4 : Int32) * (G 32 37)) + (3 : Int32)) r_3 G_2 hf
set_option maxRecDepth 100000 in
set_option maxHeartbeats 4000000 in
theorem z_M_readBlock_175 {κ : zx_K} {ad : Nat → Nat} {r : Int32} {G1 : zx_G} (h : zx_C M_M_readBlock κ ad) (hE : zx_E M_M_readBlock κ ad r G1) : ∀ (n : Nat) (x1 x2 x3 x4 x7 : Int32) (G : zx_G), f_M_readBlock_175 n x1 x2 x3 x4 x7 G = some (r, G1) → zx_Z κ ad 175 [(0, .ref (ad 32)), (1, .int x1), (2, .int x2), (3, .int x3), (4, .int x4), (7, .int x7)] [] G := by
  intro n
  induction n with
  | zero => intro x1 x2 x3 x4 x7 G hf; cases hf
  | succ n ih =>
    intro x1 x2 x3 x4 x7 G hf
    unfold f_M_readBlock_175 at hf
    refine zr_iload h d_M_readBlock_175 rfl 5 rfl ?_
    refine zr_iconst (v := (2 : Int32)) h d_M_readBlock_177 rfl (by decide) ?_
    rcases zx_if_some hf with ⟨hc_1, hf⟩ | ⟨hc_1, hf⟩
    · refine zr_icmp_ge_t (tgt := 220) h d_M_readBlock_178 rfl hc_1 ?_
      refine zr_sub [0, 1, 2, 3, 4] rfl ?_
      exact z_M_readBlock_220 h hE x1 x2 x3 x4 G hf
    · refine zr_icmp_ge_f h 220 d_M_readBlock_178 rfl rfl hc_1 ?_
      refine zr_aload_n h d_M_readBlock_181 rfl rfl 0 rfl ?_
      refine zr_getR h d_M_readBlock_182 rfl fl_M_46 sh_32 rfl ?_
      refine zr_iconst (v := (4 : Int32)) h d_M_readBlock_185 rfl (by decide) ?_
      refine zr_aload_n h d_M_readBlock_186 rfl rfl 0 rfl ?_
      refine zr_getI h d_M_readBlock_187 rfl fl_M_223 sh_32 rfl ?_
      refine zr_imul h d_M_readBlock_190 rfl ?_
      refine zr_iconst (v := (2 : Int32)) h d_M_readBlock_191 rfl (by decide) ?_
      refine zr_iadd h d_M_readBlock_192 rfl ?_
      obtain ⟨hb_2, hf⟩ := zx_gd_some hf
      refine zr_iald h d_M_readBlock_193 rfl sh_45 hb_2 ?_
      refine zr_bipush (v := (6 : Int32)) h d_M_readBlock_194 rfl (by decide) ?_
      rcases zx_if_some hf with ⟨hc_3, hf⟩ | ⟨hc_3, hf⟩
      · refine zr_icmp_ne_t (tgt := 220) h d_M_readBlock_196 rfl hc_3 ?_
        refine zr_sub [0, 1, 2, 3, 4] rfl ?_
        exact z_M_readBlock_220 h hE x1 x2 x3 x4 G hf
      · refine zr_icmp_ne_f h 220 d_M_readBlock_196 rfl rfl hc_3 ?_
        refine zr_aload_n h d_M_readBlock_199 rfl rfl 0 rfl ?_
        refine zr_getR h d_M_readBlock_200 rfl fl_M_49 sh_32 rfl ?_
        refine zr_iload h d_M_readBlock_203 rfl 5 rfl ?_
        refine zr_aload_n h d_M_readBlock_205 rfl rfl 0 rfl ?_
        refine zr_bipush (v := (7 : Int32)) h d_M_readBlock_206 rfl (by decide) ?_
        obtain ⟨r_5, G_4, hq_6, hf⟩ := zx_bd_some hf
        refine zr_callVI (As := [.int (7 : Int32)]) (b := 32) h (c_M_symbol _ _ _ _ _ (7 : Int32) G r_5 G_4 hq_6) cc_M_226 d_M_readBlock_208 rfl rfl rfl sh_32 ⟨rfl, rfl, by decide, by decide⟩ (Nat.le_of_ble_eq_true rfl) ?_
        refine zr_iconst (v := (3 : Int32)) h d_M_readBlock_211 rfl (by decide) ?_
        refine zr_isub h d_M_readBlock_212 rfl ?_
        obtain ⟨hb_7, hf⟩ := zx_gd_some hf
        obtain ⟨G_8, eG_8, hf⟩ := zx_lt_some hf
        refine zr_iast h d_M_readBlock_213 rfl sh_46 hb_7 eG_8 ?_
        obtain ⟨x7_9, ex7_9, hf⟩ := zx_lt_some hf
        refine zr_iinc (j := 5) h d_M_readBlock_214 rfl rfl (by decide) ex7_9 (by decide) rfl ?_
        refine zr_goto (tgt := 175) h d_M_readBlock_217 rfl ?_
        refine zr_sub [1, 2, 3, 4, 5, 0] rfl ?_
        exact ih x1 x2 x3 x4 x7_9 G_8 hf
set_option maxRecDepth 100000 in
set_option maxHeartbeats 4000000 in
theorem z_M_readBlock_171 {κ : zx_K} {ad : Nat → Nat} {r : Int32} {G1 : zx_G} (h : zx_C M_M_readBlock κ ad) (hE : zx_E M_M_readBlock κ ad r G1) (x1 x2 x3 x4 s1 s2 : Int32) (G : zx_G) (hf : f_M_readBlock_171 x1 x2 x3 x4 s1 s2 G = some (r, G1)) : zx_Z κ ad 171 [(0, .ref (ad 32)), (1, .int x1), (2, .int x2), (3, .int x3), (4, .int x4)] [.int s2, .int s1, .ref (ad 45)] G := by
  unfold f_M_readBlock_171 at hf
  obtain ⟨hb_1, hf⟩ := zx_gd_some hf
  obtain ⟨G_2, eG_2, hf⟩ := zx_lt_some hf
  refine zr_iast h d_M_readBlock_171 rfl sh_45 hb_1 eG_2 ?_
  refine zr_iconst (v := (0 : Int32)) h d_M_readBlock_172 rfl (by decide) ?_
  obtain ⟨x7_3, ex7_3, hf⟩ := zx_lt_some hf
  refine zr_istore h d_M_readBlock_173 rfl (by decide) ex7_3 rfl ?_
  refine zr_sub [1, 2, 3, 4, 5, 0] rfl ?_
  exact z_M_readBlock_175 h hE 2048 x1 x2 x3 x4 x7_3 G_2 hf
set_option maxRecDepth 100000 in
set_option maxHeartbeats 4000000 in
theorem z_M_readBlock_93 {κ : zx_K} {ad : Nat → Nat} {r : Int32} {G1 : zx_G} (h : zx_C M_M_readBlock κ ad) (hE : zx_E M_M_readBlock κ ad r G1) (x1 x2 x3 x4 x5 s0 : Int32) (G : zx_G) (hf : f_M_readBlock_93 x1 x2 x3 x4 x5 s0 G = some (r, G1)) : zx_Z κ ad 93 [(0, .ref (ad 32)), (1, .int x1), (2, .int x2), (3, .int x3), (4, .int x4), (5, .int x5)] [.int s0] G := by
  unfold f_M_readBlock_93 at hf
  obtain ⟨x6_1, ex6_1, hf⟩ := zx_lt_some hf
  refine zr_istore h d_M_readBlock_93 rfl (by decide) ex6_1 rfl ?_
  refine zr_aload_n h d_M_readBlock_95 rfl rfl 1 rfl ?_
  refine zr_dup h d_M_readBlock_96 rfl rfl ?_
  refine zr_getI h d_M_readBlock_97 rfl fl_M_223 sh_32 rfl ?_
  refine zr_iconst (v := (1 : Int32)) h d_M_readBlock_100 rfl (by decide) ?_
  refine zr_iadd h d_M_readBlock_101 rfl ?_
  obtain ⟨G_2, eG_2, hf⟩ := zx_lt_some hf
  refine zr_putI h d_M_readBlock_102 rfl fl_M_223 pl_M_37 sh_32 rfl rfl rfl eG_2 ?_
  refine zr_aload_n h d_M_readBlock_105 rfl rfl 1 rfl ?_
  refine zr_getR h d_M_readBlock_106 rfl fl_M_46 sh_32 rfl ?_
  refine zr_iconst (v := (4 : Int32)) h d_M_readBlock_109 rfl (by decide) ?_
  refine zr_aload_n h d_M_readBlock_110 rfl rfl 1 rfl ?_
  refine zr_getI h d_M_readBlock_111 rfl fl_M_223 sh_32 rfl ?_
  refine zr_imul h d_M_readBlock_114 rfl ?_
  refine zr_iload_n h d_M_readBlock_115 rfl rfl 4 rfl ?_
  obtain ⟨hb_3, hf⟩ := zx_gd_some hf
  obtain ⟨G_4, eG_4, hf⟩ := zx_lt_some hf
  refine zr_iast h d_M_readBlock_116 rfl sh_45 hb_3 eG_4 ?_
  refine zr_aload_n h d_M_readBlock_117 rfl rfl 1 rfl ?_
  refine zr_getR h d_M_readBlock_118 rfl fl_M_46 sh_32 rfl ?_
  refine zr_iconst (v := (4 : Int32)) h d_M_readBlock_121 rfl (by decide) ?_
  refine zr_aload_n h d_M_readBlock_122 rfl rfl 1 rfl ?_
  refine zr_getI h d_M_readBlock_123 rfl fl_M_223 sh_32 rfl ?_
  refine zr_imul h d_M_readBlock_126 rfl ?_
  refine zr_iconst (v := (1 : Int32)) h d_M_readBlock_127 rfl (by decide) ?_
  refine zr_iadd h d_M_readBlock_128 rfl ?_
  refine zr_aload_n h d_M_readBlock_129 rfl rfl 1 rfl ?_
  refine zr_iconst (v := (2 : Int32)) h d_M_readBlock_130 rfl (by decide) ?_
  refine zr_iload h d_M_readBlock_131 rfl 6 rfl ?_
  refine zr_iadd h d_M_readBlock_133 rfl ?_
  refine zr_iload h d_M_readBlock_134 rfl 0 rfl ?_
  refine zr_iadd h d_M_readBlock_136 rfl ?_
  obtain ⟨r_6, G_5, hq_7, hf⟩ := zx_bd_some hf
  refine zr_callVI (As := [.int (((2 : Int32) + x5) + x6_1)]) (b := 32) h (c_M_symbol _ _ _ _ _ (((2 : Int32) + x5) + x6_1) G_4 r_6 G_5 hq_7) cc_M_226 d_M_readBlock_137 rfl rfl rfl sh_32 ⟨rfl, rfl, by decide, by decide⟩ (Nat.le_of_ble_eq_true rfl) ?_
  obtain ⟨hb_8, hf⟩ := zx_gd_some hf
  obtain ⟨G_9, eG_9, hf⟩ := zx_lt_some hf
  refine zr_iast h d_M_readBlock_140 rfl sh_45 hb_8 eG_9 ?_
  refine zr_aload_n h d_M_readBlock_141 rfl rfl 1 rfl ?_
  refine zr_getR h d_M_readBlock_142 rfl fl_M_46 sh_32 rfl ?_
  refine zr_iconst (v := (4 : Int32)) h d_M_readBlock_145 rfl (by decide) ?_
  refine zr_aload_n h d_M_readBlock_146 rfl rfl 1 rfl ?_
  refine zr_getI h d_M_readBlock_147 rfl fl_M_223 sh_32 rfl ?_
  refine zr_imul h d_M_readBlock_150 rfl ?_
  refine zr_iconst (v := (2 : Int32)) h d_M_readBlock_151 rfl (by decide) ?_
  refine zr_iadd h d_M_readBlock_152 rfl ?_
  refine zr_aload_n h d_M_readBlock_153 rfl rfl 1 rfl ?_
  refine zr_getI h d_M_readBlock_154 rfl fl_M_165 sh_32 rfl ?_
  refine zr_iconst (v := (1 : Int32)) h d_M_readBlock_157 rfl (by decide) ?_
  rcases zx_if_some hf with ⟨hc_10, hf⟩ | ⟨hc_10, hf⟩
  · refine zr_icmp_ne_t (tgt := 170) h d_M_readBlock_158 rfl hc_10 ?_
    refine zr_iconst (v := (0 : Int32)) h d_M_readBlock_170 rfl (by decide) ?_
    refine zr_sub [1, 2, 3, 4, 5] rfl ?_
    exact z_M_readBlock_171 h hE x1 x2 x3 x4 (((4 : Int32) * (G_9 32 37)) + (2 : Int32)) (0 : Int32) G_9 hf
  · refine zr_icmp_ne_f h 170 d_M_readBlock_158 rfl rfl hc_10 ?_
    refine zr_aload_n h d_M_readBlock_161 rfl rfl 1 rfl ?_
    refine zr_bipush (v := (6 : Int32)) h d_M_readBlock_162 rfl (by decide) ?_
    obtain ⟨r_12, G_11, hq_13, hf⟩ := zx_bd_some hf
    refine zr_callVI (As := [.int (6 : Int32)]) (b := 32) h (c_M_symbol _ _ _ _ _ (6 : Int32) G_9 r_12 G_11 hq_13) cc_M_226 d_M_readBlock_164 rfl rfl rfl sh_32 ⟨rfl, rfl, by decide, by decide⟩ (Nat.le_of_ble_eq_true rfl) ?_
    refine zr_goto (tgt := 171) h d_M_readBlock_167 rfl ?_
    refine zr_sub [1, 2, 3, 4, 5] rfl ?_
    exact z_M_readBlock_171 h hE x1 x2 x3 x4 (((4 : Int32) * (G_9 32 37)) + (2 : Int32)) r_12 G_11 hf
set_option maxRecDepth 100000 in
set_option maxHeartbeats 4000000 in
theorem z_M_readBlock_92 {κ : zx_K} {ad : Nat → Nat} {r : Int32} {G1 : zx_G} (h : zx_C M_M_readBlock κ ad) (hE : zx_E M_M_readBlock κ ad r G1) (x1 x2 x3 x4 x5 : Int32) (G : zx_G) (hf : f_M_readBlock_92 x1 x2 x3 x4 x5 G = some (r, G1)) : zx_Z κ ad 92 [(0, .ref (ad 32)), (1, .int x1), (2, .int x2), (3, .int x3), (4, .int x4), (5, .int x5)] [] G := by
  unfold f_M_readBlock_92 at hf
  refine zr_iconst (v := (0 : Int32)) h d_M_readBlock_92 rfl (by decide) ?_
  exact z_M_readBlock_93 h hE x1 x2 x3 x4 x5 (0 : Int32) G hf
set_option maxRecDepth 100000 in
set_option maxHeartbeats 4000000 in
theorem z_M_readBlock_61 {κ : zx_K} {ad : Nat → Nat} {r : Int32} {G1 : zx_G} (h : zx_C M_M_readBlock κ ad) (hE : zx_E M_M_readBlock κ ad r G1) (x1 x2 x3 x4 s0 : Int32) (G : zx_G) (hf : f_M_readBlock_61 x1 x2 x3 x4 s0 G = some (r, G1)) : zx_Z κ ad 61 [(0, .ref (ad 32)), (1, .int x1), (2, .int x2), (3, .int x3), (4, .int x4)] [.int s0] G := by
  unfold f_M_readBlock_61 at hf
  obtain ⟨x5_1, ex5_1, hf⟩ := zx_lt_some hf
  refine zr_istore h d_M_readBlock_61 rfl (by decide) ex5_1 rfl ?_
  refine zr_iload_n h d_M_readBlock_63 rfl rfl 2 rfl ?_
  rcases zx_if_some hf with ⟨hc_2, hf⟩ | ⟨hc_2, hf⟩
  · refine zr_if_le_t (tgt := 92) h d_M_readBlock_64 rfl hc_2 ?_
    refine zr_sub [1, 2, 3, 4, 5, 0] rfl ?_
    exact z_M_readBlock_92 h hE x1 x2 x3 x4 x5_1 G hf
  · refine zr_if_le_f h 92 d_M_readBlock_64 rfl rfl hc_2 ?_
    refine zr_aload_n h d_M_readBlock_67 rfl rfl 1 rfl ?_
    refine zr_getR h d_M_readBlock_68 rfl fl_M_46 sh_32 rfl ?_
    refine zr_iconst (v := (4 : Int32)) h d_M_readBlock_71 rfl (by decide) ?_
    refine zr_aload_n h d_M_readBlock_72 rfl rfl 1 rfl ?_
    refine zr_getR h d_M_readBlock_73 rfl fl_M_43 sh_32 rfl ?_
    refine zr_iload h d_M_readBlock_76 rfl 5 rfl ?_
    refine zr_iconst (v := (1 : Int32)) h d_M_readBlock_78 rfl (by decide) ?_
    refine zr_isub h d_M_readBlock_79 rfl ?_
    obtain ⟨hb_3, hf⟩ := zx_gd_some hf
    refine zr_iald h d_M_readBlock_80 rfl sh_44 hb_3 ?_
    refine zr_imul h d_M_readBlock_81 rfl ?_
    refine zr_iconst (v := (1 : Int32)) h d_M_readBlock_82 rfl (by decide) ?_
    refine zr_iadd h d_M_readBlock_83 rfl ?_
    obtain ⟨hb_4, hf⟩ := zx_gd_some hf
    refine zr_iald h d_M_readBlock_84 rfl sh_45 hb_4 ?_
    rcases zx_if_some hf with ⟨hc_5, hf⟩ | ⟨hc_5, hf⟩
    · refine zr_if_eq_t (tgt := 92) h d_M_readBlock_85 rfl hc_5 ?_
      refine zr_sub [1, 2, 3, 4, 5, 0] rfl ?_
      exact z_M_readBlock_92 h hE x1 x2 x3 x4 x5_1 G hf
    · refine zr_if_eq_f h 92 d_M_readBlock_85 rfl rfl hc_5 ?_
      refine zr_iconst (v := (2 : Int32)) h d_M_readBlock_88 rfl (by decide) ?_
      refine zr_goto (tgt := 93) h d_M_readBlock_89 rfl ?_
      refine zr_sub [1, 2, 3, 4, 5, 0] rfl ?_
      exact z_M_readBlock_93 h hE x1 x2 x3 x4 x5_1 (2 : Int32) G hf
set_option maxRecDepth 100000 in
set_option maxHeartbeats 4000000 in
theorem z_M_readBlock_60 {κ : zx_K} {ad : Nat → Nat} {r : Int32} {G1 : zx_G} (h : zx_C M_M_readBlock κ ad) (hE : zx_E M_M_readBlock κ ad r G1) (x1 x2 x3 x4 : Int32) (G : zx_G) (hf : f_M_readBlock_60 x1 x2 x3 x4 G = some (r, G1)) : zx_Z κ ad 60 [(0, .ref (ad 32)), (1, .int x1), (2, .int x2), (3, .int x3), (4, .int x4)] [] G := by
  unfold f_M_readBlock_60 at hf
  refine zr_iconst (v := (0 : Int32)) h d_M_readBlock_60 rfl (by decide) ?_
  exact z_M_readBlock_61 h hE x1 x2 x3 x4 (0 : Int32) G hf
set_option maxRecDepth 100000 in
set_option maxHeartbeats 4000000 in
theorem z_M_readBlock_0 {κ : zx_K} {ad : Nat → Nat} {r : Int32} {G1 : zx_G} (h : zx_C M_M_readBlock κ ad) (hE : zx_E M_M_readBlock κ ad r G1) (x1 x2 x3 : Int32) (G : zx_G) (hf : f_M_readBlock x1 x2 x3 G = some (r, G1)) : zx_Z κ ad 0 [(0, .ref (ad 32)), (1, .int x1), (2, .int x2), (3, .int x3)] [] G := by
  unfold f_M_readBlock at hf
  refine zr_iload_n h d_M_readBlock_0 rfl rfl 1 rfl ?_
  refine zr_aload_n h d_M_readBlock_1 rfl rfl 0 rfl ?_
  refine zr_getI h d_M_readBlock_2 rfl fl_M_171 sh_32 rfl ?_
  rcases zx_if_some hf with ⟨hc_1, hf⟩ | ⟨hc_1, hf⟩
  · refine zr_icmp_ge_t (tgt := 23) h d_M_readBlock_5 rfl hc_1 ?_
    refine zr_sub [] rfl ?_
    exact z_M_readBlock_23 h hE G hf
  · refine zr_icmp_ge_f h 23 d_M_readBlock_5 rfl rfl hc_1 ?_
    refine zr_iload_n h d_M_readBlock_8 rfl rfl 2 rfl ?_
    refine zr_aload_n h d_M_readBlock_9 rfl rfl 0 rfl ?_
    refine zr_getI h d_M_readBlock_10 rfl fl_M_174 sh_32 rfl ?_
    rcases zx_if_some hf with ⟨hc_2, hf⟩ | ⟨hc_2, hf⟩
    · refine zr_icmp_ge_t (tgt := 23) h d_M_readBlock_13 rfl hc_2 ?_
      refine zr_sub [] rfl ?_
      exact z_M_readBlock_23 h hE G hf
    · refine zr_icmp_ge_f h 23 d_M_readBlock_13 rfl rfl hc_2 ?_
      refine zr_aload_n h d_M_readBlock_16 rfl rfl 0 rfl ?_
      refine zr_getI h d_M_readBlock_17 rfl fl_M_78 sh_32 rfl ?_
      rcases zx_if_some hf with ⟨hc_3, hf⟩ | ⟨hc_3, hf⟩
      · refine zr_if_eq_t (tgt := 24) h d_M_readBlock_20 rfl hc_3 ?_
        refine zr_iload_n h d_M_readBlock_24 rfl rfl 2 rfl ?_
        refine zr_iload_n h d_M_readBlock_25 rfl rfl 1 rfl ?_
        refine zr_iconst (v := (4 : Int32)) h d_M_readBlock_26 rfl (by decide) ?_
        obtain ⟨hb_4, hf⟩ := zx_gd_some hf
        refine zr_idiv h d_M_readBlock_27 rfl (zx_nz_ne hb_4) ?_
        refine zr_iadd h d_M_readBlock_28 rfl ?_
        obtain ⟨x4_5, ex4_5, hf⟩ := zx_lt_some hf
        refine zr_istore h d_M_readBlock_29 rfl (by decide) ex4_5 rfl ?_
        refine zr_iload_n h d_M_readBlock_31 rfl rfl 3 rfl ?_
        rcases zx_if_some hf with ⟨hc_6, hf⟩ | ⟨hc_6, hf⟩
        · refine zr_if_le_t (tgt := 60) h d_M_readBlock_32 rfl hc_6 ?_
          refine zr_sub [1, 2, 3, 4, 0] rfl ?_
          exact z_M_readBlock_60 h hE x1 x2 x3 x4_5 G hf
        · refine zr_if_le_f h 60 d_M_readBlock_32 rfl rfl hc_6 ?_
          refine zr_aload_n h d_M_readBlock_35 rfl rfl 1 rfl ?_
          refine zr_getR h d_M_readBlock_36 rfl fl_M_46 sh_32 rfl ?_
          refine zr_iconst (v := (4 : Int32)) h d_M_readBlock_39 rfl (by decide) ?_
          refine zr_aload_n h d_M_readBlock_40 rfl rfl 1 rfl ?_
          refine zr_getR h d_M_readBlock_41 rfl fl_M_43 sh_32 rfl ?_
          refine zr_iload h d_M_readBlock_44 rfl 0 rfl ?_
          refine zr_iconst (v := (4 : Int32)) h d_M_readBlock_46 rfl (by decide) ?_
          refine zr_isub h d_M_readBlock_47 rfl ?_
          obtain ⟨hb_7, hf⟩ := zx_gd_some hf
          refine zr_iald h d_M_readBlock_48 rfl sh_44 hb_7 ?_
          refine zr_imul h d_M_readBlock_49 rfl ?_
          refine zr_iconst (v := (1 : Int32)) h d_M_readBlock_50 rfl (by decide) ?_
          refine zr_iadd h d_M_readBlock_51 rfl ?_
          obtain ⟨hb_8, hf⟩ := zx_gd_some hf
          refine zr_iald h d_M_readBlock_52 rfl sh_45 hb_8 ?_
          rcases zx_if_some hf with ⟨hc_9, hf⟩ | ⟨hc_9, hf⟩
          · refine zr_if_eq_t (tgt := 60) h d_M_readBlock_53 rfl hc_9 ?_
            refine zr_sub [1, 2, 3, 4, 0] rfl ?_
            exact z_M_readBlock_60 h hE x1 x2 x3 x4_5 G hf
          · refine zr_if_eq_f h 60 d_M_readBlock_53 rfl rfl hc_9 ?_
            refine zr_iconst (v := (1 : Int32)) h d_M_readBlock_56 rfl (by decide) ?_
            refine zr_goto (tgt := 61) h d_M_readBlock_57 rfl ?_
            refine zr_sub [1, 2, 3, 4, 0] rfl ?_
            exact z_M_readBlock_61 h hE x1 x2 x3 x4_5 (1 : Int32) G hf
      · refine zr_if_eq_f h 24 d_M_readBlock_20 rfl rfl hc_3 ?_
        refine zr_sub [] rfl ?_
        exact z_M_readBlock_23 h hE G hf
theorem c_M_readBlock (l : Launch) (D : va_G) (cA : ClassId) (ad : Nat → Nat) (A : Nat → Prop) (x1 x2 x3 : Int32) (G : zx_G) (r : Int32) (G1 : zx_G) (hf : f_M_readBlock x1 x2 x3 G = some (r, G1)) : zx_met l y_M_readBlock M_M_readBlock [.ref (ad 32), .int x1, .int x2, .int x3] D cA ad A G r G1 :=
  zx_toMet (by decide) rfl (Nat.le_of_ble_eq_true rfl) (fun κ h hE => by exact z_M_readBlock_0 h hE x1 x2 x3 G hf)
