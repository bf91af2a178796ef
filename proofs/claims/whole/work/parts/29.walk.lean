/-! the methods as functions, and the rows that tie them to the machine; written by a program -/
def f_M_readTile_72 (k57 : Int32 → zx_G → Option (Int32 × zx_G)) : Nat → Int32 → Int32 → zx_G → Option (Int32 × zx_G)
  | 0, _, _, _ => none
  | n + 1, x1, x2, G =>
    zx_bd (f_M_tableSize x1 G) fun r_2 G_1 =>
    zx_if (r_2 ≤ x2)
      (zx_lt (x1 + (1 : Int32)) fun x1_5 =>
      k57 x1_5 G_1)
      (zx_bd (f_M_tableSize x1 G_1) fun r_7 G_6 =>
      zx_gd (zx_nz r_7) <|
      zx_gd (zx_in (((16 : Int32) * x1) + x2) 304) <|
      zx_lt (zx_up G_6 40 (Int32.toNatClampNeg (((16 : Int32) * x1) + x2)) (zx_div ((32768 : Int32) * (x2 + (1 : Int32))) r_7)) fun G_11 =>
      zx_lt (x2 + (1 : Int32)) fun x2_12 =>
      f_M_readTile_72 k57 n x1 x2_12 G_11)
def f_M_readTile_244 (k133 : Int32 → zx_G → Option (Int32 × zx_G)) (x1 : Int32) (G : zx_G) : Option (Int32 × zx_G) :=
  zx_lt (x1 + (1 : Int32)) fun x1_1 =>
  k133 x1_1 G
def f_M_readTile_206 (k133 : Int32 → zx_G → Option (Int32 × zx_G)) : Nat → Int32 → Int32 → Int32 → Int32 → Int32 → zx_G → Option (Int32 × zx_G)
  | 0, _, _, _, _, _, _ => none
  | n + 1, x1, x2, x3, x4, x5, G =>
    zx_if ((4 : Int32) ≤ x5)
      (f_M_readTile_244 k133 x1 G)
      (zx_if (¬ x4 = 0)
        (f_M_readTile_244 k133 x1 G)
        (zx_gd (zx_nz (2 : Int32)) <|
        zx_gd (zx_nz (2 : Int32)) <|
        zx_bd (f_M_readBlock (x2 + ((zx_rem x5 (2 : Int32)) * (4 : Int32))) (x3 + ((zx_div x5 (2 : Int32)) * (4 : Int32))) (4 : Int32) G) fun r_6 G_5 =>
        zx_lt (x5 + (1 : Int32)) fun x5_8 =>
        f_M_readTile_206 k133 n x1 x2 x3 x4 x5_8 G_5))
def f_M_readTile_203 (k133 : Int32 → zx_G → Option (Int32 × zx_G)) (x1 x2 x3 x4 : Int32) (G : zx_G) : Option (Int32 × zx_G) :=
  zx_lt (0 : Int32) fun x5_1 =>
  f_M_readTile_206 k133 2048 x1 x2 x3 x4 x5_1 G
def f_M_readTile_188 (k133 : Int32 → zx_G → Option (Int32 × zx_G)) (x1 x2 x3 s0 : Int32) (G : zx_G) : Option (Int32 × zx_G) :=
  zx_lt s0 fun x4_1 =>
  zx_if (x4_1 = 0)
    (f_M_readTile_203 k133 x1 x2 x3 x4_1 G)
    (zx_bd (f_M_readBlock x2 x3 (8 : Int32) G) fun r_4 G_3 =>
    f_M_readTile_203 k133 x1 x2 x3 x4_1 G_3)
def f_M_readTile_187 (k133 : Int32 → zx_G → Option (Int32 × zx_G)) (x1 x2 x3 : Int32) (G : zx_G) : Option (Int32 × zx_G) :=
  f_M_readTile_188 k133 x1 x2 x3 (0 : Int32) G
def f_M_readTile_133 : Nat → Int32 → zx_G → Option (Int32 × zx_G)
  | 0, _, _ => none
  | n + 1, x1, G =>
    zx_if ((4 : Int32) ≤ x1)
      (some ((0 : Int32), G))
      (zx_gd (zx_nz (2 : Int32)) <|
      zx_lt ((zx_rem x1 (2 : Int32)) * (8 : Int32)) fun x2_3 =>
      zx_gd (zx_nz (2 : Int32)) <|
      zx_lt ((zx_div x1 (2 : Int32)) * (8 : Int32)) fun x3_5 =>
      zx_if ((G 32 18) ≤ x2_3)
        (f_M_readTile_187 (f_M_readTile_133 n) x1 x2_3 x3_5 G)
        (zx_if ((G 32 19) ≤ x3_5)
          (f_M_readTile_187 (f_M_readTile_133 n) x1 x2_3 x3_5 G)
          (zx_if (¬ (G 32 10) = 0)
            (f_M_readTile_187 (f_M_readTile_133 n) x1 x2_3 x3_5 G)
            (zx_bd (f_M_symbol (1 : Int32) G) fun r_10 G_9 =>
            zx_if (¬ r_10 = 0)
              (f_M_readTile_187 (f_M_readTile_133 n) x1 x2_3 x3_5 G_9)
              (f_M_readTile_188 (f_M_readTile_133 n) x1 x2_3 x3_5 (1 : Int32) G_9)))))
def f_M_readTile_57 : Nat → Int32 → zx_G → Option (Int32 × zx_G)
  | 0, _, _ => none
  | n + 1, x1, G =>
    zx_if ((19 : Int32) ≤ x1)
      (zx_bd (f_M_symbol (0 : Int32) G) fun r_3 G_2 =>
      zx_if (¬ r_3 = 0)
        (zx_lt (0 : Int32) fun x1_6 =>
        f_M_readTile_133 2048 x1_6 G_2)
        (zx_bd (f_M_readBlock (0 : Int32) (0 : Int32) (16 : Int32) G_2) fun r_8 G_7 =>
        some ((0 : Int32), G_7)))
      (zx_gd (zx_in x1 19) <|
      zx_lt (zx_up G 41 (Int32.toNatClampNeg x1) (0 : Int32)) fun G_11 =>
      zx_lt (0 : Int32) fun x2_12 =>
      f_M_readTile_72 (f_M_readTile_57 n) 2048 x1 x2_12 G_11)
def f_M_readTile_12 : Nat → Int32 → zx_G → Option (Int32 × zx_G)
  | 0, _, _ => none
  | n + 1, x1, G =>
    zx_if ((15 : Int32) ≤ x1)
      (zx_lt (zx_up G 32 27 (32768 : Int32)) fun G_2 =>
      zx_lt (zx_up G_2 32 30 (0 : Int32)) fun G_3 =>
      zx_lt (zx_up G_3 32 37 (0 : Int32)) fun G_4 =>
      zx_lt (0 : Int32) fun x1_5 =>
      f_M_readTile_57 2048 x1_5 G_4)
      (zx_bd (f_M_nextBit G) fun r_7 G_6 =>
      zx_lt (zx_up G_6 32 28 (((2 : Int32) * (G 32 28)) + r_7)) fun G_9 =>
      zx_lt (x1 + (1 : Int32)) fun x1_10 =>
      f_M_readTile_12 n x1_10 G_9)
def f_M_readTile (G : zx_G) : Option (Int32 × zx_G) :=
  zx_lt (zx_up G 32 29 (0 : Int32)) fun G_1 =>
  zx_lt (zx_up G_1 32 28 (0 : Int32)) fun G_2 =>
  zx_lt (0 : Int32) fun x1_3 =>
  f_M_readTile_12 2048 x1_3 G_2
set_option maxRecDepth 100000 in
set_option maxHeartbeats 4000000 in
theorem z_M_readTile_72 {κ : zx_K} {ad : Nat → Nat} {r : Int32} {G1 : zx_G} (h : zx_C M_M_readTile κ ad) (hE : zx_E M_M_readTile κ ad r G1) {k57 : Int32 → zx_G → Option (Int32 × zx_G)} (hk57 : ∀ (x1 : Int32) (G : zx_G), k57 x1 G = some (r, G1) → zx_Z κ ad 57 [(0, .ref (ad 32)), (1, .int x1)] [] G) : ∀ (n : Nat) (x1 x2 : Int32) (G : zx_G), f_M_readTile_72 k57 n x1 x2 G = some (r, G1) → zx_Z κ ad 72 [(0, .ref (ad 32)), (1, .int x1), (2, .int x2)] [] G := by
  intro n
  induction n with
  | zero => intro x1 x2 G hf; cases hf
  | succ n ih =>
    intro x1 x2 G hf
    unfold f_M_readTile_72 at hf
    refine zr_iload_n h d_M_readTile_72 rfl rfl 2 rfl ?_
    refine zr_iload_n h d_M_readTile_73 rfl rfl 1 rfl ?_
    obtain ⟨r_2, G_1, hq_3, hf⟩ := zx_bd_some hf
    refine zr_callSI (As := [.int x1]) h (c_M_tableSize _ _ _ _ _ x1 G r_2 G_1 hq_3) cc_M_216 d_M_readTile_74 rfl rfl rfl ⟨rfl, by decide, by decide⟩ (Nat.le_of_ble_eq_true rfl) ?_
    rcases zx_if_some hf with ⟨hc_4, hf⟩ | ⟨hc_4, hf⟩
    · refine zr_icmp_ge_t (tgt := 108) h d_M_readTile_77 rfl hc_4 ?_
      obtain ⟨x1_5, ex1_5, hf⟩ := zx_lt_some hf
      refine zr_iinc (j := 1) h d_M_readTile_108 rfl rfl (by decide) ex1_5 (by decide) rfl ?_
      refine zr_goto (tgt := 57) h d_M_readTile_111 rfl ?_
      refine zr_sub [1, 0] rfl ?_
      exact hk57 x1_5 G_1 hf
    · refine zr_icmp_ge_f h 108 d_M_readTile_77 rfl rfl hc_4 ?_
      refine zr_aload_n h d_M_readTile_80 rfl rfl 0 rfl ?_
      refine zr_getR h d_M_readTile_81 rfl fl_M_31 sh_32 rfl ?_
      refine zr_bipush (v := (16 : Int32)) h d_M_readTile_84 rfl (by decide) ?_
      refine zr_iload_n h d_M_readTile_86 rfl rfl 1 rfl ?_
      refine zr_imul h d_M_readTile_87 rfl ?_
      refine zr_iload_n h d_M_readTile_88 rfl rfl 2 rfl ?_
      refine zr_iadd h d_M_readTile_89 rfl ?_
      refine zr_ldc (v := (32768 : Int32)) h d_M_readTile_90 rfl ct_M_222 ?_
      refine zr_iload_n h d_M_readTile_92 rfl rfl 2 rfl ?_
      refine zr_iconst (v := (1 : Int32)) h d_M_readTile_93 rfl (by decide) ?_
      refine zr_iadd h d_M_readTile_94 rfl ?_
      refine zr_imul h d_M_readTile_95 rfl ?_
      refine zr_iload_n h d_M_readTile_96 rfl rfl 1 rfl ?_
      obtain ⟨r_7, G_6, hq_8, hf⟩ := zx_bd_some hf
      refine zr_callSI (As := [.int x1]) h (c_M_tableSize _ _ _ _ _ x1 G_1 r_7 G_6 hq_8) cc_M_216 d_M_readTile_97 rfl rfl rfl ⟨rfl, by decide, by decide⟩ (Nat.le_of_ble_eq_true rfl) ?_
      obtain ⟨hb_9, hf⟩ := zx_gd_some hf
      refine zr_idiv h d_M_readTile_100 rfl (zx_nz_ne hb_9) ?_
      obtain ⟨hb_10, hf⟩ := zx_gd_some hf
      obtain ⟨G_11, eG_11, hf⟩ := zx_lt_some hf
      refine zr_iast h d_M_readTile_101 rfl sh_40 hb_10 eG_11 ?_
      obtain ⟨x2_12, ex2_12, hf⟩ := zx_lt_some hf
      refine zr_iinc (j := 2) h d_M_readTile_102 rfl rfl (by decide) ex2_12 (by decide) rfl ?_
      refine zr_goto (tgt := 72) h d_M_readTile_105 rfl ?_
      refine zr_sub [1, 2, 0] rfl ?_
      exact ih x1 x2_12 G_11 hf
set_option maxRecDepth 100000 in
set_option maxHeartbeats 4000000 in
theorem z_M_readTile_244 {κ : zx_K} {ad : Nat → Nat} {r : Int32} {G1 : zx_G} (h : zx_C M_M_readTile κ ad) (hE : zx_E M_M_readTile κ ad r G1) {k133 : Int32 → zx_G → Option (Int32 × zx_G)} (hk133 : ∀ (x1 : Int32) (G : zx_G), k133 x1 G = some (r, G1) → zx_Z κ ad 133 [(0, .ref (ad 32)), (1, .int x1)] [] G) (x1 : Int32) (G : zx_G) (hf : f_M_readTile_244 k133 x1 G = some (r, G1)) : zx_Z κ ad 244 [(0, .ref (ad 32)), (1, .int x1)] [] G := by
  unfold f_M_readTile_244 at hf
  obtain ⟨x1_1, ex1_1, hf⟩ := zx_lt_some hf
  refine zr_iinc (j := 1) h d_M_readTile_244 rfl rfl (by decide) ex1_1 (by decide) rfl ?_
  refine zr_goto (tgt := 133) h d_M_readTile_247 rfl ?_
  refine zr_sub [1, 0] rfl ?_
  exact hk133 x1_1 G hf
set_option maxRecDepth 100000 in
set_option maxHeartbeats 4000000 in
theorem z_M_readTile_206 {κ : zx_K} {ad : Nat → Nat} {r : Int32} {G1 : zx_G} (h : zx_C M_M_readTile κ ad) (hE : zx_E M_M_readTile κ ad r G1) {k133 : Int32 → zx_G → Option (Int32 × zx_G)} (hk133 : ∀ (x1 : Int32) (G : zx_G), k133 x1 G = some (r, G1) → zx_Z κ ad 133 [(0, .ref (ad 32)), (1, .int x1)] [] G) : ∀ (n : Nat) (x1 x2 x3 x4 x5 : Int32) (G : zx_G), f_M_readTile_206 k133 n x1 x2 x3 x4 x5 G = some (r, G1) → zx_Z κ ad 206 [(0, .ref (ad 32)), (1, .int x1), (2, .int x2), (3, .int x3), (4, .int x4), (5, .int x5)] [] G := by
  intro n
  induction n with
  | zero => intro x1 x2 x3 x4 x5 G hf; cases hf
  | succ n ih =>
    intro x1 x2 x3 x4 x5 G hf
    unfold f_M_readTile_206 at hf
    refine zr_iload h d_M_readTile_206 rfl 5 rfl ?_
    refine zr_iconst (v := (4 : Int32)) h d_M_readTile_208 rfl (by decide) ?_
    rcases zx_if_some hf with ⟨hc_1, hf⟩ | ⟨hc_1, hf⟩
    · refine zr_icmp_ge_t (tgt := 244) h d_M_readTile_209 rfl hc_1 ?_
      refine zr_sub [0, 1] rfl ?_
      exact z_M_readTile_244 h hE hk133 x1 G hf
    · refine zr_icmp_ge_f h 244 d_M_readTile_209 rfl rfl hc_1 ?_
      refine zr_iload h d_M_readTile_212 rfl 4 rfl ?_
      rcases zx_if_some hf with ⟨hc_2, hf⟩ | ⟨hc_2, hf⟩
      · refine zr_if_ne_t (tgt := 244) h d_M_readTile_214 rfl hc_2 ?_
        refine zr_sub [0, 1] rfl ?_
        exact z_M_readTile_244 h hE hk133 x1 G hf
      · refine zr_if_ne_f h 244 d_M_readTile_214 rfl rfl hc_2 ?_
        refine zr_aload_n h d_M_readTile_217 rfl rfl 0 rfl ?_
        refine zr_iload_n h d_M_readTile_218 rfl rfl 2 rfl ?_
        refine zr_iload h d_M_readTile_219 rfl 5 rfl ?_
        refine zr_iconst (v := (2 : Int32)) h d_M_readTile_221 rfl (by decide) ?_
        obtain ⟨hb_3, hf⟩ := zx_gd_some hf
        refine zr_irem h d_M_readTile_222 rfl (zx_nz_ne hb_3) ?_
        refine zr_iconst (v := (4 : Int32)) h d_M_readTile_223 rfl (by decide) ?_
        refine zr_imul h d_M_readTile_224 rfl ?_
        refine zr_iadd h d_M_readTile_225 rfl ?_
        refine zr_iload_n h d_M_readTile_226 rfl rfl 3 rfl ?_
        refine zr_iload h d_M_readTile_227 rfl 5 rfl ?_
        refine zr_iconst (v := (2 : Int32)) h d_M_readTile_229 rfl (by decide) ?_
        obtain ⟨hb_4, hf⟩ := zx_gd_some hf
        refine zr_idiv h d_M_readTile_230 rfl (zx_nz_ne hb_4) ?_
        refine zr_iconst (v := (4 : Int32)) h d_M_readTile_231 rfl (by decide) ?_
        refine zr_imul h d_M_readTile_232 rfl ?_
        refine zr_iadd h d_M_readTile_233 rfl ?_
        refine zr_iconst (v := (4 : Int32)) h d_M_readTile_234 rfl (by decide) ?_
        obtain ⟨r_6, G_5, hq_7, hf⟩ := zx_bd_some hf
        refine zr_callVV (As := [.int (x2 + ((zx_rem x5 (2 : Int32)) * (4 : Int32))), .int (x3 + ((zx_div x5 (2 : Int32)) * (4 : Int32))), .int (4 : Int32)]) (b := 32) h (c_M_readBlock _ _ _ _ _ (x2 + ((zx_rem x5 (2 : Int32)) * (4 : Int32))) (x3 + ((zx_div x5 (2 : Int32)) * (4 : Int32))) (4 : Int32) G r_6 G_5 hq_7) cc_M_229 d_M_readTile_235 rfl rfl rfl sh_32 ⟨rfl, rfl, by decide, by decide⟩ (Nat.le_of_ble_eq_true rfl) ?_
        obtain ⟨x5_8, ex5_8, hf⟩ := zx_lt_some hf
        refine zr_iinc (j := 5) h d_M_readTile_238 rfl rfl (by decide) ex5_8 (by decide) rfl ?_
        refine zr_goto (tgt := 206) h d_M_readTile_241 rfl ?_
        refine zr_sub [1, 2, 3, 4, 5, 0] rfl ?_
        exact ih x1 x2 x3 x4 x5_8 G_5 hf
set_option maxRecDepth 100000 in
set_option maxHeartbeats 4000000 in
theorem z_M_readTile_203 {κ : zx_K} {ad : Nat → Nat} {r : Int32} {G1 : zx_G} (h : zx_C M_M_readTile κ ad) (hE : zx_E M_M_readTile κ ad r G1) {k133 : Int32 → zx_G → Option (Int32 × zx_G)} (hk133 : ∀ (x1 : Int32) (G : zx_G), k133 x1 G = some (r, G1) → zx_Z κ ad 133 [(0, .ref (ad 32)), (1, .int x1)] [] G) (x1 x2 x3 x4 : Int32) (G : zx_G) (hf : f_M_readTile_203 k133 x1 x2 x3 x4 G = some (r, G1)) : zx_Z κ ad 203 [(0, .ref (ad 32)), (1, .int x1), (2, .int x2), (3, .int x3), (4, .int x4)] [] G := by
  unfold f_M_readTile_203 at hf
  refine zr_iconst (v := (0 : Int32)) h d_M_readTile_203 rfl (by decide) ?_
  obtain ⟨x5_1, ex5_1, hf⟩ := zx_lt_some hf
  refine zr_istore h d_M_readTile_204 rfl (by decide) ex5_1 rfl ?_
  refine zr_sub [1, 2, 3, 4, 5, 0] rfl ?_
  exact z_M_readTile_206 h hE hk133 2048 x1 x2 x3 x4 x5_1 G hf
set_option maxRecDepth 100000 in
set_option maxHeartbeats 4000000 in
theorem z_M_readTile_188 {κ : zx_K} {ad : Nat → Nat} {r : Int32} {G1 : zx_G} (h : zx_C M_M_readTile κ ad) (hE : zx_E M_M_readTile κ ad r G1) {k133 : Int32 → zx_G → Option (Int32 × zx_G)} (hk133 : ∀ (x1 : Int32) (G : zx_G), k133 x1 G = some (r, G1) → zx_Z κ ad 133 [(0, .ref (ad 32)), (1, .int x1)] [] G) (x1 x2 x3 s0 : Int32) (G : zx_G) (hf : f_M_readTile_188 k133 x1 x2 x3 s0 G = some (r, G1)) : zx_Z κ ad 188 [(0, .ref (ad 32)), (1, .int x1), (2, .int x2), (3, .int x3)] [.int s0] G := by
  unfold f_M_readTile_188 at hf
  obtain ⟨x4_1, ex4_1, hf⟩ := zx_lt_some hf
  refine zr_istore h d_M_readTile_188 rfl (by decide) ex4_1 rfl ?_
  refine zr_iload h d_M_readTile_190 rfl 0 rfl ?_
  rcases zx_if_some hf with ⟨hc_2, hf⟩ | ⟨hc_2, hf⟩
  · refine zr_if_eq_t (tgt := 203) h d_M_readTile_192 rfl hc_2 ?_
    refine zr_sub [1, 2, 3, 4, 0] rfl ?_
    exact z_M_readTile_203 h hE hk133 x1 x2 x3 x4_1 G hf
  · refine zr_if_eq_f h 203 d_M_readTile_192 rfl rfl hc_2 ?_
    refine zr_aload_n h d_M_readTile_195 rfl rfl 1 rfl ?_
    refine zr_iload_n h d_M_readTile_196 rfl rfl 3 rfl ?_
    refine zr_iload_n h d_M_readTile_197 rfl rfl 4 rfl ?_
    refine zr_bipush (v := (8 : Int32)) h d_M_readTile_198 rfl (by decide) ?_
    obtain ⟨r_4, G_3, hq_5, hf⟩ := zx_bd_some hf
    refine zr_callVV (As := [.int x2, .int x3, .int (8 : Int32)]) (b := 32) h (c_M_readBlock _ _ _ _ _ x2 x3 (8 : Int32) G r_4 G_3 hq_5) cc_M_229 d_M_readTile_200 rfl rfl rfl sh_32 ⟨rfl, rfl, by decide, by decide⟩ (Nat.le_of_ble_eq_true rfl) ?_
    refine zr_sub [1, 2, 3, 4, 0] rfl ?_
    exact z_M_readTile_203 h hE hk133 x1 x2 x3 x4_1 G_3 hf
set_option maxRecDepth 100000 in
set_option maxHeartbeats 4000000 in
theorem z_M_readTile_187 {κ : zx_K} {ad : Nat → Nat} {r : Int32} {G1 : zx_G} (h : zx_C M_M_readTile κ ad) (hE : zx_E M_M_readTile κ ad r G1) {k133 : Int32 → zx_G → Option (Int32 × zx_G)} (hk133 : ∀ (x1 : Int32) (G : zx_G), k133 x1 G = some (r, G1) → zx_Z κ ad 133 [(0, .ref (ad 32)), (1, .int x1)] [] G) (x1 x2 x3 : Int32) (G : zx_G) (hf : f_M_readTile_187 k133 x1 x2 x3 G = some (r, G1)) : zx_Z κ ad 187 [(0, .ref (ad 32)), (1, .int x1), (2, .int x2), (3, .int x3)] [] G := by
  unfold f_M_readTile_187 at hf
  refine zr_iconst (v := (0 : Int32)) h d_M_readTile_187 rfl (by decide) ?_
  exact z_M_readTile_188 h hE hk133 x1 x2 x3 (0 : Int32) G hf
set_option maxRecDepth 100000 in
set_option maxHeartbeats 4000000 in
theorem z_M_readTile_133 {κ : zx_K} {ad : Nat → Nat} {r : Int32} {G1 : zx_G} (h : zx_C M_M_readTile κ ad) (hE : zx_E M_M_readTile κ ad r G1) : ∀ (n : Nat) (x1 : Int32) (G : zx_G), f_M_readTile_133 n x1 G = some (r, G1) → zx_Z κ ad 133 [(0, .ref (ad 32)), (1, .int x1)] [] G := by
  intro n
  induction n with
  | zero => intro x1 G hf; cases hf
  | succ n ih =>
    intro x1 G hf
    unfold f_M_readTile_133 at hf
    refine zr_iload_n h d_M_readTile_133 rfl rfl 1 rfl ?_
    refine zr_iconst (v := (4 : Int32)) h d_M_readTile_134 rfl (by decide) ?_
    rcases zx_if_some hf with ⟨hc_1, hf⟩ | ⟨hc_1, hf⟩
    · refine zr_icmp_ge_t (tgt := 250) h d_M_readTile_135 rfl hc_1 ?_
      exact zr_vret h hE d_M_readTile_250 rfl hf
    · refine zr_icmp_ge_f h 250 d_M_readTile_135 rfl rfl hc_1 ?_
      refine zr_iload_n h d_M_readTile_138 rfl rfl 1 rfl ?_
      refine zr_iconst (v := (2 : Int32)) h d_M_readTile_139 rfl (by decide) ?_
      obtain ⟨hb_2, hf⟩ := zx_gd_some hf
      refine zr_irem h d_M_readTile_140 rfl (zx_nz_ne hb_2) ?_
      refine zr_bipush (v := (8 : Int32)) h d_M_readTile_141 rfl (by decide) ?_
      refine zr_imul h d_M_readTile_143 rfl ?_
      obtain ⟨x2_3, ex2_3, hf⟩ := zx_lt_some hf
      refine zr_istore_n h d_M_readTile_144 rfl rfl (by decide) ex2_3 rfl ?_
      refine zr_iload_n h d_M_readTile_145 rfl rfl 2 rfl ?_
      refine zr_iconst (v := (2 : Int32)) h d_M_readTile_146 rfl (by decide) ?_
      obtain ⟨hb_4, hf⟩ := zx_gd_some hf
      refine zr_idiv h d_M_readTile_147 rfl (zx_nz_ne hb_4) ?_
      refine zr_bipush (v := (8 : Int32)) h d_M_readTile_148 rfl (by decide) ?_
      refine zr_imul h d_M_readTile_150 rfl ?_
      obtain ⟨x3_5, ex3_5, hf⟩ := zx_lt_some hf
      refine zr_istore_n h d_M_readTile_151 rfl rfl (by decide) ex3_5 rfl ?_
      refine zr_iload_n h d_M_readTile_152 rfl rfl 1 rfl ?_
      refine zr_aload_n h d_M_readTile_153 rfl rfl 2 rfl ?_
      refine zr_getI h d_M_readTile_154 rfl fl_M_171 sh_32 rfl ?_
      rcases zx_if_some hf with ⟨hc_6, hf⟩ | ⟨hc_6, hf⟩
      · refine zr_icmp_ge_t (tgt := 187) h d_M_readTile_157 rfl hc_6 ?_
        refine zr_sub [2, 3, 1, 0] rfl ?_
        exact z_M_readTile_187 h hE ih x1 x2_3 x3_5 G hf
      · refine zr_icmp_ge_f h 187 d_M_readTile_157 rfl rfl hc_6 ?_
        refine zr_iload_n h d_M_readTile_160 rfl rfl 0 rfl ?_
        refine zr_aload_n h d_M_readTile_161 rfl rfl 2 rfl ?_
        refine zr_getI h d_M_readTile_162 rfl fl_M_174 sh_32 rfl ?_
        rcases zx_if_some hf with ⟨hc_7, hf⟩ | ⟨hc_7, hf⟩
        · refine zr_icmp_ge_t (tgt := 187) h d_M_readTile_165 rfl hc_7 ?_
          refine zr_sub [2, 3, 1, 0] rfl ?_
          exact z_M_readTile_187 h hE ih x1 x2_3 x3_5 G hf
        · refine zr_icmp_ge_f h 187 d_M_readTile_165 rfl rfl hc_7 ?_
          refine zr_aload_n h d_M_readTile_168 rfl rfl 2 rfl ?_
          refine zr_getI h d_M_readTile_169 rfl fl_M_78 sh_32 rfl ?_
          rcases zx_if_some hf with ⟨hc_8, hf⟩ | ⟨hc_8, hf⟩
          · refine zr_if_ne_t (tgt := 187) h d_M_readTile_172 rfl hc_8 ?_
            refine zr_sub [2, 3, 1, 0] rfl ?_
            exact z_M_readTile_187 h hE ih x1 x2_3 x3_5 G hf
          · refine zr_if_ne_f h 187 d_M_readTile_172 rfl rfl hc_8 ?_
            refine zr_aload_n h d_M_readTile_175 rfl rfl 2 rfl ?_
            refine zr_iconst (v := (1 : Int32)) h d_M_readTile_176 rfl (by decide) ?_
            obtain ⟨r_10, G_9, hq_11, hf⟩ := zx_bd_some hf
            refine zr_callVI (As := [.int (1 : Int32)]) (b := 32) h (c_M_symbol _ _ _ _ _ (1 : Int32) G r_10 G_9 hq_11) cc_M_226 d_M_readTile_177 rfl rfl rfl sh_32 ⟨rfl, rfl, by decide, by decide⟩ (Nat.le_of_ble_eq_true rfl) ?_
            rcases zx_if_some hf with ⟨hc_12, hf⟩ | ⟨hc_12, hf⟩
            · refine zr_if_ne_t (tgt := 187) h d_M_readTile_180 rfl hc_12 ?_
              refine zr_sub [2, 3, 1, 0] rfl ?_
              exact z_M_readTile_187 h hE ih x1 x2_3 x3_5 G_9 hf
            · refine zr_if_ne_f h 187 d_M_readTile_180 rfl rfl hc_12 ?_
              refine zr_iconst (v := (1 : Int32)) h d_M_readTile_183 rfl (by decide) ?_
              refine zr_goto (tgt := 188) h d_M_readTile_184 rfl ?_
              refine zr_sub [2, 3, 1, 0] rfl ?_
              exact z_M_readTile_188 h hE ih x1 x2_3 x3_5 (1 : Int32) G_9 hf
set_option maxRecDepth 100000 in
set_option maxHeartbeats 4000000 in
theorem z_M_readTile_57 {κ : zx_K} {ad : Nat → Nat} {r : Int32} {G1 : zx_G} (h : zx_C M_M_readTile κ ad) (hE : zx_E M_M_readTile κ ad r G1) : ∀ (n : Nat) (x1 : Int32) (G : zx_G), f_M_readTile_57 n x1 G = some (r, G1) → zx_Z κ ad 57 [(0, .ref (ad 32)), (1, .int x1)] [] G := by
  intro n
  induction n with
  | zero => intro x1 G hf; cases hf
  | succ n ih =>
    intro x1 G hf
    unfold f_M_readTile_57 at hf
    refine zr_iload_n h d_M_readTile_57 rfl rfl 1 rfl ?_
    refine zr_bipush (v := (19 : Int32)) h d_M_readTile_58 rfl (by decide) ?_
    rcases zx_if_some hf with ⟨hc_1, hf⟩ | ⟨hc_1, hf⟩
    · refine zr_icmp_ge_t (tgt := 114) h d_M_readTile_60 rfl hc_1 ?_
      refine zr_aload_n h d_M_readTile_114 rfl rfl 0 rfl ?_
      refine zr_iconst (v := (0 : Int32)) h d_M_readTile_115 rfl (by decide) ?_
      obtain ⟨r_3, G_2, hq_4, hf⟩ := zx_bd_some hf
      refine zr_callVI (As := [.int (0 : Int32)]) (b := 32) h (c_M_symbol _ _ _ _ _ (0 : Int32) G r_3 G_2 hq_4) cc_M_226 d_M_readTile_116 rfl rfl rfl sh_32 ⟨rfl, rfl, by decide, by decide⟩ (Nat.le_of_ble_eq_true rfl) ?_
      rcases zx_if_some hf with ⟨hc_5, hf⟩ | ⟨hc_5, hf⟩
      · refine zr_if_ne_t (tgt := 131) h d_M_readTile_119 rfl hc_5 ?_
        refine zr_iconst (v := (0 : Int32)) h d_M_readTile_131 rfl (by decide) ?_
        obtain ⟨x1_6, ex1_6, hf⟩ := zx_lt_some hf
        refine zr_istore_n h d_M_readTile_132 rfl rfl (by decide) ex1_6 rfl ?_
        refine zr_sub [1, 0] rfl ?_
        exact z_M_readTile_133 h hE 2048 x1_6 G_2 hf
      · refine zr_if_ne_f h 131 d_M_readTile_119 rfl rfl hc_5 ?_
        refine zr_aload_n h d_M_readTile_122 rfl rfl 0 rfl ?_
        refine zr_iconst (v := (0 : Int32)) h d_M_readTile_123 rfl (by decide) ?_
        refine zr_iconst (v := (0 : Int32)) h d_M_readTile_124 rfl (by decide) ?_
        refine zr_bipush (v := (16 : Int32)) h d_M_readTile_125 rfl (by decide) ?_
        obtain ⟨r_8, G_7, hq_9, hf⟩ := zx_bd_some hf
        refine zr_callVV (As := [.int (0 : Int32), .int (0 : Int32), .int (16 : Int32)]) (b := 32) h (c_M_readBlock _ _ _ _ _ (0 : Int32) (0 : Int32) (16 : Int32) G_2 r_8 G_7 hq_9) cc_M_229 d_M_readTile_127 rfl rfl rfl sh_32 ⟨rfl, rfl, by decide, by decide⟩ (Nat.le_of_ble_eq_true rfl) ?_
        exact zr_vret h hE d_M_readTile_130 rfl hf
    · refine zr_icmp_ge_f h 114 d_M_readTile_60 rfl rfl hc_1 ?_
      refine zr_aload_n h d_M_readTile_63 rfl rfl 0 rfl ?_
      refine zr_getR h d_M_readTile_64 rfl fl_M_34 sh_32 rfl ?_
      refine zr_iload_n h d_M_readTile_67 rfl rfl 1 rfl ?_
      refine zr_iconst (v := (0 : Int32)) h d_M_readTile_68 rfl (by decide) ?_
      obtain ⟨hb_10, hf⟩ := zx_gd_some hf
      obtain ⟨G_11, eG_11, hf⟩ := zx_lt_some hf
      refine zr_iast h d_M_readTile_69 rfl sh_41 hb_10 eG_11 ?_
      refine zr_iconst (v := (0 : Int32)) h d_M_readTile_70 rfl (by decide) ?_
      obtain ⟨x2_12, ex2_12, hf⟩ := zx_lt_some hf
      refine zr_istore_n h d_M_readTile_71 rfl rfl (by decide) ex2_12 rfl ?_
      refine zr_sub [1, 2, 0] rfl ?_
      exact z_M_readTile_72 h hE ih 2048 x1 x2_12 G_11 hf
set_option maxRecDepth 100000 in
set_option maxHeartbeats 4000000 in
theorem z_M_readTile_12 {κ : zx_K} {ad : Nat → Nat} {r : Int32} {G1 : zx_G} (h : zx_C M_M_readTile κ ad) (hE : zx_E M_M_readTile κ ad r G1) : ∀ (n : Nat) (x1 : Int32) (G : zx_G), f_M_readTile_12 n x1 G = some (r, G1) → zx_Z κ ad 12 [(0, .ref (ad 32)), (1, .int x1)] [] G := by
  intro n
  induction n with
  | zero => intro x1 G hf; cases hf
  | succ n ih =>
    intro x1 G hf
    unfold f_M_readTile_12 at hf
    refine zr_iload_n h d_M_readTile_12 rfl rfl 1 rfl ?_
    refine zr_bipush (v := (15 : Int32)) h d_M_readTile_13 rfl (by decide) ?_
    rcases zx_if_some hf with ⟨hc_1, hf⟩ | ⟨hc_1, hf⟩
    · refine zr_icmp_ge_t (tgt := 39) h d_M_readTile_15 rfl hc_1 ?_
      refine zr_aload_n h d_M_readTile_39 rfl rfl 0 rfl ?_
      refine zr_ldc (v := (32768 : Int32)) h d_M_readTile_40 rfl ct_M_222 ?_
      obtain ⟨G_2, eG_2, hf⟩ := zx_lt_some hf
      refine zr_putI h d_M_readTile_42 rfl fl_M_207 pl_M_27 sh_32 rfl rfl rfl eG_2 ?_
      refine zr_aload_n h d_M_readTile_45 rfl rfl 0 rfl ?_
      refine zr_iconst (v := (0 : Int32)) h d_M_readTile_46 rfl (by decide) ?_
      obtain ⟨G_3, eG_3, hf⟩ := zx_lt_some hf
      refine zr_putI h d_M_readTile_47 rfl fl_M_210 pl_M_30 sh_32 rfl rfl rfl eG_3 ?_
      refine zr_aload_n h d_M_readTile_50 rfl rfl 0 rfl ?_
      refine zr_iconst (v := (0 : Int32)) h d_M_readTile_51 rfl (by decide) ?_
      obtain ⟨G_4, eG_4, hf⟩ := zx_lt_some hf
      refine zr_putI h d_M_readTile_52 rfl fl_M_223 pl_M_37 sh_32 rfl rfl rfl eG_4 ?_
      refine zr_iconst (v := (0 : Int32)) h d_M_readTile_55 rfl (by decide) ?_
      obtain ⟨x1_5, ex1_5, hf⟩ := zx_lt_some hf
      refine zr_istore_n h d_M_readTile_56 rfl rfl (by decide) ex1_5 rfl ?_
      refine zr_sub [1, 0] rfl ?_
      exact z_M_readTile_57 h hE 2048 x1_5 G_4 hf
    · refine zr_icmp_ge_f h 39 d_M_readTile_15 rfl rfl hc_1 ?_
      refine zr_aload_n h d_M_readTile_18 rfl rfl 0 rfl ?_
      refine zr_iconst (v := (2 : Int32)) h d_M_readTile_19 rfl (by decide) ?_
      refine zr_aload_n h d_M_readTile_20 rfl rfl 0 rfl ?_
      refine zr_getI h d_M_readTile_21 rfl fl_M_204 sh_32 rfl ?_
      refine zr_imul h d_M_readTile_24 rfl ?_
      refine zr_aload_n h d_M_readTile_25 rfl rfl 0 rfl ?_
      obtain ⟨r_7, G_6, hq_8, hf⟩ := zx_bd_some hf
      refine zr_callVI (As := []) (b := 32) h (c_M_nextBit _ _ _ _ _ G r_7 G_6 hq_8) cc_M_213 d_M_readTile_26 rfl rfl rfl sh_32 ⟨rfl, rfl, by decide, by decide⟩ (Nat.le_of_ble_eq_true rfl) ?_
      refine zr_iadd h d_M_readTile_29 rfl ?_
      obtain ⟨G_9, eG_9, hf⟩ := zx_lt_some hf
      refine zr_putI h d_M_readTile_30 rfl fl_M_204 pl_M_28 sh_32 rfl rfl rfl eG_9 ?_
      obtain ⟨x1_10, ex1_10, hf⟩ := zx_lt_some hf
      refine zr_iinc (j := 1) h d_M_readTile_33 rfl rfl (by decide) ex1_10 (by decide) rfl ?_
      refine zr_goto (tgt := 12) h d_M_readTile_36 rfl ?_
      refine zr_sub [1, 0] rfl ?_
      exact ih x1_10 G_9 hf
set_option maxRecDepth 100000 in
set_option maxHeartbeats 4000000 in
theorem z_M_readTile_0 {κ : zx_K} {ad : Nat → Nat} {r : Int32} {G1 : zx_G} (h : zx_C M_M_readTile κ ad) (hE : zx_E M_M_readTile κ ad r G1) (G : zx_G) (hf : f_M_readTile G = some (r, G1)) : zx_Z κ ad 0 [(0, .ref (ad 32))] [] G := by
  unfold f_M_readTile at hf
  refine zr_aload_n h d_M_readTile_0 rfl rfl 0 rfl ?_
  refine zr_iconst (v := (0 : Int32)) h d_M_readTile_1 rfl (by decide) ?_
  obtain ⟨G_1, eG_1, hf⟩ := zx_lt_some hf
  refine zr_putI h d_M_readTile_2 rfl fl_M_201 pl_M_29 sh_32 rfl rfl rfl eG_1 ?_
  refine zr_aload_n h d_M_readTile_5 rfl rfl 0 rfl ?_
  refine zr_iconst (v := (0 : Int32)) h d_M_readTile_6 rfl (by decide) ?_
  obtain ⟨G_2, eG_2, hf⟩ := zx_lt_some hf
  refine zr_putI h d_M_readTile_7 rfl fl_M_204 pl_M_28 sh_32 rfl rfl rfl eG_2 ?_
  refine zr_iconst (v := (0 : Int32)) h d_M_readTile_10 rfl (by decide) ?_
  obtain ⟨x1_3, ex1_3, hf⟩ := zx_lt_some hf
  refine zr_istore_n h d_M_readTile_11 rfl rfl (by decide) ex1_3 rfl ?_
  refine zr_sub [1, 0] rfl ?_
  exact z_M_readTile_12 h hE 2048 x1_3 G_2 hf
theorem c_M_readTile (l : Launch) (D : va_G) (cA : ClassId) (ad : Nat → Nat) (A : Nat → Prop) (G : zx_G) (r : Int32) (G1 : zx_G) (hf : f_M_readTile G = some (r, G1)) : zx_met l y_M_readTile M_M_readTile [.ref (ad 32)] D cA ad A G r G1 :=
  zx_toMet (by decide) rfl (Nat.le_of_ble_eq_true rfl) (fun κ h hE => by exact z_M_readTile_0 h hE G hf)

def f_M_number_4 : Nat → Int32 → Int32 → Int32 → zx_G → Option (Int32 × zx_G)
  | 0, _, _, _, _ => none
  | n + 1, x1, x2, x3, G =>
    zx_if (x1 ≤ x3)
      (some (x2, G))
      (zx_if ((G 32 11) < (G 32 12))
        (zx_gd (zx_nz (8 : Int32)) <|
        zx_gd (zx_in (zx_div (G 32 11) (8 : Int32)) 200) <|
        zx_gd (zx_nz (8 : Int32)) <|
        zx_lt (((2 : Int32) * x2) + (((G 39 (Int32.toNatClampNeg (zx_div (G 32 11) (8 : Int32)))) >>> (((7 : Int32) - (zx_rem (G 32 11) (8 : Int32))) &&& 31)) &&& (1 : Int32))) fun x2_6 =>
        zx_lt (zx_up G 32 11 ((G 32 11) + (1 : Int32))) fun G_7 =>
        zx_lt (x3 + (1 : Int32)) fun x3_8 =>
        f_M_number_4 n x1 x2_6 x3_8 G_7)
        (zx_bd (f_M_fail (7 : Int32) G) fun r_10 G_9 =>
        some ((0 : Int32), G_9)))
def f_M_number (x1 : Int32) (G : zx_G) : Option (Int32 × zx_G) :=
  zx_lt (0 : Int32) fun x2_1 =>
  zx_lt (0 : Int32) fun x3_2 =>
  f_M_number_4 2048 x1 x2_1 x3_2 G
set_option maxRecDepth 100000 in
set_option maxHeartbeats 4000000 in
theorem z_M_number_4 {κ : zx_K} {ad : Nat → Nat} {r : Int32} {G1 : zx_G} (h : zx_C M_M_number κ ad) (hE : zx_E M_M_number κ ad r G1) : ∀ (n : Nat) (x1 x2 x3 : Int32) (G : zx_G), f_M_number_4 n x1 x2 x3 G = some (r, G1) → zx_Z κ ad 4 [(0, .ref (ad 32)), (1, .int x1), (2, .int x2), (3, .int x3)] [] G := by
  intro n
  induction n with
  | zero => intro x1 x2 x3 G hf; cases hf
  | succ n ih =>
    intro x1 x2 x3 G hf
    unfold f_M_number_4 at hf
    refine zr_iload_n h d_M_number_4 rfl rfl 3 rfl ?_
    refine zr_iload_n h d_M_number_5 rfl rfl 1 rfl ?_
    rcases zx_if_some hf with ⟨hc_1, hf⟩ | ⟨hc_1, hf⟩
    · refine zr_icmp_ge_t (tgt := 74) h d_M_number_6 rfl hc_1 ?_
      refine zr_iload_n h d_M_number_74 rfl rfl 2 rfl ?_
      exact zr_iret h hE d_M_number_75 rfl hf
    · refine zr_icmp_ge_f h 74 d_M_number_6 rfl rfl hc_1 ?_
      refine zr_aload_n h d_M_number_9 rfl rfl 0 rfl ?_
      refine zr_getI h d_M_number_10 rfl fl_M_123 sh_32 rfl ?_
      refine zr_aload_n h d_M_number_13 rfl rfl 0 rfl ?_
      refine zr_getI h d_M_number_14 rfl fl_M_126 sh_32 rfl ?_
      rcases zx_if_some hf with ⟨hc_2, hf⟩ | ⟨hc_2, hf⟩
      · refine zr_icmp_lt_t (tgt := 28) h d_M_number_17 rfl hc_2 ?_
        refine zr_iconst (v := (2 : Int32)) h d_M_number_28 rfl (by decide) ?_
        refine zr_iload_n h d_M_number_29 rfl rfl 2 rfl ?_
        refine zr_imul h d_M_number_30 rfl ?_
        refine zr_aload_n h d_M_number_31 rfl rfl 0 rfl ?_
        refine zr_getR h d_M_number_32 rfl fl_M_28 sh_32 rfl ?_
        refine zr_aload_n h d_M_number_35 rfl rfl 0 rfl ?_
        refine zr_getI h d_M_number_36 rfl fl_M_123 sh_32 rfl ?_
        refine zr_bipush (v := (8 : Int32)) h d_M_number_39 rfl (by decide) ?_
        obtain ⟨hb_3, hf⟩ := zx_gd_some hf
        refine zr_idiv h d_M_number_41 rfl (zx_nz_ne hb_3) ?_
        obtain ⟨hb_4, hf⟩ := zx_gd_some hf
        refine zr_iald h d_M_number_42 rfl sh_39 hb_4 ?_
        refine zr_bipush (v := (7 : Int32)) h d_M_number_43 rfl (by decide) ?_
        refine zr_aload_n h d_M_number_45 rfl rfl 0 rfl ?_
        refine zr_getI h d_M_number_46 rfl fl_M_123 sh_32 rfl ?_
        refine zr_bipush (v := (8 : Int32)) h d_M_number_49 rfl (by decide) ?_
        obtain ⟨hb_5, hf⟩ := zx_gd_some hf
        refine zr_irem h d_M_number_51 rfl (zx_nz_ne hb_5) ?_
        refine zr_isub h d_M_number_52 rfl ?_
        refine zr_ishr h d_M_number_53 rfl ?_
        refine zr_iconst (v := (1 : Int32)) h d_M_number_54 rfl (by decide) ?_
        refine zr_iand h d_M_number_55 rfl ?_
        refine zr_iadd h d_M_number_56 rfl ?_
        obtain ⟨x2_6, ex2_6, hf⟩ := zx_lt_some hf
        refine zr_istore_n h d_M_number_57 rfl rfl (by decide) ex2_6 rfl ?_
        refine zr_aload_n h d_M_number_58 rfl rfl 1 rfl ?_
        refine zr_dup h d_M_number_59 rfl rfl ?_
        refine zr_getI h d_M_number_60 rfl fl_M_123 sh_32 rfl ?_
        refine zr_iconst (v := (1 : Int32)) h d_M_number_63 rfl (by decide) ?_
        refine zr_iadd h d_M_number_64 rfl ?_
        obtain ⟨G_7, eG_7, hf⟩ := zx_lt_some hf
        refine zr_putI h d_M_number_65 rfl fl_M_123 pl_M_11 sh_32 rfl rfl rfl eG_7 ?_
        obtain ⟨x3_8, ex3_8, hf⟩ := zx_lt_some hf
        refine zr_iinc (j := 3) h d_M_number_68 rfl rfl (by decide) ex3_8 (by decide) rfl ?_
        refine zr_goto (tgt := 4) h d_M_number_71 rfl ?_
        refine zr_sub [2, 3, 1, 0] rfl ?_
        exact ih x1 x2_6 x3_8 G_7 hf
      · refine zr_icmp_lt_f h 28 d_M_number_17 rfl rfl hc_2 ?_
        refine zr_aload_n h d_M_number_20 rfl rfl 0 rfl ?_
        refine zr_bipush (v := (7 : Int32)) h d_M_number_21 rfl (by decide) ?_
        obtain ⟨r_10, G_9, hq_11, hf⟩ := zx_bd_some hf
        refine zr_callVV (As := [.int (7 : Int32)]) (b := 32) h (c_M_fail _ _ _ _ _ (7 : Int32) G r_10 G_9 hq_11) cc_M_119 d_M_number_23 rfl rfl rfl sh_32 ⟨rfl, rfl, by decide, by decide⟩ (Nat.le_of_ble_eq_true rfl) ?_
        refine zr_iconst (v := (0 : Int32)) h d_M_number_26 rfl (by decide) ?_
        exact zr_iret h hE d_M_number_27 rfl hf
set_option maxRecDepth 100000 in
set_option maxHeartbeats 4000000 in
theorem z_M_number_0 {κ : zx_K} {ad : Nat → Nat} {r : Int32} {G1 : zx_G} (h : zx_C M_M_number κ ad) (hE : zx_E M_M_number κ ad r G1) (x1 : Int32) (G : zx_G) (hf : f_M_number x1 G = some (r, G1)) : zx_Z κ ad 0 [(0, .ref (ad 32)), (1, .int x1)] [] G := by
  unfold f_M_number at hf
  refine zr_iconst (v := (0 : Int32)) h d_M_number_0 rfl (by decide) ?_
  obtain ⟨x2_1, ex2_1, hf⟩ := zx_lt_some hf
  refine zr_istore_n h d_M_number_1 rfl rfl (by decide) ex2_1 rfl ?_
  refine zr_iconst (v := (0 : Int32)) h d_M_number_2 rfl (by decide) ?_
  obtain ⟨x3_2, ex3_2, hf⟩ := zx_lt_some hf
  refine zr_istore_n h d_M_number_3 rfl rfl (by decide) ex3_2 rfl ?_
  refine zr_sub [2, 3, 1, 0] rfl ?_
  exact z_M_number_4 h hE 2048 x1 x2_1 x3_2 G hf
theorem c_M_number (l : Launch) (D : va_G) (cA : ClassId) (ad : Nat → Nat) (A : Nat → Prop) (x1 : Int32) (G : zx_G) (r : Int32) (G1 : zx_G) (hf : f_M_number x1 G = some (r, G1)) : zx_met l y_M_number M_M_number [.ref (ad 32), .int x1] D cA ad A G r G1 :=
  zx_toMet (by decide) rfl (Nat.le_of_ble_eq_true rfl) (fun κ h hE => by exact z_M_number_0 h hE x1 G hf)

def f_M_barred_13 (G : zx_G) : Option (Int32 × zx_G) :=
  some ((0 : Int32), G)
def f_M_barred (x1 : Int32) (G : zx_G) : Option (Int32 × zx_G) :=
  zx_bd (f_M_number x1 G) fun r_2 G_1 =>
  zx_if (r_2 = 0)
    (f_M_barred_13 G_1)
    (zx_bd (f_M_fail (5 : Int32) G_1) fun r_6 G_5 =>
    f_M_barred_13 G_5)
set_option maxRecDepth 100000 in
set_option maxHeartbeats 4000000 in
theorem z_M_barred_13 {κ : zx_K} {ad : Nat → Nat} {r : Int32} {G1 : zx_G} (h : zx_C M_M_barred κ ad) (hE : zx_E M_M_barred κ ad r G1) (G : zx_G) (hf : f_M_barred_13 G = some (r, G1)) : zx_Z κ ad 13 [] [] G := by
  unfold f_M_barred_13 at hf
  exact zr_vret h hE d_M_barred_13 rfl hf
set_option maxRecDepth 100000 in
set_option maxHeartbeats 4000000 in
theorem z_M_barred_0 {κ : zx_K} {ad : Nat → Nat} {r : Int32} {G1 : zx_G} (h : zx_C M_M_barred κ ad) (hE : zx_E M_M_barred κ ad r G1) (x1 : Int32) (G : zx_G) (hf : f_M_barred x1 G = some (r, G1)) : zx_Z κ ad 0 [(0, .ref (ad 32)), (1, .int x1)] [] G := by
  unfold f_M_barred at hf
  refine zr_aload_n h d_M_barred_0 rfl rfl 0 rfl ?_
  refine zr_iload_n h d_M_barred_1 rfl rfl 1 rfl ?_
  obtain ⟨r_2, G_1, hq_3, hf⟩ := zx_bd_some hf
  refine zr_callVI (As := [.int x1]) (b := 32) h (c_M_number _ _ _ _ _ x1 G r_2 G_1 hq_3) cc_M_161 d_M_barred_2 rfl rfl rfl sh_32 ⟨rfl, rfl, by decide, by decide⟩ (Nat.le_of_ble_eq_true rfl) ?_
  rcases zx_if_some hf with ⟨hc_4, hf⟩ | ⟨hc_4, hf⟩
  · refine zr_if_eq_t (tgt := 13) h d_M_barred_5 rfl hc_4 ?_
    refine zr_sub [] rfl ?_
    exact z_M_barred_13 h hE G_1 hf
  · refine zr_if_eq_f h 13 d_M_barred_5 rfl rfl hc_4 ?_
    refine zr_aload_n h d_M_barred_8 rfl rfl 0 rfl ?_
    refine zr_iconst (v := (5 : Int32)) h d_M_barred_9 rfl (by decide) ?_
    obtain ⟨r_6, G_5, hq_7, hf⟩ := zx_bd_some hf
    refine zr_callVV (As := [.int (5 : Int32)]) (b := 32) h (c_M_fail _ _ _ _ _ (5 : Int32) G_1 r_6 G_5 hq_7) cc_M_119 d_M_barred_10 rfl rfl rfl sh_32 ⟨rfl, rfl, by decide, by decide⟩ (Nat.le_of_ble_eq_true rfl) ?_
    refine zr_sub [] rfl ?_
    exact z_M_barred_13 h hE G_5 hf
theorem c_M_barred (l : Launch) (D : va_G) (cA : ClassId) (ad : Nat → Nat) (A : Nat → Prop) (x1 : Int32) (G : zx_G) (r : Int32) (G1 : zx_G) (hf : f_M_barred x1 G = some (r, G1)) : zx_met l y_M_barred M_M_barred [.ref (ad 32), .int x1] D cA ad A G r G1 :=
  zx_toMet (by decide) rfl (Nat.le_of_ble_eq_true rfl) (fun κ h hE => by exact z_M_barred_0 h hE x1 G hf)

def f_M_frame_56 (s1 : Int32) (G : zx_G) : Option (Int32 × zx_G) :=
  zx_lt (zx_up G 32 24 s1) fun G_1 =>
  zx_gd (zx_nz (8 : Int32)) <|
  zx_lt (zx_up G_1 32 25 ((8 : Int32) * (zx_div ((G_1 32 11) + (7 : Int32)) (8 : Int32)))) fun G_3 =>
  zx_lt (zx_up G_3 32 26 (G_3 32 12)) fun G_4 =>
  some ((0 : Int32), G_4)
def f_M_frame (G : zx_G) : Option (Int32 × zx_G) :=
  zx_bd (f_M_barred (2 : Int32) G) fun r_2 G_1 =>
  zx_bd (f_M_barred (1 : Int32) G_1) fun r_5 G_4 =>
  zx_bd (f_M_number (6 : Int32) G_4) fun r_8 G_7 =>
  zx_lt (zx_up G_7 32 21 r_8) fun G_10 =>
  zx_bd (f_M_number (1 : Int32) G_10) fun r_12 G_11 =>
  zx_lt (zx_up G_11 32 22 r_12) fun G_14 =>
  zx_bd (f_M_number (3 : Int32) G_14) fun r_16 G_15 =>
  zx_lt (zx_up G_15 32 23 r_16) fun G_18 =>
  zx_if (¬ (G_18 32 20) = (1 : Int32))
    (f_M_frame_56 (0 : Int32) G_18)
    (zx_bd (f_M_number (2 : Int32) G_18) fun r_21 G_20 =>
    f_M_frame_56 r_21 G_20)
set_option maxRecDepth 100000 in
set_option maxHeartbeats 4000000 in
theorem z_M_frame_56 {κ : zx_K} {ad : Nat → Nat} {r : Int32} {G1 : zx_G} (h : zx_C M_M_frame κ ad) (hE : zx_E M_M_frame κ ad r G1) (s1 : Int32) (G : zx_G) (hf : f_M_frame_56 s1 G = some (r, G1)) : zx_Z κ ad 56 [(0, .ref (ad 32))] [.int s1, .ref (ad 32)] G := by
  unfold f_M_frame_56 at hf
  obtain ⟨G_1, eG_1, hf⟩ := zx_lt_some hf
  refine zr_putI h d_M_frame_56 rfl fl_M_192 pl_M_24 sh_32 rfl rfl rfl eG_1 ?_
  refine zr_aload_n h d_M_frame_59 rfl rfl 0 rfl ?_
  refine zr_bipush (v := (8 : Int32)) h d_M_frame_60 rfl (by decide) ?_
  refine zr_aload_n h d_M_frame_62 rfl rfl 0 rfl ?_
  refine zr_getI h d_M_frame_63 rfl fl_M_123 sh_32 rfl ?_
  refine zr_bipush (v := (7 : Int32)) h d_M_frame_66 rfl (by decide) ?_
  refine zr_iadd h d_M_frame_68 rfl ?_
  refine zr_bipush (v := (8 : Int32)) h d_M_frame_69 rfl (by decide) ?_
  obtain ⟨hb_2, hf⟩ := zx_gd_some hf
  refine zr_idiv h d_M_frame_71 rfl (zx_nz_ne hb_2) ?_
  refine zr_imul h d_M_frame_72 rfl ?_
  obtain ⟨G_3, eG_3, hf⟩ := zx_lt_some hf
  refine zr_putI h d_M_frame_73 rfl fl_M_195 pl_M_25 sh_32 rfl rfl rfl eG_3 ?_
  refine zr_aload_n h d_M_frame_76 rfl rfl 0 rfl ?_
  refine zr_aload_n h d_M_frame_77 rfl rfl 0 rfl ?_
  refine zr_getI h d_M_frame_78 rfl fl_M_126 sh_32 rfl ?_
  obtain ⟨G_4, eG_4, hf⟩ := zx_lt_some hf
  refine zr_putI h d_M_frame_81 rfl fl_M_198 pl_M_26 sh_32 rfl rfl rfl eG_4 ?_
  exact zr_vret h hE d_M_frame_84 rfl hf
set_option maxRecDepth 100000 in
set_option maxHeartbeats 4000000 in
theorem z_M_frame_0 {κ : zx_K} {ad : Nat → Nat} {r : Int32} {G1 : zx_G} (h : zx_C M_M_frame κ ad) (hE : zx_E M_M_frame κ ad r G1) (G : zx_G) (hf : f_M_frame G = some (r, G1)) : zx_Z κ ad 0 [(0, .ref (ad 32))] [] G := by
  unfold f_M_frame at hf
  refine zr_aload_n h d_M_frame_0 rfl rfl 0 rfl ?_
  refine zr_iconst (v := (2 : Int32)) h d_M_frame_1 rfl (by decide) ?_
  obtain ⟨r_2, G_1, hq_3, hf⟩ := zx_bd_some hf
  refine zr_callVV (As := [.int (2 : Int32)]) (b := 32) h (c_M_barred _ _ _ _ _ (2 : Int32) G r_2 G_1 hq_3) cc_M_177 d_M_frame_2 rfl rfl rfl sh_32 ⟨rfl, rfl, by decide, by decide⟩ (Nat.le_of_ble_eq_true rfl) ?_
  refine zr_aload_n h d_M_frame_5 rfl rfl 0 rfl ?_
  refine zr_iconst (v := (1 : Int32)) h d_M_frame_6 rfl (by decide) ?_
  obtain ⟨r_5, G_4, hq_6, hf⟩ := zx_bd_some hf
  refine zr_callVV (As := [.int (1 : Int32)]) (b := 32) h (c_M_barred _ _ _ _ _ (1 : Int32) G_1 r_5 G_4 hq_6) cc_M_177 d_M_frame_7 rfl rfl rfl sh_32 ⟨rfl, rfl, by decide, by decide⟩ (Nat.le_of_ble_eq_true rfl) ?_
  refine zr_aload_n h d_M_frame_10 rfl rfl 0 rfl ?_
  refine zr_aload_n h d_M_frame_11 rfl rfl 0 rfl ?_
  refine zr_bipush (v := (6 : Int32)) h d_M_frame_12 rfl (by decide) ?_
  obtain ⟨r_8, G_7, hq_9, hf⟩ := zx_bd_some hf
  refine zr_callVI (As := [.int (6 : Int32)]) (b := 32) h (c_M_number _ _ _ _ _ (6 : Int32) G_4 r_8 G_7 hq_9) cc_M_161 d_M_frame_14 rfl rfl rfl sh_32 ⟨rfl, rfl, by decide, by decide⟩ (Nat.le_of_ble_eq_true rfl) ?_
  obtain ⟨G_10, eG_10, hf⟩ := zx_lt_some hf
  refine zr_putI h d_M_frame_17 rfl fl_M_183 pl_M_21 sh_32 rfl rfl rfl eG_10 ?_
  refine zr_aload_n h d_M_frame_20 rfl rfl 0 rfl ?_
  refine zr_aload_n h d_M_frame_21 rfl rfl 0 rfl ?_
  refine zr_iconst (v := (1 : Int32)) h d_M_frame_22 rfl (by decide) ?_
  obtain ⟨r_12, G_11, hq_13, hf⟩ := zx_bd_some hf
  refine zr_callVI (As := [.int (1 : Int32)]) (b := 32) h (c_M_number _ _ _ _ _ (1 : Int32) G_10 r_12 G_11 hq_13) cc_M_161 d_M_frame_23 rfl rfl rfl sh_32 ⟨rfl, rfl, by decide, by decide⟩ (Nat.le_of_ble_eq_true rfl) ?_
  obtain ⟨G_14, eG_14, hf⟩ := zx_lt_some hf
  refine zr_putI h d_M_frame_26 rfl fl_M_186 pl_M_22 sh_32 rfl rfl rfl eG_14 ?_
  refine zr_aload_n h d_M_frame_29 rfl rfl 0 rfl ?_
  refine zr_aload_n h d_M_frame_30 rfl rfl 0 rfl ?_
  refine zr_iconst (v := (3 : Int32)) h d_M_frame_31 rfl (by decide) ?_
  obtain ⟨r_16, G_15, hq_17, hf⟩ := zx_bd_some hf
  refine zr_callVI (As := [.int (3 : Int32)]) (b := 32) h (c_M_number _ _ _ _ _ (3 : Int32) G_14 r_16 G_15 hq_17) cc_M_161 d_M_frame_32 rfl rfl rfl sh_32 ⟨rfl, rfl, by decide, by decide⟩ (Nat.le_of_ble_eq_true rfl) ?_
  obtain ⟨G_18, eG_18, hf⟩ := zx_lt_some hf
  refine zr_putI h d_M_frame_35 rfl fl_M_189 pl_M_23 sh_32 rfl rfl rfl eG_18 ?_
  refine zr_aload_n h d_M_frame_38 rfl rfl 0 rfl ?_
  refine zr_aload_n h d_M_frame_39 rfl rfl 0 rfl ?_
  refine zr_getI h d_M_frame_40 rfl fl_M_180 sh_32 rfl ?_
  refine zr_iconst (v := (1 : Int32)) h d_M_frame_43 rfl (by decide) ?_
  rcases zx_if_some hf with ⟨hc_19, hf⟩ | ⟨hc_19, hf⟩
  · refine zr_icmp_ne_t (tgt := 55) h d_M_frame_44 rfl hc_19 ?_
    refine zr_iconst (v := (0 : Int32)) h d_M_frame_55 rfl (by decide) ?_
    exact z_M_frame_56 h hE (0 : Int32) G_18 hf
  · refine zr_icmp_ne_f h 55 d_M_frame_44 rfl rfl hc_19 ?_
    refine zr_aload_n h d_M_frame_47 rfl rfl 0 rfl ?_
    refine zr_iconst (v := (2 : Int32)) h d_M_frame_48 rfl (by decide) ?_
    obtain ⟨r_21, G_20, hq_22, hf⟩ := zx_bd_some hf
    refine zr_callVI (As := [.int (2 : Int32)]) (b := 32) h (c_M_number _ _ _ _ _ (2 : Int32) G_18 r_21 G_20 hq_22) cc_M_161 d_M_frame_49 rfl rfl rfl sh_32 ⟨rfl, rfl, by decide, by decide⟩ (Nat.le_of_ble_eq_true rfl) ?_
    refine zr_goto (tgt := 56) h d_M_frame_52 rfl ?_
    exact z_M_frame_56 h hE r_21 G_20 hf
theorem c_M_frame (l : Launch) (D : va_G) (cA : ClassId) (ad : Nat → Nat) (A : Nat → Prop) (G : zx_G) (r : Int32) (G1 : zx_G) (hf : f_M_frame G = some (r, G1)) : zx_met l y_M_frame M_M_frame [.ref (ad 32)] D cA ad A G r G1 :=
  zx_toMet (by decide) rfl (Nat.le_of_ble_eq_true rfl) (fun κ h hE => by exact z_M_frame_0 h hE G hf)

def f_M_sequence_232 (k191 : Int32 → Int32 → Int32 → zx_G → Option (Int32 × zx_G)) (x3 x4 s0 : Int32) (G : zx_G) : Option (Int32 × zx_G) :=
  zx_lt s0 fun x2_1 =>
  zx_lt (x4 + (1 : Int32)) fun x4_2 =>
  k191 x2_1 x3 x4_2 G
def f_M_sequence_231 (k191 : Int32 → Int32 → Int32 → zx_G → Option (Int32 × zx_G)) (x3 x4 : Int32) (G : zx_G) : Option (Int32 × zx_G) :=
  f_M_sequence_232 k191 x3 x4 (0 : Int32) G
def f_M_sequence_249 (G : zx_G) : Option (Int32 × zx_G) :=
  some ((0 : Int32), G)
def f_M_sequence_239 (x2 : Int32) (G : zx_G) : Option (Int32 × zx_G) :=
  zx_if (¬ x2 = 0)
    (f_M_sequence_249 G)
    (zx_bd (f_M_fail (6 : Int32) G) fun r_3 G_2 =>
    f_M_sequence_249 G_2)
def f_M_sequence_191 : Nat → Int32 → Int32 → Int32 → zx_G → Option (Int32 × zx_G)
  | 0, _, _, _, _ => none
  | n + 1, x2, x3, x4, G =>
    zx_gd (zx_in x3 240) <|
    zx_if ((G 33 (Int32.toNatClampNeg x3)) < x4)
      (f_M_sequence_239 x2 G)
      (zx_if (x2 = 0)
        (f_M_sequence_231 (f_M_sequence_191 n) x3 x4 G)
        (zx_gd (zx_in (x3 + x4) 240) <|
        zx_if (¬ (G 33 (Int32.toNatClampNeg (x3 + x4))) = ((8 : Int32) + ((2 : Int32) * (G 32 17))))
          (f_M_sequence_231 (f_M_sequence_191 n) x3 x4 G)
          (f_M_sequence_232 (f_M_sequence_191 n) x3 x4 (1 : Int32) G)))
def f_M_sequence_187 (x3 s0 : Int32) (G : zx_G) : Option (Int32 × zx_G) :=
  zx_lt s0 fun x2_1 =>
  zx_lt (1 : Int32) fun x4_2 =>
  f_M_sequence_191 2048 x2_1 x3 x4_2 G
def f_M_sequence_186 (x3 : Int32) (G : zx_G) : Option (Int32 × zx_G) :=
  f_M_sequence_187 x3 (0 : Int32) G
def f_M_sequence_143 (s0 : Int32) (G : zx_G) : Option (Int32 × zx_G) :=
  zx_lt s0 fun x2_1 =>
  zx_if ((G 32 15) < 0)
    (f_M_sequence_239 x2_1 G)
    (zx_gd (zx_in (G 32 15) 16) <|
    zx_lt (G 34 (Int32.toNatClampNeg (G 32 15))) fun x3_4 =>
    zx_if (x2_1 = 0)
      (f_M_sequence_186 x3_4 G)
      (zx_gd (zx_in x3_4 240) <|
      zx_if (¬ (G 33 (Int32.toNatClampNeg x3_4)) = ((1 : Int32) + ((2 : Int32) * (G 32 16))))
        (f_M_sequence_186 x3_4 G)
        (f_M_sequence_187 x3_4 (1 : Int32) G)))
def f_M_sequence_142 (G : zx_G) : Option (Int32 × zx_G) :=
  f_M_sequence_143 (0 : Int32) G
def f_M_sequence_22 (G : zx_G) : Option (Int32 × zx_G) :=
  zx_bd (f_M_number (1 : Int32) G) fun r_2 G_1 =>
  zx_lt (zx_up G_1 32 17 r_2) fun G_4 =>
  zx_bd (f_M_number (4 : Int32) G_4) fun r_6 G_5 =>
  zx_lt (zx_up G_5 32 18 (r_6 + (1 : Int32))) fun G_8 =>
  zx_bd (f_M_number (4 : Int32) G_8) fun r_10 G_9 =>
  zx_lt (zx_up G_9 32 19 (r_10 + (1 : Int32))) fun G_12 =>
  zx_bd (f_M_barred (1 : Int32) G_12) fun r_14 G_13 =>
  zx_bd (f_M_barred (1 : Int32) G_13) fun r_17 G_16 =>
  zx_bd (f_M_number (1 : Int32) G_16) fun r_20 G_19 =>
  zx_lt (zx_up G_19 32 20 r_20) fun G_22 =>
  zx_gd (zx_in (G_22 32 13) 16) <|
  zx_lt (G_22 34 (Int32.toNatClampNeg (G_22 32 13))) fun x1_24 =>
  zx_gd (zx_in x1_24 240) <|
  zx_if (¬ (G_22 33 (Int32.toNatClampNeg x1_24)) = (G_22 32 18))
    (f_M_sequence_142 G_22)
    (zx_gd (zx_in (x1_24 + (1 : Int32)) 240) <|
    zx_if (¬ (G_22 33 (Int32.toNatClampNeg (x1_24 + (1 : Int32)))) = (G_22 32 19))
      (f_M_sequence_142 G_22)
      (zx_gd (zx_in (G_22 32 14) 16) <|
      zx_gd (zx_in (G_22 34 (Int32.toNatClampNeg (G_22 32 14))) 240) <|
      zx_if (¬ (G_22 33 (Int32.toNatClampNeg (G_22 34 (Int32.toNatClampNeg (G_22 32 14))))) = ((G_22 32 16) + ((4 : Int32) * (G_22 32 17))))
        (f_M_sequence_142 G_22)
        (f_M_sequence_143 (1 : Int32) G_22)))
def f_M_sequence (G : zx_G) : Option (Int32 × zx_G) :=
  zx_bd (f_M_number (2 : Int32) G) fun r_2 G_1 =>
  zx_lt (zx_up G_1 32 16 r_2) fun G_4 =>
  zx_if ((G_4 32 16) ≤ (1 : Int32))
    (f_M_sequence_22 G_4)
    (zx_bd (f_M_fail (5 : Int32) G_4) fun r_7 G_6 =>
    f_M_sequence_22 G_6)
set_option maxRecDepth 100000 in
set_option maxHeartbeats 4000000 in
theorem z_M_sequence_232 {κ : zx_K} {ad : Nat → Nat} {r : Int32} {G1 : zx_G} (h : zx_C M_M_sequence κ ad) (hE : zx_E M_M_sequence κ ad r G1) {k191 : Int32 → Int32 → Int32 → zx_G → Option (Int32 × zx_G)} (hk191 : ∀ (x2 x3 x4 : Int32) (G : zx_G), k191 x2 x3 x4 G = some (r, G1) → zx_Z κ ad 191 [(0, .ref (ad 32)), (2, .int x2), (3, .int x3), (4, .int x4)] [] G) (x3 x4 s0 : Int32) (G : zx_G) (hf : f_M_sequence_232 k191 x3 x4 s0 G = some (r, G1)) : zx_Z κ ad 232 [(0, .ref (ad 32)), (3, .int x3), (4, .int x4)] [.int s0] G := by
  unfold f_M_sequence_232 at hf
  obtain ⟨x2_1, ex2_1, hf⟩ := zx_lt_some hf
  refine zr_istore_n h d_M_sequence_232 rfl rfl (by decide) ex2_1 rfl ?_
  obtain ⟨x4_2, ex4_2, hf⟩ := zx_lt_some hf
  refine zr_iinc (j := 3) h d_M_sequence_233 rfl rfl (by decide) ex4_2 (by decide) rfl ?_
  refine zr_goto (tgt := 191) h d_M_sequence_236 rfl ?_
  refine zr_sub [2, 1, 3, 0] rfl ?_
  exact hk191 x2_1 x3 x4_2 G hf
set_option maxRecDepth 100000 in
set_option maxHeartbeats 4000000 in
theorem z_M_sequence_231 {κ : zx_K} {ad : Nat → Nat} {r : Int32} {G1 : zx_G} (h : zx_C M_M_sequence κ ad) (hE : zx_E M_M_sequence κ ad r G1) {k191 : Int32 → Int32 → Int32 → zx_G → Option (Int32 × zx_G)} (hk191 : ∀ (x2 x3 x4 : Int32) (G : zx_G), k191 x2 x3 x4 G = some (r, G1) → zx_Z κ ad 191 [(0, .ref (ad 32)), (2, .int x2), (3, .int x3), (4, .int x4)] [] G) (x3 x4 : Int32) (G : zx_G) (hf : f_M_sequence_231 k191 x3 x4 G = some (r, G1)) : zx_Z κ ad 231 [(0, .ref (ad 32)), (3, .int x3), (4, .int x4)] [] G := by
  unfold f_M_sequence_231 at hf
  refine zr_iconst (v := (0 : Int32)) h d_M_sequence_231 rfl (by decide) ?_
  exact z_M_sequence_232 h hE hk191 x3 x4 (0 : Int32) G hf
set_option maxRecDepth 100000 in
set_option maxHeartbeats 4000000 in
theorem z_M_sequence_249 {κ : zx_K} {ad : Nat → Nat} {r : Int32} {G1 : zx_G} (h : zx_C M_M_sequence κ ad) (hE : zx_E M_M_sequence κ ad r G1) (G : zx_G) (hf : f_M_sequence_249 G = some (r, G1)) : zx_Z κ ad 249 [] [] G := by
  unfold f_M_sequence_249 at hf
  exact zr_vret h hE d_M_sequence_249 rfl hf
set_option maxRecDepth 100000 in
set_option maxHeartbeats 4000000 in
theorem z_M_sequence_239 {κ : zx_K} {ad : Nat → Nat} {r : Int32} {G1 : zx_G} (h : zx_C M_M_sequence κ ad) (hE : zx_E M_M_sequence κ ad r G1) (x2 : Int32) (G : zx_G) (hf : f_M_sequence_239 x2 G = some (r, G1)) : zx_Z κ ad 239 [(0, .ref (ad 32)), (2, .int x2)] [] G := by
  unfold f_M_sequence_239 at hf
  refine zr_iload_n h d_M_sequence_239 rfl rfl 1 rfl ?_
  rcases zx_if_some hf with ⟨hc_1, hf⟩ | ⟨hc_1, hf⟩
  · refine zr_if_ne_t (tgt := 249) h d_M_sequence_240 rfl hc_1 ?_
    refine zr_sub [] rfl ?_
    exact z_M_sequence_249 h hE G hf
  · refine zr_if_ne_f h 249 d_M_sequence_240 rfl rfl hc_1 ?_
    refine zr_aload_n h d_M_sequence_243 rfl rfl 0 rfl ?_
    refine zr_bipush (v := (6 : Int32)) h d_M_sequence_244 rfl (by decide) ?_
    obtain ⟨r_3, G_2, hq_4, hf⟩ := zx_bd_some hf
    refine zr_callVV (As := [.int (6 : Int32)]) (b := 32) h (c_M_fail _ _ _ _ _ (6 : Int32) G r_3 G_2 hq_4) cc_M_119 d_M_sequence_246 rfl rfl rfl sh_32 ⟨rfl, rfl, by decide, by decide⟩ (Nat.le_of_ble_eq_true rfl) ?_
    refine zr_sub [] rfl ?_
    exact z_M_sequence_249 h hE G_2 hf
set_option maxRecDepth 100000 in
set_option maxHeartbeats 4000000 in
theorem z_M_sequence_191 {κ : zx_K} {ad : Nat → Nat} {r : Int32} {G1 : zx_G} (h : zx_C M_M_sequence κ ad) (hE : zx_E M_M_sequence κ ad r G1) : ∀ (n : Nat) (x2 x3 x4 : Int32) (G : zx_G), f_M_sequence_191 n x2 x3 x4 G = some (r, G1) → zx_Z κ ad 191 [(0, .ref (ad 32)), (2, .int x2), (3, .int x3), (4, .int x4)] [] G := by
  intro n
  induction n with
  | zero => intro x2 x3 x4 G hf; cases hf
  | succ n ih =>
    intro x2 x3 x4 G hf
    unfold f_M_sequence_191 at hf
    refine zr_iload h d_M_sequence_191 rfl 3 rfl ?_
    refine zr_aload_n h d_M_sequence_193 rfl rfl 0 rfl ?_
    refine zr_getR h d_M_sequence_194 rfl fl_M_7 sh_32 rfl ?_
    refine zr_iload_n h d_M_sequence_197 rfl rfl 2 rfl ?_
    obtain ⟨hb_1, hf⟩ := zx_gd_some hf
    refine zr_iald h d_M_sequence_198 rfl sh_33 hb_1 ?_
    rcases zx_if_some hf with ⟨hc_2, hf⟩ | ⟨hc_2, hf⟩
    · refine zr_icmp_gt_t (tgt := 239) h d_M_sequence_199 rfl hc_2 ?_
      refine zr_sub [0, 1] rfl ?_
      exact z_M_sequence_239 h hE x2 G hf
    · refine zr_icmp_gt_f h 239 d_M_sequence_199 rfl rfl hc_2 ?_
      refine zr_iload_n h d_M_sequence_202 rfl rfl 1 rfl ?_
      rcases zx_if_some hf with ⟨hc_3, hf⟩ | ⟨hc_3, hf⟩
      · refine zr_if_eq_t (tgt := 231) h d_M_sequence_203 rfl hc_3 ?_
        refine zr_sub [0, 2, 3] rfl ?_
        exact z_M_sequence_231 h hE ih x3 x4 G hf
      · refine zr_if_eq_f h 231 d_M_sequence_203 rfl rfl hc_3 ?_
        refine zr_aload_n h d_M_sequence_206 rfl rfl 0 rfl ?_
        refine zr_getR h d_M_sequence_207 rfl fl_M_7 sh_32 rfl ?_
        refine zr_iload_n h d_M_sequence_210 rfl rfl 2 rfl ?_
        refine zr_iload h d_M_sequence_211 rfl 3 rfl ?_
        refine zr_iadd h d_M_sequence_213 rfl ?_
        obtain ⟨hb_4, hf⟩ := zx_gd_some hf
        refine zr_iald h d_M_sequence_214 rfl sh_33 hb_4 ?_
        refine zr_bipush (v := (8 : Int32)) h d_M_sequence_215 rfl (by decide) ?_
        refine zr_iconst (v := (2 : Int32)) h d_M_sequence_217 rfl (by decide) ?_
        refine zr_aload_n h d_M_sequence_218 rfl rfl 0 rfl ?_
        refine zr_getI h d_M_sequence_219 rfl fl_M_168 sh_32 rfl ?_
        refine zr_imul h d_M_sequence_222 rfl ?_
        refine zr_iadd h d_M_sequence_223 rfl ?_
        rcases zx_if_some hf with ⟨hc_5, hf⟩ | ⟨hc_5, hf⟩
        · refine zr_icmp_ne_t (tgt := 231) h d_M_sequence_224 rfl hc_5 ?_
          refine zr_sub [0, 2, 3] rfl ?_
          exact z_M_sequence_231 h hE ih x3 x4 G hf
        · refine zr_icmp_ne_f h 231 d_M_sequence_224 rfl rfl hc_5 ?_
          refine zr_iconst (v := (1 : Int32)) h d_M_sequence_227 rfl (by decide) ?_
          refine zr_goto (tgt := 232) h d_M_sequence_228 rfl ?_
          refine zr_sub [0, 2, 3] rfl ?_
          exact z_M_sequence_232 h hE ih x3 x4 (1 : Int32) G hf
set_option maxRecDepth 100000 in
set_option maxHeartbeats 4000000 in
theorem z_M_sequence_187 {κ : zx_K} {ad : Nat → Nat} {r : Int32} {G1 : zx_G} (h : zx_C M_M_sequence κ ad) (hE : zx_E M_M_sequence κ ad r G1) (x3 s0 : Int32) (G : zx_G) (hf : f_M_sequence_187 x3 s0 G = some (r, G1)) : zx_Z κ ad 187 [(0, .ref (ad 32)), (3, .int x3)] [.int s0] G := by
  unfold f_M_sequence_187 at hf
  obtain ⟨x2_1, ex2_1, hf⟩ := zx_lt_some hf
  refine zr_istore_n h d_M_sequence_187 rfl rfl (by decide) ex2_1 rfl ?_
  refine zr_iconst (v := (1 : Int32)) h d_M_sequence_188 rfl (by decide) ?_
  obtain ⟨x4_2, ex4_2, hf⟩ := zx_lt_some hf
  refine zr_istore h d_M_sequence_189 rfl (by decide) ex4_2 rfl ?_
  refine zr_sub [2, 1, 3, 0] rfl ?_
  exact z_M_sequence_191 h hE 2048 x2_1 x3 x4_2 G hf
set_option maxRecDepth 100000 in
set_option maxHeartbeats 4000000 in
theorem z_M_sequence_186 {κ : zx_K} {ad : Nat → Nat} {r : Int32} {G1 : zx_G} (h : zx_C M_M_sequence κ ad) (hE : zx_E M_M_sequence κ ad r G1) (x3 : Int32) (G : zx_G) (hf : f_M_sequence_186 x3 G = some (r, G1)) : zx_Z κ ad 186 [(0, .ref (ad 32)), (3, .int x3)] [] G := by
  unfold f_M_sequence_186 at hf
  refine zr_iconst (v := (0 : Int32)) h d_M_sequence_186 rfl (by decide) ?_
  exact z_M_sequence_187 h hE x3 (0 : Int32) G hf
set_option maxRecDepth 100000 in
set_option maxHeartbeats 4000000 in
theorem z_M_sequence_143 {κ : zx_K} {ad : Nat → Nat} {r : Int32} {G1 : zx_G} (h : zx_C M_M_sequence κ ad) (hE : zx_E M_M_sequence κ ad r G1) (s0 : Int32) (G : zx_G) (hf : f_M_sequence_143 s0 G = some (r, G1)) : zx_Z κ ad 143 [(0, .ref (ad 32))] [.int s0] G := by
  unfold f_M_sequence_143 at hf
  obtain ⟨x2_1, ex2_1, hf⟩ := zx_lt_some hf
  refine zr_istore_n h d_M_sequence_143 rfl rfl (by decide) ex2_1 rfl ?_
  refine zr_aload_n h d_M_sequence_144 rfl rfl 1 rfl ?_
  refine zr_getI h d_M_sequence_145 rfl fl_M_145 sh_32 rfl ?_
  rcases zx_if_some hf with ⟨hc_2, hf⟩ | ⟨hc_2, hf⟩
  · refine zr_if_lt_t (tgt := 239) h d_M_sequence_148 rfl hc_2 ?_
    refine zr_sub [1, 0] rfl ?_
    exact z_M_sequence_239 h hE x2_1 G hf
  · refine zr_if_lt_f h 239 d_M_sequence_148 rfl rfl hc_2 ?_
    refine zr_aload_n h d_M_sequence_151 rfl rfl 1 rfl ?_
    refine zr_getR h d_M_sequence_152 rfl fl_M_13 sh_32 rfl ?_
    refine zr_aload_n h d_M_sequence_155 rfl rfl 1 rfl ?_
    refine zr_getI h d_M_sequence_156 rfl fl_M_145 sh_32 rfl ?_
    obtain ⟨hb_3, hf⟩ := zx_gd_some hf
    refine zr_iald h d_M_sequence_159 rfl sh_34 hb_3 ?_
    obtain ⟨x3_4, ex3_4, hf⟩ := zx_lt_some hf
    refine zr_istore_n h d_M_sequence_160 rfl rfl (by decide) ex3_4 rfl ?_
    refine zr_iload_n h d_M_sequence_161 rfl rfl 1 rfl ?_
    rcases zx_if_some hf with ⟨hc_5, hf⟩ | ⟨hc_5, hf⟩
    · refine zr_if_eq_t (tgt := 186) h d_M_sequence_162 rfl hc_5 ?_
      refine zr_sub [2, 0] rfl ?_
      exact z_M_sequence_186 h hE x3_4 G hf
    · refine zr_if_eq_f h 186 d_M_sequence_162 rfl rfl hc_5 ?_
      refine zr_aload_n h d_M_sequence_165 rfl rfl 2 rfl ?_
      refine zr_getR h d_M_sequence_166 rfl fl_M_7 sh_32 rfl ?_
      refine zr_iload_n h d_M_sequence_169 rfl rfl 0 rfl ?_
      obtain ⟨hb_6, hf⟩ := zx_gd_some hf
      refine zr_iald h d_M_sequence_170 rfl sh_33 hb_6 ?_
      refine zr_iconst (v := (1 : Int32)) h d_M_sequence_171 rfl (by decide) ?_
      refine zr_iconst (v := (2 : Int32)) h d_M_sequence_172 rfl (by decide) ?_
      refine zr_aload_n h d_M_sequence_173 rfl rfl 2 rfl ?_
      refine zr_getI h d_M_sequence_174 rfl fl_M_165 sh_32 rfl ?_
      refine zr_imul h d_M_sequence_177 rfl ?_
      refine zr_iadd h d_M_sequence_178 rfl ?_
      rcases zx_if_some hf with ⟨hc_7, hf⟩ | ⟨hc_7, hf⟩
      · refine zr_icmp_ne_t (tgt := 186) h d_M_sequence_179 rfl hc_7 ?_
        refine zr_sub [2, 0] rfl ?_
        exact z_M_sequence_186 h hE x3_4 G hf
      · refine zr_icmp_ne_f h 186 d_M_sequence_179 rfl rfl hc_7 ?_
        refine zr_iconst (v := (1 : Int32)) h d_M_sequence_182 rfl (by decide) ?_
        refine zr_goto (tgt := 187) h d_M_sequence_183 rfl ?_
        refine zr_sub [2, 0] rfl ?_
        exact z_M_sequence_187 h hE x3_4 (1 : Int32) G hf
set_option maxRecDepth 100000 in
set_option maxHeartbeats 4000000 in
theorem z_M_sequence_142 {κ : zx_K} {ad : Nat → Nat} {r : Int32} {G1 : zx_G} (h : zx_C M_M_sequence κ ad) (hE : zx_E M_M_sequence κ ad r G1) (G : zx_G) (hf : f_M_sequence_142 G = some (r, G1)) : zx_Z κ ad 142 [(0, .ref (ad 32))] [] G := by
  unfold f_M_sequence_142 at hf
  refine zr_iconst (v := (0 : Int32)) h d_M_sequence_142 rfl (by decide) ?_
  exact z_M_sequence_143 h hE (0 : Int32) G hf
set_option maxRecDepth 100000 in
set_option maxHeartbeats 4000000 in
theorem z_M_sequence_22 {κ : zx_K} {ad : Nat → Nat} {r : Int32} {G1 : zx_G} (h : zx_C M_M_sequence κ ad) (hE : zx_E M_M_sequence κ ad r G1) (G : zx_G) (hf : f_M_sequence_22 G = some (r, G1)) : zx_Z κ ad 22 [(0, .ref (ad 32))] [] G := by
  unfold f_M_sequence_22 at hf
  refine zr_aload_n h d_M_sequence_22 rfl rfl 0 rfl ?_
  refine zr_aload_n h d_M_sequence_23 rfl rfl 0 rfl ?_
  refine zr_iconst (v := (1 : Int32)) h d_M_sequence_24 rfl (by decide) ?_
  obtain ⟨r_2, G_1, hq_3, hf⟩ := zx_bd_some hf
  refine zr_callVI (As := [.int (1 : Int32)]) (b := 32) h (c_M_number _ _ _ _ _ (1 : Int32) G r_2 G_1 hq_3) cc_M_161 d_M_sequence_25 rfl rfl rfl sh_32 ⟨rfl, rfl, by decide, by decide⟩ (Nat.le_of_ble_eq_true rfl) ?_
  obtain ⟨G_4, eG_4, hf⟩ := zx_lt_some hf
  refine zr_putI h d_M_sequence_28 rfl fl_M_168 pl_M_17 sh_32 rfl rfl rfl eG_4 ?_
  refine zr_aload_n h d_M_sequence_31 rfl rfl 0 rfl ?_
  refine zr_aload_n h d_M_sequence_32 rfl rfl 0 rfl ?_
  refine zr_iconst (v := (4 : Int32)) h d_M_sequence_33 rfl (by decide) ?_
  obtain ⟨r_6, G_5, hq_7, hf⟩ := zx_bd_some hf
  refine zr_callVI (As := [.int (4 : Int32)]) (b := 32) h (c_M_number _ _ _ _ _ (4 : Int32) G_4 r_6 G_5 hq_7) cc_M_161 d_M_sequence_34 rfl rfl rfl sh_32 ⟨rfl, rfl, by decide, by decide⟩ (Nat.le_of_ble_eq_true rfl) ?_
  refine zr_iconst (v := (1 : Int32)) h d_M_sequence_37 rfl (by decide) ?_
  refine zr_iadd h d_M_sequence_38 rfl ?_
  obtain ⟨G_8, eG_8, hf⟩ := zx_lt_some hf
  refine zr_putI h d_M_sequence_39 rfl fl_M_171 pl_M_18 sh_32 rfl rfl rfl eG_8 ?_
  refine zr_aload_n h d_M_sequence_42 rfl rfl 0 rfl ?_
  refine zr_aload_n h d_M_sequence_43 rfl rfl 0 rfl ?_
  refine zr_iconst (v := (4 : Int32)) h d_M_sequence_44 rfl (by decide) ?_
  obtain ⟨r_10, G_9, hq_11, hf⟩ := zx_bd_some hf
  refine zr_callVI (As := [.int (4 : Int32)]) (b := 32) h (c_M_number _ _ _ _ _ (4 : Int32) G_8 r_10 G_9 hq_11) cc_M_161 d_M_sequence_45 rfl rfl rfl sh_32 ⟨rfl, rfl, by decide, by decide⟩ (Nat.le_of_ble_eq_true rfl) ?_
  refine zr_iconst (v := (1 : Int32)) h d_M_sequence_48 rfl (by decide) ?_
  refine zr_iadd h d_M_sequence_49 rfl ?_
  obtain ⟨G_12, eG_12, hf⟩ := zx_lt_some hf
  refine zr_putI h d_M_sequence_50 rfl fl_M_174 pl_M_19 sh_32 rfl rfl rfl eG_12 ?_
  refine zr_aload_n h d_M_sequence_53 rfl rfl 0 rfl ?_
  refine zr_iconst (v := (1 : Int32)) h d_M_sequence_54 rfl (by decide) ?_
  obtain ⟨r_14, G_13, hq_15, hf⟩ := zx_bd_some hf
  refine zr_callVV (As := [.int (1 : Int32)]) (b := 32) h (c_M_barred _ _ _ _ _ (1 : Int32) G_12 r_14 G_13 hq_15) cc_M_177 d_M_sequence_55 rfl rfl rfl sh_32 ⟨rfl, rfl, by decide, by decide⟩ (Nat.le_of_ble_eq_true rfl) ?_
  refine zr_aload_n h d_M_sequence_58 rfl rfl 0 rfl ?_
  refine zr_iconst (v := (1 : Int32)) h d_M_sequence_59 rfl (by decide) ?_
  obtain ⟨r_17, G_16, hq_18, hf⟩ := zx_bd_some hf
  refine zr_callVV (As := [.int (1 : Int32)]) (b := 32) h (c_M_barred _ _ _ _ _ (1 : Int32) G_13 r_17 G_16 hq_18) cc_M_177 d_M_sequence_60 rfl rfl rfl sh_32 ⟨rfl, rfl, by decide, by decide⟩ (Nat.le_of_ble_eq_true rfl) ?_
  refine zr_aload_n h d_M_sequence_63 rfl rfl 0 rfl ?_
  refine zr_aload_n h d_M_sequence_64 rfl rfl 0 rfl ?_
  refine zr_iconst (v := (1 : Int32)) h d_M_sequence_65 rfl (by decide) ?_
  obtain ⟨r_20, G_19, hq_21, hf⟩ := zx_bd_some hf
  refine zr_callVI (As := [.int (1 : Int32)]) (b := 32) h (c_M_number _ _ _ _ _ (1 : Int32) G_16 r_20 G_19 hq_21) cc_M_161 d_M_sequence_66 rfl rfl rfl sh_32 ⟨rfl, rfl, by decide, by decide⟩ (Nat.le_of_ble_eq_true rfl) ?_
  obtain ⟨G_22, eG_22, hf⟩ := zx_lt_some hf
  refine zr_putI h d_M_sequence_69 rfl fl_M_180 pl_M_20 sh_32 rfl rfl rfl eG_22 ?_
  refine zr_aload_n h d_M_sequence_72 rfl rfl 0 rfl ?_
  refine zr_getR h d_M_sequence_73 rfl fl_M_13 sh_32 rfl ?_
  refine zr_aload_n h d_M_sequence_76 rfl rfl 0 rfl ?_
  refine zr_getI h d_M_sequence_77 rfl fl_M_139 sh_32 rfl ?_
  obtain ⟨hb_23, hf⟩ := zx_gd_some hf
  refine zr_iald h d_M_sequence_80 rfl sh_34 hb_23 ?_
  obtain ⟨x1_24, ex1_24, hf⟩ := zx_lt_some hf
  refine zr_istore_n h d_M_sequence_81 rfl rfl (by decide) ex1_24 rfl ?_
  refine zr_aload_n h d_M_sequence_82 rfl rfl 1 rfl ?_
  refine zr_getR h d_M_sequence_83 rfl fl_M_7 sh_32 rfl ?_
  refine zr_iload_n h d_M_sequence_86 rfl rfl 0 rfl ?_
  obtain ⟨hb_25, hf⟩ := zx_gd_some hf
  refine zr_iald h d_M_sequence_87 rfl sh_33 hb_25 ?_
  refine zr_aload_n h d_M_sequence_88 rfl rfl 1 rfl ?_
  refine zr_getI h d_M_sequence_89 rfl fl_M_171 sh_32 rfl ?_
  rcases zx_if_some hf with ⟨hc_26, hf⟩ | ⟨hc_26, hf⟩
  · refine zr_icmp_ne_t (tgt := 142) h d_M_sequence_92 rfl hc_26 ?_
    refine zr_sub [1] rfl ?_
    exact z_M_sequence_142 h hE G_22 hf
  · refine zr_icmp_ne_f h 142 d_M_sequence_92 rfl rfl hc_26 ?_
    refine zr_aload_n h d_M_sequence_95 rfl rfl 1 rfl ?_
    refine zr_getR h d_M_sequence_96 rfl fl_M_7 sh_32 rfl ?_
    refine zr_iload_n h d_M_sequence_99 rfl rfl 0 rfl ?_
    refine zr_iconst (v := (1 : Int32)) h d_M_sequence_100 rfl (by decide) ?_
    refine zr_iadd h d_M_sequence_101 rfl ?_
    obtain ⟨hb_27, hf⟩ := zx_gd_some hf
    refine zr_iald h d_M_sequence_102 rfl sh_33 hb_27 ?_
    refine zr_aload_n h d_M_sequence_103 rfl rfl 1 rfl ?_
    refine zr_getI h d_M_sequence_104 rfl fl_M_174 sh_32 rfl ?_
    rcases zx_if_some hf with ⟨hc_28, hf⟩ | ⟨hc_28, hf⟩
    · refine zr_icmp_ne_t (tgt := 142) h d_M_sequence_107 rfl hc_28 ?_
      refine zr_sub [1] rfl ?_
      exact z_M_sequence_142 h hE G_22 hf
    · refine zr_icmp_ne_f h 142 d_M_sequence_107 rfl rfl hc_28 ?_
      refine zr_aload_n h d_M_sequence_110 rfl rfl 1 rfl ?_
      refine zr_getR h d_M_sequence_111 rfl fl_M_7 sh_32 rfl ?_
      refine zr_aload_n h d_M_sequence_114 rfl rfl 1 rfl ?_
      refine zr_getR h d_M_sequence_115 rfl fl_M_13 sh_32 rfl ?_
      refine zr_aload_n h d_M_sequence_118 rfl rfl 1 rfl ?_
      refine zr_getI h d_M_sequence_119 rfl fl_M_142 sh_32 rfl ?_
      obtain ⟨hb_29, hf⟩ := zx_gd_some hf
      refine zr_iald h d_M_sequence_122 rfl sh_34 hb_29 ?_
      obtain ⟨hb_30, hf⟩ := zx_gd_some hf
      refine zr_iald h d_M_sequence_123 rfl sh_33 hb_30 ?_
      refine zr_aload_n h d_M_sequence_124 rfl rfl 1 rfl ?_
      refine zr_getI h d_M_sequence_125 rfl fl_M_165 sh_32 rfl ?_
      refine zr_iconst (v := (4 : Int32)) h d_M_sequence_128 rfl (by decide) ?_
      refine zr_aload_n h d_M_sequence_129 rfl rfl 1 rfl ?_
      refine zr_getI h d_M_sequence_130 rfl fl_M_168 sh_32 rfl ?_
      refine zr_imul h d_M_sequence_133 rfl ?_
      refine zr_iadd h d_M_sequence_134 rfl ?_
      rcases zx_if_some hf with ⟨hc_31, hf⟩ | ⟨hc_31, hf⟩
      · refine zr_icmp_ne_t (tgt := 142) h d_M_sequence_135 rfl hc_31 ?_
        refine zr_sub [1] rfl ?_
        exact z_M_sequence_142 h hE G_22 hf
      · refine zr_icmp_ne_f h 142 d_M_sequence_135 rfl rfl hc_31 ?_
        refine zr_iconst (v := (1 : Int32)) h d_M_sequence_138 rfl (by decide) ?_
        refine zr_goto (tgt := 143) h d_M_sequence_139 rfl ?_
        refine zr_sub [1] rfl ?_
        exact z_M_sequence_143 h hE (1 : Int32) G_22 hf
set_option maxRecDepth 100000 in
set_option maxHeartbeats 4000000 in
theorem z_M_sequence_0 {κ : zx_K} {ad : Nat → Nat} {r : Int32} {G1 : zx_G} (h : zx_C M_M_sequence κ ad) (hE : zx_E M_M_sequence κ ad r G1) (G : zx_G) (hf : f_M_sequence G = some (r, G1)) : zx_Z κ ad 0 [(0, .ref (ad 32))] [] G := by
  unfold f_M_sequence at hf
  refine zr_aload_n h d_M_sequence_0 rfl rfl 0 rfl ?_
  refine zr_aload_n h d_M_sequence_1 rfl rfl 0 rfl ?_
  refine zr_iconst (v := (2 : Int32)) h d_M_sequence_2 rfl (by decide) ?_
  obtain ⟨r_2, G_1, hq_3, hf⟩ := zx_bd_some hf
  refine zr_callVI (As := [.int (2 : Int32)]) (b := 32) h (c_M_number _ _ _ _ _ (2 : Int32) G r_2 G_1 hq_3) cc_M_161 d_M_sequence_3 rfl rfl rfl sh_32 ⟨rfl, rfl, by decide, by decide⟩ (Nat.le_of_ble_eq_true rfl) ?_
  obtain ⟨G_4, eG_4, hf⟩ := zx_lt_some hf
  refine zr_putI h d_M_sequence_6 rfl fl_M_165 pl_M_16 sh_32 rfl rfl rfl eG_4 ?_
  refine zr_aload_n h d_M_sequence_9 rfl rfl 0 rfl ?_
  refine zr_getI h d_M_sequence_10 rfl fl_M_165 sh_32 rfl ?_
  refine zr_iconst (v := (1 : Int32)) h d_M_sequence_13 rfl (by decide) ?_
  rcases zx_if_some hf with ⟨hc_5, hf⟩ | ⟨hc_5, hf⟩
  · refine zr_icmp_le_t (tgt := 22) h d_M_sequence_14 rfl hc_5 ?_
    exact z_M_sequence_22 h hE G_4 hf
  · refine zr_icmp_le_f h 22 d_M_sequence_14 rfl rfl hc_5 ?_
    refine zr_aload_n h d_M_sequence_17 rfl rfl 0 rfl ?_
    refine zr_iconst (v := (5 : Int32)) h d_M_sequence_18 rfl (by decide) ?_
    obtain ⟨r_7, G_6, hq_8, hf⟩ := zx_bd_some hf
    refine zr_callVV (As := [.int (5 : Int32)]) (b := 32) h (c_M_fail _ _ _ _ _ (5 : Int32) G_4 r_7 G_6 hq_8) cc_M_119 d_M_sequence_19 rfl rfl rfl sh_32 ⟨rfl, rfl, by decide, by decide⟩ (Nat.le_of_ble_eq_true rfl) ?_
    exact z_M_sequence_22 h hE G_6 hf
theorem c_M_sequence (l : Launch) (D : va_G) (cA : ClassId) (ad : Nat → Nat) (A : Nat → Prop) (G : zx_G) (r : Int32) (G1 : zx_G) (hf : f_M_sequence G = some (r, G1)) : zx_met l y_M_sequence M_M_sequence [.ref (ad 32)] D cA ad A G r G1 :=
  zx_toMet (by decide) rfl (Nat.le_of_ble_eq_true rfl) (fun κ h hE => by exact z_M_sequence_0 h hE G hf)

def f_M_units_198 (k6 : Int32 → Int32 → Int32 → zx_G → Option (Int32 × zx_G)) (k82 : Int32 → Int32 → Int32 → Int32 → Int32 → Int32 → zx_G → Option (Int32 × zx_G)) (x1 x2 x3 x4 x5 x6 : Int32) (G : zx_G) : Option (Int32 × zx_G) :=
  zx_lt (x6 + (1 : Int32)) fun x6_1 =>
  k82 x1 x2 x3 x4 x5 x6_1 G
def f_M_units_179 (k6 : Int32 → Int32 → Int32 → zx_G → Option (Int32 × zx_G)) (k82 : Int32 → Int32 → Int32 → Int32 → Int32 → Int32 → zx_G → Option (Int32 × zx_G)) (x1 x2 x3 x4 x6 x7 s0 : Int32) (G : zx_G) : Option (Int32 × zx_G) :=
  zx_lt s0 fun x5_1 =>
  zx_lt (x1 + (1 : Int32)) fun x1_2 =>
  zx_if ((128 : Int32) ≤ x7)
    (f_M_units_198 k6 k82 x1_2 x2 x3 x4 x5_1 x6 G)
    (zx_lt (x4 - (2 : Int32)) fun x4_4 =>
    f_M_units_198 k6 k82 x1_2 x2 x3 x4_4 x5_1 x6 G)
def f_M_units_152 (k6 : Int32 → Int32 → Int32 → zx_G → Option (Int32 × zx_G)) (k82 : Int32 → Int32 → Int32 → Int32 → Int32 → Int32 → zx_G → Option (Int32 × zx_G)) (x1 x2 x3 x4 x5 x6 x7 : Int32) (G : zx_G) : Option (Int32 × zx_G) :=
  zx_if (¬ x6 = 0)
    (f_M_units_179 k6 k82 x1 x2 x3 x4 x6 x7 (x5 + ((x7 &&& (127 : Int32)) <<< (((7 : Int32) * x6) &&& 31))) G)
    (f_M_units_179 k6 k82 x1 x2 x3 x4 x6 x7 (x7 &&& (127 : Int32)) G)
def f_M_units_146 (k6 : Int32 → Int32 → Int32 → zx_G → Option (Int32 × zx_G)) (k82 : Int32 → Int32 → Int32 → Int32 → Int32 → Int32 → zx_G → Option (Int32 × zx_G)) (x1 x2 x3 x4 x5 x6 x7 : Int32) (G : zx_G) : Option (Int32 × zx_G) :=
  zx_bd (f_M_fail (7 : Int32) G) fun r_2 G_1 =>
  f_M_units_152 k6 k82 x1 x2 x3 x4 x5 x6 x7 G_1
def f_M_units_122 (k6 : Int32 → Int32 → Int32 → zx_G → Option (Int32 × zx_G)) (k82 : Int32 → Int32 → Int32 → Int32 → Int32 → Int32 → zx_G → Option (Int32 × zx_G)) (x1 x2 x3 x4 x5 x6 s0 : Int32) (G : zx_G) : Option (Int32 × zx_G) :=
  zx_lt s0 fun x7_1 =>
  zx_if ((G 32 8) ≤ x1)
    (f_M_units_146 k6 k82 x1 x2 x3 x4 x5 x6 x7_1 G)
    (zx_if (¬ x6 = (2 : Int32))
      (f_M_units_152 k6 k82 x1 x2 x3 x4 x5 x6 x7_1 G)
      (zx_if (x7_1 < (128 : Int32))
        (f_M_units_152 k6 k82 x1 x2 x3 x4 x5 x6 x7_1 G)
        (f_M_units_146 k6 k82 x1 x2 x3 x4 x5 x6 x7_1 G)))
def f_M_units_329 (k6 : Int32 → Int32 → Int32 → zx_G → Option (Int32 × zx_G)) (x1 x2 x3 : Int32) (G : zx_G) : Option (Int32 × zx_G) :=
  k6 x1 x2 x3 G
def f_M_units_323 (k6 : Int32 → Int32 → Int32 → zx_G → Option (Int32 × zx_G)) (x1 x2 x5 s0 : Int32) (G : zx_G) : Option (Int32 × zx_G) :=
  zx_lt s0 fun x3_1 =>
  zx_lt (x1 + x5) fun x1_2 =>
  f_M_units_329 k6 x1_2 x2 x3_1 G
def f_M_units_308 (k6 : Int32 → Int32 → Int32 → zx_G → Option (Int32 × zx_G)) (x1 x4 x5 s0 : Int32) (G : zx_G) : Option (Int32 × zx_G) :=
  zx_lt s0 fun x2_1 =>
  zx_if ((x4 >>> ((3 : Int32) &&& 31)) = (6 : Int32))
    (f_M_units_323 k6 x1 x2_1 x5 (0 : Int32) G)
    (f_M_units_323 k6 x1 x2_1 x5 (1 : Int32) G)
def f_M_units_303 (k6 : Int32 → Int32 → Int32 → zx_G → Option (Int32 × zx_G)) (x1 x4 x5 : Int32) (G : zx_G) : Option (Int32 × zx_G) :=
  f_M_units_308 k6 x1 x4 x5 (1 : Int32) G
def f_M_units_291 (k6 : Int32 → Int32 → Int32 → zx_G → Option (Int32 × zx_G)) (x1 x2 x4 x5 : Int32) (G : zx_G) : Option (Int32 × zx_G) :=
  zx_if (¬ x2 = 0)
    (f_M_units_303 k6 x1 x4 x5 G)
    (zx_if (¬ (x4 >>> ((3 : Int32) &&& 31)) = (1 : Int32))
      (f_M_units_308 k6 x1 x4 x5 (0 : Int32) G)
      (f_M_units_303 k6 x1 x4 x5 G))
def f_M_units_278 (k6 : Int32 → Int32 → Int32 → zx_G → Option (Int32 × zx_G)) (x1 x2 x4 x5 : Int32) (G : zx_G) : Option (Int32 × zx_G) :=
  zx_if (¬ (x4 >>> ((3 : Int32) &&& 31)) = (6 : Int32))
    (f_M_units_291 k6 x1 x2 x4 x5 G)
    (zx_bd (f_M_frame G) fun r_3 G_2 =>
    f_M_units_291 k6 x1 x2 x4 x5 G_2)
def f_M_units_247 (k6 : Int32 → Int32 → Int32 → zx_G → Option (Int32 × zx_G)) (x1 x2 x4 x5 : Int32) (G : zx_G) : Option (Int32 × zx_G) :=
  zx_lt (zx_up G 32 11 ((8 : Int32) * x1)) fun G_1 =>
  zx_lt (zx_up G_1 32 12 ((8 : Int32) * (x1 + x5))) fun G_2 =>
  zx_if (¬ (x4 >>> ((3 : Int32) &&& 31)) = (1 : Int32))
    (f_M_units_278 k6 x1 x2 x4 x5 G_2)
    (zx_bd (f_M_sequence G_2) fun r_5 G_4 =>
    f_M_units_278 k6 x1 x2 x4 x5 G_4)
def f_M_units_221 (k6 : Int32 → Int32 → Int32 → zx_G → Option (Int32 × zx_G)) (x1 x2 x3 x4 x5 : Int32) (G : zx_G) : Option (Int32 × zx_G) :=
  zx_if (¬ (G 32 10) = 0)
    (f_M_units_329 k6 x1 x2 x3 G)
    (zx_if (¬ (x4 >>> ((3 : Int32) &&& 31)) = (6 : Int32))
      (f_M_units_247 k6 x1 x2 x4 x5 G)
      (zx_if (¬ x2 = 0)
        (f_M_units_247 k6 x1 x2 x4 x5 G)
        (zx_bd (f_M_fail (7 : Int32) G) fun r_5 G_4 =>
        f_M_units_247 k6 x1 x2 x4 x5 G_4)))
def f_M_units_204 (k6 : Int32 → Int32 → Int32 → zx_G → Option (Int32 × zx_G)) (x1 x2 x3 x4 x5 : Int32) (G : zx_G) : Option (Int32 × zx_G) :=
  zx_if (x5 ≤ ((G 32 8) - x1))
    (f_M_units_221 k6 x1 x2 x3 x4 x5 G)
    (zx_bd (f_M_fail (7 : Int32) G) fun r_3 G_2 =>
    f_M_units_221 k6 x1 x2 x3 x4 x5 G_2)
def f_M_units_82 (k6 : Int32 → Int32 → Int32 → zx_G → Option (Int32 × zx_G)) : Nat → Int32 → Int32 → Int32 → Int32 → Int32 → Int32 → zx_G → Option (Int32 × zx_G)
  | 0, _, _, _, _, _, _, _ => none
  | n + 1, x1, x2, x3, x4, x5, x6, G =>
    zx_if ((3 : Int32) ≤ x6)
      (f_M_units_204 k6 x1 x2 x3 x4 x5 G)
      (zx_if ((x4 &&& (2 : Int32)) = 0)
        (f_M_units_204 k6 x1 x2 x3 x4 x5 G)
        (zx_if (¬ (G 32 10) = 0)
          (f_M_units_204 k6 x1 x2 x3 x4 x5 G)
          (zx_if ((G 32 8) ≤ x1)
            (f_M_units_122 k6 (f_M_units_82 k6 n) x1 x2 x3 x4 x5 x6 (255 : Int32) G)
            (zx_gd (zx_in x1 200) <|
            f_M_units_122 k6 (f_M_units_82 k6 n) x1 x2 x3 x4 x5 x6 (G 39 (Int32.toNatClampNeg x1)) G))))
def f_M_units_68 (k6 : Int32 → Int32 → Int32 → zx_G → Option (Int32 × zx_G)) (x1 x2 x3 x4 : Int32) (G : zx_G) : Option (Int32 × zx_G) :=
  zx_lt (x1 + (1 : Int32)) fun x1_1 =>
  zx_lt ((G 32 8) - x1_1) fun x5_2 =>
  zx_lt (0 : Int32) fun x6_3 =>
  f_M_units_82 k6 2048 x1_1 x2 x3 x4 x5_2 x6_3 G
def f_M_units_37 (k6 : Int32 → Int32 → Int32 → zx_G → Option (Int32 × zx_G)) (x1 x2 x3 s0 : Int32) (G : zx_G) : Option (Int32 × zx_G) :=
  zx_lt s0 fun x4_1 =>
  zx_if (x4_1 < (128 : Int32))
    (zx_if ((x4_1 &&& (4 : Int32)) = 0)
      (f_M_units_68 k6 x1 x2 x3 x4_1 G)
      (zx_bd (f_M_fail (5 : Int32) G) fun r_5 G_4 =>
      f_M_units_68 k6 x1 x2 x3 x4_1 G_4))
    (zx_bd (f_M_fail (7 : Int32) G) fun r_8 G_7 =>
    f_M_units_68 k6 x1 x2 x3 x4_1 G_7)
def f_M_units_332 (G : zx_G) : Option (Int32 × zx_G) :=
  some ((0 : Int32), G)
def f_M_units_6 : Nat → Int32 → Int32 → Int32 → zx_G → Option (Int32 × zx_G)
  | 0, _, _, _, _ => none
  | n + 1, x1, x2, x3, G =>
    zx_if (x3 = 0)
      (f_M_units_332 G)
      (zx_if (¬ (G 32 10) = 0)
        (f_M_units_332 G)
        (zx_if ((G 32 8) ≤ x1)
          (f_M_units_37 (f_M_units_6 n) x1 x2 x3 (255 : Int32) G)
          (zx_gd (zx_in x1 200) <|
          f_M_units_37 (f_M_units_6 n) x1 x2 x3 (G 39 (Int32.toNatClampNeg x1)) G)))
def f_M_units (G : zx_G) : Option (Int32 × zx_G) :=
  zx_lt (0 : Int32) fun x1_1 =>
  zx_lt (0 : Int32) fun x2_2 =>
  zx_lt (1 : Int32) fun x3_3 =>
  f_M_units_6 2048 x1_1 x2_2 x3_3 G
set_option maxRecDepth 100000 in
set_option maxHeartbeats 4000000 in
theorem z_M_units_198 {κ : zx_K} {ad : Nat → Nat} {r : Int32} {G1 : zx_G} (h : zx_C M_M_units κ ad) (hE : zx_E M_M_units κ ad r G1) {k6 : Int32 → Int32 → Int32 → zx_G → Option (Int32 × zx_G)} {k82 : Int32 → Int32 → Int32 → Int32 → Int32 → Int32 → zx_G → Option (Int32 × zx_G)} (hk6 : ∀ (x1 x2 x3 : Int32) (G : zx_G), k6 x1 x2 x3 G = some (r, G1) → zx_Z κ ad 6 [(0, .ref (ad 32)), (1, .int x1), (2, .int x2), (3, .int x3)] [] G) (hk82 : ∀ (x1 x2 x3 x4 x5 x6 : Int32) (G : zx_G), k82 x1 x2 x3 x4 x5 x6 G = some (r, G1) → zx_Z κ ad 82 [(0, .ref (ad 32)), (1, .int x1), (2, .int x2), (3, .int x3), (4, .int x4), (5, .int x5), (6, .int x6)] [] G) (x1 x2 x3 x4 x5 x6 : Int32) (G : zx_G) (hf : f_M_units_198 k6 k82 x1 x2 x3 x4 x5 x6 G = some (r, G1)) : zx_Z κ ad 198 [(0, .ref (ad 32)), (1, .int x1), (2, .int x2), (3, .int x3), (4, .int x4), (5, .int x5), (6, .int x6)] [] G := by
  unfold f_M_units_198 at hf
  obtain ⟨x6_1, ex6_1, hf⟩ := zx_lt_some hf
  refine zr_iinc (j := 6) h d_M_units_198 rfl rfl (by decide) ex6_1 (by decide) rfl ?_
  refine zr_goto (tgt := 82) h d_M_units_201 rfl ?_
  refine zr_sub [1, 2, 3, 4, 5, 6, 0] rfl ?_
  exact hk82 x1 x2 x3 x4 x5 x6_1 G hf
set_option maxRecDepth 100000 in
set_option maxHeartbeats 4000000 in
theorem z_M_units_179 {κ : zx_K} {ad : Nat → Nat} {r : Int32} {G1 : zx_G} (h : zx_C M_M_units κ ad) (hE : zx_E M_M_units κ ad r G1) {k6 : Int32 → Int32 → Int32 → zx_G → Option (Int32 × zx_G)} {k82 : Int32 → Int32 → Int32 → Int32 → Int32 → Int32 → zx_G → Option (Int32 × zx_G)} (hk6 : ∀ (x1 x2 x3 : Int32) (G : zx_G), k6 x1 x2 x3 G = some (r, G1) → zx_Z κ ad 6 [(0, .ref (ad 32)), (1, .int x1), (2, .int x2), (3, .int x3)] [] G) (hk82 : ∀ (x1 x2 x3 x4 x5 x6 : Int32) (G : zx_G), k82 x1 x2 x3 x4 x5 x6 G = some (r, G1) → zx_Z κ ad 82 [(0, .ref (ad 32)), (1, .int x1), (2, .int x2), (3, .int x3), (4, .int x4), (5, .int x5), (6, .int x6)] [] G) (x1 x2 x3 x4 x6 x7 s0 : Int32) (G : zx_G) (hf : f_M_units_179 k6 k82 x1 x2 x3 x4 x6 x7 s0 G = some (r, G1)) : zx_Z κ ad 179 [(0, .ref (ad 32)), (1, .int x1), (2, .int x2), (3, .int x3), (4, .int x4), (6, .int x6), (7, .int x7)] [.int s0] G := by
  unfold f_M_units_179 at hf
  obtain ⟨x5_1, ex5_1, hf⟩ := zx_lt_some hf
  refine zr_istore h d_M_units_179 rfl (by decide) ex5_1 rfl ?_
  obtain ⟨x1_2, ex1_2, hf⟩ := zx_lt_some hf
  refine zr_iinc (j := 2) h d_M_units_181 rfl rfl (by decide) ex1_2 (by decide) rfl ?_
  refine zr_iload h d_M_units_184 rfl 7 rfl ?_
  refine zr_sipush (v := (128 : Int32)) h d_M_units_186 rfl (by decide) ?_
  rcases zx_if_some hf with ⟨hc_3, hf⟩ | ⟨hc_3, hf⟩
  · refine zr_icmp_ge_t (tgt := 198) h d_M_units_189 rfl hc_3 ?_
    refine zr_sub [2, 0, 3, 4, 5, 1, 6] rfl ?_
    exact z_M_units_198 h hE hk6 hk82 x1_2 x2 x3 x4 x5_1 x6 G hf
  · refine zr_icmp_ge_f h 198 d_M_units_189 rfl rfl hc_3 ?_
    refine zr_iload h d_M_units_192 rfl 5 rfl ?_
    refine zr_iconst (v := (2 : Int32)) h d_M_units_194 rfl (by decide) ?_
    refine zr_isub h d_M_units_195 rfl ?_
    obtain ⟨x4_4, ex4_4, hf⟩ := zx_lt_some hf
    refine zr_istore h d_M_units_196 rfl (by decide) ex4_4 rfl ?_
    refine zr_sub [3, 1, 4, 5, 0, 2, 6] rfl ?_
    exact z_M_units_198 h hE hk6 hk82 x1_2 x2 x3 x4_4 x5_1 x6 G hf
set_option maxRecDepth 100000 in
set_option maxHeartbeats 4000000 in
theorem z_M_units_152 {κ : zx_K} {ad : Nat → Nat} {r : Int32} {G1 : zx_G} (h : zx_C M_M_units κ ad) (hE : zx_E M_M_units κ ad r G1) {k6 : Int32 → Int32 → Int32 → zx_G → Option (Int32 × zx_G)} {k82 : Int32 → Int32 → Int32 → Int32 → Int32 → Int32 → zx_G → Option (Int32 × zx_G)} (hk6 : ∀ (x1 x2 x3 : Int32) (G : zx_G), k6 x1 x2 x3 G = some (r, G1) → zx_Z κ ad 6 [(0, .ref (ad 32)), (1, .int x1), (2, .int x2), (3, .int x3)] [] G) (hk82 : ∀ (x1 x2 x3 x4 x5 x6 : Int32) (G : zx_G), k82 x1 x2 x3 x4 x5 x6 G = some (r, G1) → zx_Z κ ad 82 [(0, .ref (ad 32)), (1, .int x1), (2, .int x2), (3, .int x3), (4, .int x4), (5, .int x5), (6, .int x6)] [] G) (x1 x2 x3 x4 x5 x6 x7 : Int32) (G : zx_G) (hf : f_M_units_152 k6 k82 x1 x2 x3 x4 x5 x6 x7 G = some (r, G1)) : zx_Z κ ad 152 [(0, .ref (ad 32)), (1, .int x1), (2, .int x2), (3, .int x3), (4, .int x4), (5, .int x5), (6, .int x6), (7, .int x7)] [] G := by
  unfold f_M_units_152 at hf
  refine zr_iload h d_M_units_152 rfl 6 rfl ?_
  rcases zx_if_some hf with ⟨hc_1, hf⟩ | ⟨hc_1, hf⟩
  · refine zr_if_ne_t (tgt := 165) h d_M_units_154 rfl hc_1 ?_
    refine zr_iload h d_M_units_165 rfl 5 rfl ?_
    refine zr_iload h d_M_units_167 rfl 7 rfl ?_
    refine zr_bipush (v := (127 : Int32)) h d_M_units_169 rfl (by decide) ?_
    refine zr_iand h d_M_units_171 rfl ?_
    refine zr_bipush (v := (7 : Int32)) h d_M_units_172 rfl (by decide) ?_
    refine zr_iload h d_M_units_174 rfl 6 rfl ?_
    refine zr_imul h d_M_units_176 rfl ?_
    refine zr_ishl h d_M_units_177 rfl ?_
    refine zr_iadd h d_M_units_178 rfl ?_
    refine zr_sub [0, 1, 2, 3, 4, 6, 7] rfl ?_
    exact z_M_units_179 h hE hk6 hk82 x1 x2 x3 x4 x6 x7 (x5 + ((x7 &&& (127 : Int32)) <<< (((7 : Int32) * x6) &&& 31))) G hf
  · refine zr_if_ne_f h 165 d_M_units_154 rfl rfl hc_1 ?_
    refine zr_iload h d_M_units_157 rfl 7 rfl ?_
    refine zr_bipush (v := (127 : Int32)) h d_M_units_159 rfl (by decide) ?_
    refine zr_iand h d_M_units_161 rfl ?_
    refine zr_goto (tgt := 179) h d_M_units_162 rfl ?_
    refine zr_sub [0, 1, 2, 3, 4, 6, 7] rfl ?_
    exact z_M_units_179 h hE hk6 hk82 x1 x2 x3 x4 x6 x7 (x7 &&& (127 : Int32)) G hf
set_option maxRecDepth 100000 in
set_option maxHeartbeats 4000000 in
theorem z_M_units_146 {κ : zx_K} {ad : Nat → Nat} {r : Int32} {G1 : zx_G} (h : zx_C M_M_units κ ad) (hE : zx_E M_M_units κ ad r G1) {k6 : Int32 → Int32 → Int32 → zx_G → Option (Int32 × zx_G)} {k82 : Int32 → Int32 → Int32 → Int32 → Int32 → Int32 → zx_G → Option (Int32 × zx_G)} (hk6 : ∀ (x1 x2 x3 : Int32) (G : zx_G), k6 x1 x2 x3 G = some (r, G1) → zx_Z κ ad 6 [(0, .ref (ad 32)), (1, .int x1), (2, .int x2), (3, .int x3)] [] G) (hk82 : ∀ (x1 x2 x3 x4 x5 x6 : Int32) (G : zx_G), k82 x1 x2 x3 x4 x5 x6 G = some (r, G1) → zx_Z κ ad 82 [(0, .ref (ad 32)), (1, .int x1), (2, .int x2), (3, .int x3), (4, .int x4), (5, .int x5), (6, .int x6)] [] G) (x1 x2 x3 x4 x5 x6 x7 : Int32) (G : zx_G) (hf : f_M_units_146 k6 k82 x1 x2 x3 x4 x5 x6 x7 G = some (r, G1)) : zx_Z κ ad 146 [(0, .ref (ad 32)), (1, .int x1), (2, .int x2), (3, .int x3), (4, .int x4), (5, .int x5), (6, .int x6), (7, .int x7)] [] G := by
  unfold f_M_units_146 at hf
  refine zr_aload_n h d_M_units_146 rfl rfl 0 rfl ?_
  refine zr_bipush (v := (7 : Int32)) h d_M_units_147 rfl (by decide) ?_
  obtain ⟨r_2, G_1, hq_3, hf⟩ := zx_bd_some hf
  refine zr_callVV (As := [.int (7 : Int32)]) (b := 32) h (c_M_fail _ _ _ _ _ (7 : Int32) G r_2 G_1 hq_3) cc_M_119 d_M_units_149 rfl rfl rfl sh_32 ⟨rfl, rfl, by decide, by decide⟩ (Nat.le_of_ble_eq_true rfl) ?_
  exact z_M_units_152 h hE hk6 hk82 x1 x2 x3 x4 x5 x6 x7 G_1 hf
set_option maxRecDepth 100000 in
set_option maxHeartbeats 4000000 in
theorem z_M_units_122 {κ : zx_K} {ad : Nat → Nat} {r : Int32} {G1 : zx_G} (h : zx_C M_M_units κ ad) (hE : zx_E M_M_units κ ad r G1) {k6 : Int32 → Int32 → Int32 → zx_G → Option (Int32 × zx_G)} {k82 : Int32 → Int32 → Int32 → Int32 → Int32 → Int32 → zx_G → Option (Int32 × zx_G)} (hk6 : ∀ (x1 x2 x3 : Int32) (G : zx_G), k6 x1 x2 x3 G = some (r, G1) → zx_Z κ ad 6 [(0, .ref (ad 32)), (1, .int x1), (2, .int x2), (3, .int x3)] [] G) (hk82 : ∀ (x1 x2 x3 x4 x5 x6 : Int32) (G : zx_G), k82 x1 x2 x3 x4 x5 x6 G = some (r, G1) → zx_Z κ ad 82 [(0, .ref (ad 32)), (1, .int x1), (2, .int x2), (3, .int x3), (4, .int x4), (5, .int x5), (6, .int x6)] [] G) (x1 x2 x3 x4 x5 x6 s0 : Int32) (G : zx_G) (hf : f_M_units_122 k6 k82 x1 x2 x3 x4 x5 x6 s0 G = some (r, G1)) : zx_Z κ ad 122 [(0, .ref (ad 32)), (1, .int x1), (2, .int x2), (3, .int x3), (4, .int x4), (5, .int x5), (6, .int x6)] [.int s0] G := by
  unfold f_M_units_122 at hf
  obtain ⟨x7_1, ex7_1, hf⟩ := zx_lt_some hf
  refine zr_istore h d_M_units_122 rfl (by decide) ex7_1 rfl ?_
  refine zr_iload_n h d_M_units_124 rfl rfl 2 rfl ?_
  refine zr_aload_n h d_M_units_125 rfl rfl 1 rfl ?_
  refine zr_getI h d_M_units_126 rfl fl_M_129 sh_32 rfl ?_
  rcases zx_if_some hf with ⟨hc_2, hf⟩ | ⟨hc_2, hf⟩
  · refine zr_icmp_ge_t (tgt := 146) h d_M_units_129 rfl hc_2 ?_
    refine zr_sub [1, 2, 3, 4, 5, 6, 7, 0] rfl ?_
    exact z_M_units_146 h hE hk6 hk82 x1 x2 x3 x4 x5 x6 x7_1 G hf
  · refine zr_icmp_ge_f h 146 d_M_units_129 rfl rfl hc_2 ?_
    refine zr_iload h d_M_units_132 rfl 7 rfl ?_
    refine zr_iconst (v := (2 : Int32)) h d_M_units_134 rfl (by decide) ?_
    rcases zx_if_some hf with ⟨hc_3, hf⟩ | ⟨hc_3, hf⟩
    · refine zr_icmp_ne_t (tgt := 152) h d_M_units_135 rfl hc_3 ?_
      refine zr_sub [1, 2, 3, 4, 5, 6, 7, 0] rfl ?_
      exact z_M_units_152 h hE hk6 hk82 x1 x2 x3 x4 x5 x6 x7_1 G hf
    · refine zr_icmp_ne_f h 152 d_M_units_135 rfl rfl hc_3 ?_
      refine zr_iload h d_M_units_138 rfl 0 rfl ?_
      refine zr_sipush (v := (128 : Int32)) h d_M_units_140 rfl (by decide) ?_
      rcases zx_if_some hf with ⟨hc_4, hf⟩ | ⟨hc_4, hf⟩
      · refine zr_icmp_lt_t (tgt := 152) h d_M_units_143 rfl hc_4 ?_
        refine zr_sub [1, 2, 3, 4, 5, 6, 7, 0] rfl ?_
        exact z_M_units_152 h hE hk6 hk82 x1 x2 x3 x4 x5 x6 x7_1 G hf
      · refine zr_icmp_lt_f h 152 d_M_units_143 rfl rfl hc_4 ?_
        refine zr_sub [1, 2, 3, 4, 5, 6, 7, 0] rfl ?_
        exact z_M_units_146 h hE hk6 hk82 x1 x2 x3 x4 x5 x6 x7_1 G hf
set_option maxRecDepth 100000 in
set_option maxHeartbeats 4000000 in
theorem z_M_units_329 {κ : zx_K} {ad : Nat → Nat} {r : Int32} {G1 : zx_G} (h : zx_C M_M_units κ ad) (hE : zx_E M_M_units κ ad r G1) {k6 : Int32 → Int32 → Int32 → zx_G → Option (Int32 × zx_G)} (hk6 : ∀ (x1 x2 x3 : Int32) (G : zx_G), k6 x1 x2 x3 G = some (r, G1) → zx_Z κ ad 6 [(0, .ref (ad 32)), (1, .int x1), (2, .int x2), (3, .int x3)] [] G) (x1 x2 x3 : Int32) (G : zx_G) (hf : f_M_units_329 k6 x1 x2 x3 G = some (r, G1)) : zx_Z κ ad 329 [(0, .ref (ad 32)), (1, .int x1), (2, .int x2), (3, .int x3)] [] G := by
  unfold f_M_units_329 at hf
  refine zr_goto (tgt := 6) h d_M_units_329 rfl ?_
  exact hk6 x1 x2 x3 G hf
set_option maxRecDepth 100000 in
set_option maxHeartbeats 4000000 in
theorem z_M_units_323 {κ : zx_K} {ad : Nat → Nat} {r : Int32} {G1 : zx_G} (h : zx_C M_M_units κ ad) (hE : zx_E M_M_units κ ad r G1) {k6 : Int32 → Int32 → Int32 → zx_G → Option (Int32 × zx_G)} (hk6 : ∀ (x1 x2 x3 : Int32) (G : zx_G), k6 x1 x2 x3 G = some (r, G1) → zx_Z κ ad 6 [(0, .ref (ad 32)), (1, .int x1), (2, .int x2), (3, .int x3)] [] G) (x1 x2 x5 s0 : Int32) (G : zx_G) (hf : f_M_units_323 k6 x1 x2 x5 s0 G = some (r, G1)) : zx_Z κ ad 323 [(0, .ref (ad 32)), (1, .int x1), (2, .int x2), (5, .int x5)] [.int s0] G := by
  unfold f_M_units_323 at hf
  obtain ⟨x3_1, ex3_1, hf⟩ := zx_lt_some hf
  refine zr_istore_n h d_M_units_323 rfl rfl (by decide) ex3_1 rfl ?_
  refine zr_iload_n h d_M_units_324 rfl rfl 2 rfl ?_
  refine zr_iload h d_M_units_325 rfl 4 rfl ?_
  refine zr_iadd h d_M_units_327 rfl ?_
  obtain ⟨x1_2, ex1_2, hf⟩ := zx_lt_some hf
  refine zr_istore_n h d_M_units_328 rfl rfl (by decide) ex1_2 rfl ?_
  refine zr_sub [2, 0, 3, 1] rfl ?_
  exact z_M_units_329 h hE hk6 x1_2 x2 x3_1 G hf
set_option maxRecDepth 100000 in
set_option maxHeartbeats 4000000 in
theorem z_M_units_308 {κ : zx_K} {ad : Nat → Nat} {r : Int32} {G1 : zx_G} (h : zx_C M_M_units κ ad) (hE : zx_E M_M_units κ ad r G1) {k6 : Int32 → Int32 → Int32 → zx_G → Option (Int32 × zx_G)} (hk6 : ∀ (x1 x2 x3 : Int32) (G : zx_G), k6 x1 x2 x3 G = some (r, G1) → zx_Z κ ad 6 [(0, .ref (ad 32)), (1, .int x1), (2, .int x2), (3, .int x3)] [] G) (x1 x4 x5 s0 : Int32) (G : zx_G) (hf : f_M_units_308 k6 x1 x4 x5 s0 G = some (r, G1)) : zx_Z κ ad 308 [(0, .ref (ad 32)), (1, .int x1), (4, .int x4), (5, .int x5)] [.int s0] G := by
  unfold f_M_units_308 at hf
  obtain ⟨x2_1, ex2_1, hf⟩ := zx_lt_some hf
  refine zr_istore_n h d_M_units_308 rfl rfl (by decide) ex2_1 rfl ?_
  refine zr_iload h d_M_units_309 rfl 3 rfl ?_
  refine zr_iconst (v := (3 : Int32)) h d_M_units_311 rfl (by decide) ?_
  refine zr_ishr h d_M_units_312 rfl ?_
  refine zr_bipush (v := (6 : Int32)) h d_M_units_313 rfl (by decide) ?_
  rcases zx_if_some hf with ⟨hc_2, hf⟩ | ⟨hc_2, hf⟩
  · refine zr_icmp_eq_t (tgt := 322) h d_M_units_315 rfl hc_2 ?_
    refine zr_iconst (v := (0 : Int32)) h d_M_units_322 rfl (by decide) ?_
    refine zr_sub [1, 2, 0, 4] rfl ?_
    exact z_M_units_323 h hE hk6 x1 x2_1 x5 (0 : Int32) G hf
  · refine zr_icmp_eq_f h 322 d_M_units_315 rfl rfl hc_2 ?_
    refine zr_iconst (v := (1 : Int32)) h d_M_units_318 rfl (by decide) ?_
    refine zr_goto (tgt := 323) h d_M_units_319 rfl ?_
    refine zr_sub [1, 2, 0, 4] rfl ?_
    exact z_M_units_323 h hE hk6 x1 x2_1 x5 (1 : Int32) G hf
set_option maxRecDepth 100000 in
set_option maxHeartbeats 4000000 in
theorem z_M_units_303 {κ : zx_K} {ad : Nat → Nat} {r : Int32} {G1 : zx_G} (h : zx_C M_M_units κ ad) (hE : zx_E M_M_units κ ad r G1) {k6 : Int32 → Int32 → Int32 → zx_G → Option (Int32 × zx_G)} (hk6 : ∀ (x1 x2 x3 : Int32) (G : zx_G), k6 x1 x2 x3 G = some (r, G1) → zx_Z κ ad 6 [(0, .ref (ad 32)), (1, .int x1), (2, .int x2), (3, .int x3)] [] G) (x1 x4 x5 : Int32) (G : zx_G) (hf : f_M_units_303 k6 x1 x4 x5 G = some (r, G1)) : zx_Z κ ad 303 [(0, .ref (ad 32)), (1, .int x1), (4, .int x4), (5, .int x5)] [] G := by
  unfold f_M_units_303 at hf
  refine zr_iconst (v := (1 : Int32)) h d_M_units_303 rfl (by decide) ?_
  refine zr_goto (tgt := 308) h d_M_units_304 rfl ?_
  exact z_M_units_308 h hE hk6 x1 x4 x5 (1 : Int32) G hf
set_option maxRecDepth 100000 in
set_option maxHeartbeats 4000000 in
theorem z_M_units_291 {κ : zx_K} {ad : Nat → Nat} {r : Int32} {G1 : zx_G} (h : zx_C M_M_units κ ad) (hE : zx_E M_M_units κ ad r G1) {k6 : Int32 → Int32 → Int32 → zx_G → Option (Int32 × zx_G)} (hk6 : ∀ (x1 x2 x3 : Int32) (G : zx_G), k6 x1 x2 x3 G = some (r, G1) → zx_Z κ ad 6 [(0, .ref (ad 32)), (1, .int x1), (2, .int x2), (3, .int x3)] [] G) (x1 x2 x4 x5 : Int32) (G : zx_G) (hf : f_M_units_291 k6 x1 x2 x4 x5 G = some (r, G1)) : zx_Z κ ad 291 [(0, .ref (ad 32)), (1, .int x1), (2, .int x2), (4, .int x4), (5, .int x5)] [] G := by
  unfold f_M_units_291 at hf
  refine zr_iload_n h d_M_units_291 rfl rfl 2 rfl ?_
  rcases zx_if_some hf with ⟨hc_1, hf⟩ | ⟨hc_1, hf⟩
  · refine zr_if_ne_t (tgt := 303) h d_M_units_292 rfl hc_1 ?_
    refine zr_sub [0, 1, 3, 4] rfl ?_
    exact z_M_units_303 h hE hk6 x1 x4 x5 G hf
  · refine zr_if_ne_f h 303 d_M_units_292 rfl rfl hc_1 ?_
    refine zr_iload h d_M_units_295 rfl 3 rfl ?_
    refine zr_iconst (v := (3 : Int32)) h d_M_units_297 rfl (by decide) ?_
    refine zr_ishr h d_M_units_298 rfl ?_
    refine zr_iconst (v := (1 : Int32)) h d_M_units_299 rfl (by decide) ?_
    rcases zx_if_some hf with ⟨hc_2, hf⟩ | ⟨hc_2, hf⟩
    · refine zr_icmp_ne_t (tgt := 307) h d_M_units_300 rfl hc_2 ?_
      refine zr_iconst (v := (0 : Int32)) h d_M_units_307 rfl (by decide) ?_
      refine zr_sub [0, 1, 3, 4] rfl ?_
      exact z_M_units_308 h hE hk6 x1 x4 x5 (0 : Int32) G hf
    · refine zr_icmp_ne_f h 307 d_M_units_300 rfl rfl hc_2 ?_
      refine zr_sub [0, 1, 3, 4] rfl ?_
      exact z_M_units_303 h hE hk6 x1 x4 x5 G hf
set_option maxRecDepth 100000 in
set_option maxHeartbeats 4000000 in
theorem z_M_units_278 {κ : zx_K} {ad : Nat → Nat} {r : Int32} {G1 : zx_G} (h : zx_C M_M_units κ ad) (hE : zx_E M_M_units κ ad r G1) {k6 : Int32 → Int32 → Int32 → zx_G → Option (Int32 × zx_G)} (hk6 : ∀ (x1 x2 x3 : Int32) (G : zx_G), k6 x1 x2 x3 G = some (r, G1) → zx_Z κ ad 6 [(0, .ref (ad 32)), (1, .int x1), (2, .int x2), (3, .int x3)] [] G) (x1 x2 x4 x5 : Int32) (G : zx_G) (hf : f_M_units_278 k6 x1 x2 x4 x5 G = some (r, G1)) : zx_Z κ ad 278 [(0, .ref (ad 32)), (1, .int x1), (2, .int x2), (4, .int x4), (5, .int x5)] [] G := by
  unfold f_M_units_278 at hf
  refine zr_iload h d_M_units_278 rfl 3 rfl ?_
  refine zr_iconst (v := (3 : Int32)) h d_M_units_280 rfl (by decide) ?_
  refine zr_ishr h d_M_units_281 rfl ?_
  refine zr_bipush (v := (6 : Int32)) h d_M_units_282 rfl (by decide) ?_
  rcases zx_if_some hf with ⟨hc_1, hf⟩ | ⟨hc_1, hf⟩
  · refine zr_icmp_ne_t (tgt := 291) h d_M_units_284 rfl hc_1 ?_
    exact z_M_units_291 h hE hk6 x1 x2 x4 x5 G hf
  · refine zr_icmp_ne_f h 291 d_M_units_284 rfl rfl hc_1 ?_
    refine zr_aload_n h d_M_units_287 rfl rfl 0 rfl ?_
    obtain ⟨r_3, G_2, hq_4, hf⟩ := zx_bd_some hf
    refine zr_callVV (As := []) (b := 32) h (c_M_frame _ _ _ _ _ G r_3 G_2 hq_4) cc_M_158 d_M_units_288 rfl rfl rfl sh_32 ⟨rfl, rfl, by decide, by decide⟩ (Nat.le_of_ble_eq_true rfl) ?_
    exact z_M_units_291 h hE hk6 x1 x2 x4 x5 G_2 hf
set_option maxRecDepth 100000 in
set_option maxHeartbeats 4000000 in
theorem z_M_units_247 {κ : zx_K} {ad : Nat → Nat} {r : Int32} {G1 : zx_G} (h : zx_C M_M_units κ ad) (hE : zx_E M_M_units κ ad r G1) {k6 : Int32 → Int32 → Int32 → zx_G → Option (Int32 × zx_G)} (hk6 : ∀ (x1 x2 x3 : Int32) (G : zx_G), k6 x1 x2 x3 G = some (r, G1) → zx_Z κ ad 6 [(0, .ref (ad 32)), (1, .int x1), (2, .int x2), (3, .int x3)] [] G) (x1 x2 x4 x5 : Int32) (G : zx_G) (hf : f_M_units_247 k6 x1 x2 x4 x5 G = some (r, G1)) : zx_Z κ ad 247 [(0, .ref (ad 32)), (1, .int x1), (2, .int x2), (4, .int x4), (5, .int x5)] [] G := by
  unfold f_M_units_247 at hf
  refine zr_aload_n h d_M_units_247 rfl rfl 0 rfl ?_
  refine zr_bipush (v := (8 : Int32)) h d_M_units_248 rfl (by decide) ?_
  refine zr_iload_n h d_M_units_250 rfl rfl 1 rfl ?_
  refine zr_imul h d_M_units_251 rfl ?_
  obtain ⟨G_1, eG_1, hf⟩ := zx_lt_some hf
  refine zr_putI h d_M_units_252 rfl fl_M_123 pl_M_11 sh_32 rfl rfl rfl eG_1 ?_
  refine zr_aload_n h d_M_units_255 rfl rfl 0 rfl ?_
  refine zr_bipush (v := (8 : Int32)) h d_M_units_256 rfl (by decide) ?_
  refine zr_iload_n h d_M_units_258 rfl rfl 1 rfl ?_
  refine zr_iload h d_M_units_259 rfl 4 rfl ?_
  refine zr_iadd h d_M_units_261 rfl ?_
  refine zr_imul h d_M_units_262 rfl ?_
  obtain ⟨G_2, eG_2, hf⟩ := zx_lt_some hf
  refine zr_putI h d_M_units_263 rfl fl_M_126 pl_M_12 sh_32 rfl rfl rfl eG_2 ?_
  refine zr_iload h d_M_units_266 rfl 3 rfl ?_
  refine zr_iconst (v := (3 : Int32)) h d_M_units_268 rfl (by decide) ?_
  refine zr_ishr h d_M_units_269 rfl ?_
  refine zr_iconst (v := (1 : Int32)) h d_M_units_270 rfl (by decide) ?_
  rcases zx_if_some hf with ⟨hc_3, hf⟩ | ⟨hc_3, hf⟩
  · refine zr_icmp_ne_t (tgt := 278) h d_M_units_271 rfl hc_3 ?_
    exact z_M_units_278 h hE hk6 x1 x2 x4 x5 G_2 hf
  · refine zr_icmp_ne_f h 278 d_M_units_271 rfl rfl hc_3 ?_
    refine zr_aload_n h d_M_units_274 rfl rfl 0 rfl ?_
    obtain ⟨r_5, G_4, hq_6, hf⟩ := zx_bd_some hf
    refine zr_callVV (As := []) (b := 32) h (c_M_sequence _ _ _ _ _ G_2 r_5 G_4 hq_6) cc_M_155 d_M_units_275 rfl rfl rfl sh_32 ⟨rfl, rfl, by decide, by decide⟩ (Nat.le_of_ble_eq_true rfl) ?_
    exact z_M_units_278 h hE hk6 x1 x2 x4 x5 G_4 hf
set_option maxRecDepth 100000 in
set_option maxHeartbeats 4000000 in
theorem z_M_units_221 {κ : zx_K} {ad : Nat → Nat} {r : Int32} {G1 : zx_G} (h : zx_C M_M_units κ ad) (hE : zx_E M_M_units κ ad r G1) {k6 : Int32 → Int32 → Int32 → zx_G → Option (Int32 × zx_G)} (hk6 : ∀ (x1 x2 x3 : Int32) (G : zx_G), k6 x1 x2 x3 G = some (r, G1) → zx_Z κ ad 6 [(0, .ref (ad 32)), (1, .int x1), (2, .int x2), (3, .int x3)] [] G) (x1 x2 x3 x4 x5 : Int32) (G : zx_G) (hf : f_M_units_221 k6 x1 x2 x3 x4 x5 G = some (r, G1)) : zx_Z κ ad 221 [(0, .ref (ad 32)), (1, .int x1), (2, .int x2), (3, .int x3), (4, .int x4), (5, .int x5)] [] G := by
  unfold f_M_units_221 at hf
  refine zr_aload_n h d_M_units_221 rfl rfl 0 rfl ?_
  refine zr_getI h d_M_units_222 rfl fl_M_78 sh_32 rfl ?_
  rcases zx_if_some hf with ⟨hc_1, hf⟩ | ⟨hc_1, hf⟩
  · refine zr_if_ne_t (tgt := 329) h d_M_units_225 rfl hc_1 ?_
    refine zr_sub [0, 1, 2, 3] rfl ?_
    exact z_M_units_329 h hE hk6 x1 x2 x3 G hf
  · refine zr_if_ne_f h 329 d_M_units_225 rfl rfl hc_1 ?_
    refine zr_iload h d_M_units_228 rfl 4 rfl ?_
    refine zr_iconst (v := (3 : Int32)) h d_M_units_230 rfl (by decide) ?_
    refine zr_ishr h d_M_units_231 rfl ?_
    refine zr_bipush (v := (6 : Int32)) h d_M_units_232 rfl (by decide) ?_
    rcases zx_if_some hf with ⟨hc_2, hf⟩ | ⟨hc_2, hf⟩
    · refine zr_icmp_ne_t (tgt := 247) h d_M_units_234 rfl hc_2 ?_
      refine zr_sub [0, 1, 2, 4, 5] rfl ?_
      exact z_M_units_247 h hE hk6 x1 x2 x4 x5 G hf
    · refine zr_icmp_ne_f h 247 d_M_units_234 rfl rfl hc_2 ?_
      refine zr_iload_n h d_M_units_237 rfl rfl 2 rfl ?_
      rcases zx_if_some hf with ⟨hc_3, hf⟩ | ⟨hc_3, hf⟩
      · refine zr_if_ne_t (tgt := 247) h d_M_units_238 rfl hc_3 ?_
        refine zr_sub [0, 1, 2, 4, 5] rfl ?_
        exact z_M_units_247 h hE hk6 x1 x2 x4 x5 G hf
      · refine zr_if_ne_f h 247 d_M_units_238 rfl rfl hc_3 ?_
        refine zr_aload_n h d_M_units_241 rfl rfl 0 rfl ?_
        refine zr_bipush (v := (7 : Int32)) h d_M_units_242 rfl (by decide) ?_
        obtain ⟨r_5, G_4, hq_6, hf⟩ := zx_bd_some hf
        refine zr_callVV (As := [.int (7 : Int32)]) (b := 32) h (c_M_fail _ _ _ _ _ (7 : Int32) G r_5 G_4 hq_6) cc_M_119 d_M_units_244 rfl rfl rfl sh_32 ⟨rfl, rfl, by decide, by decide⟩ (Nat.le_of_ble_eq_true rfl) ?_
        refine zr_sub [0, 1, 2, 4, 5] rfl ?_
        exact z_M_units_247 h hE hk6 x1 x2 x4 x5 G_4 hf
set_option maxRecDepth 100000 in
set_option maxHeartbeats 4000000 in
theorem z_M_units_204 {κ : zx_K} {ad : Nat → Nat} {r : Int32} {G1 : zx_G} (h : zx_C M_M_units κ ad) (hE : zx_E M_M_units κ ad r G1) {k6 : Int32 → Int32 → Int32 → zx_G → Option (Int32 × zx_G)} (hk6 : ∀ (x1 x2 x3 : Int32) (G : zx_G), k6 x1 x2 x3 G = some (r, G1) → zx_Z κ ad 6 [(0, .ref (ad 32)), (1, .int x1), (2, .int x2), (3, .int x3)] [] G) (x1 x2 x3 x4 x5 : Int32) (G : zx_G) (hf : f_M_units_204 k6 x1 x2 x3 x4 x5 G = some (r, G1)) : zx_Z κ ad 204 [(0, .ref (ad 32)), (1, .int x1), (2, .int x2), (3, .int x3), (4, .int x4), (5, .int x5)] [] G := by
  unfold f_M_units_204 at hf
  refine zr_iload h d_M_units_204 rfl 5 rfl ?_
  refine zr_aload_n h d_M_units_206 rfl rfl 0 rfl ?_
  refine zr_getI h d_M_units_207 rfl fl_M_129 sh_32 rfl ?_
  refine zr_iload_n h d_M_units_210 rfl rfl 1 rfl ?_
  refine zr_isub h d_M_units_211 rfl ?_
  rcases zx_if_some hf with ⟨hc_1, hf⟩ | ⟨hc_1, hf⟩
  · refine zr_icmp_le_t (tgt := 221) h d_M_units_212 rfl hc_1 ?_
    exact z_M_units_221 h hE hk6 x1 x2 x3 x4 x5 G hf
  · refine zr_icmp_le_f h 221 d_M_units_212 rfl rfl hc_1 ?_
    refine zr_aload_n h d_M_units_215 rfl rfl 0 rfl ?_
    refine zr_bipush (v := (7 : Int32)) h d_M_units_216 rfl (by decide) ?_
    obtain ⟨r_3, G_2, hq_4, hf⟩ := zx_bd_some hf
    refine zr_callVV (As := [.int (7 : Int32)]) (b := 32) h (c_M_fail _ _ _ _ _ (7 : Int32) G r_3 G_2 hq_4) cc_M_119 d_M_units_218 rfl rfl rfl sh_32 ⟨rfl, rfl, by decide, by decide⟩ (Nat.le_of_ble_eq_true rfl) ?_
    exact z_M_units_221 h hE hk6 x1 x2 x3 x4 x5 G_2 hf
set_option maxRecDepth 100000 in
set_option maxHeartbeats 4000000 in
theorem z_M_units_82 {κ : zx_K} {ad : Nat → Nat} {r : Int32} {G1 : zx_G} (h : zx_C M_M_units κ ad) (hE : zx_E M_M_units κ ad r G1) {k6 : Int32 → Int32 → Int32 → zx_G → Option (Int32 × zx_G)} (hk6 : ∀ (x1 x2 x3 : Int32) (G : zx_G), k6 x1 x2 x3 G = some (r, G1) → zx_Z κ ad 6 [(0, .ref (ad 32)), (1, .int x1), (2, .int x2), (3, .int x3)] [] G) : ∀ (n : Nat) (x1 x2 x3 x4 x5 x6 : Int32) (G : zx_G), f_M_units_82 k6 n x1 x2 x3 x4 x5 x6 G = some (r, G1) → zx_Z κ ad 82 [(0, .ref (ad 32)), (1, .int x1), (2, .int x2), (3, .int x3), (4, .int x4), (5, .int x5), (6, .int x6)] [] G := by
  intro n
  induction n with
  | zero => intro x1 x2 x3 x4 x5 x6 G hf; cases hf
  | succ n ih =>
    intro x1 x2 x3 x4 x5 x6 G hf
    unfold f_M_units_82 at hf
    refine zr_iload h d_M_units_82 rfl 6 rfl ?_
    refine zr_iconst (v := (3 : Int32)) h d_M_units_84 rfl (by decide) ?_
    rcases zx_if_some hf with ⟨hc_1, hf⟩ | ⟨hc_1, hf⟩
    · refine zr_icmp_ge_t (tgt := 204) h d_M_units_85 rfl hc_1 ?_
      refine zr_sub [0, 1, 2, 3, 4, 5] rfl ?_
      exact z_M_units_204 h hE hk6 x1 x2 x3 x4 x5 G hf
    · refine zr_icmp_ge_f h 204 d_M_units_85 rfl rfl hc_1 ?_
      refine zr_iload h d_M_units_88 rfl 4 rfl ?_
      refine zr_iconst (v := (2 : Int32)) h d_M_units_90 rfl (by decide) ?_
      refine zr_iand h d_M_units_91 rfl ?_
      rcases zx_if_some hf with ⟨hc_2, hf⟩ | ⟨hc_2, hf⟩
      · refine zr_if_eq_t (tgt := 204) h d_M_units_92 rfl hc_2 ?_
        refine zr_sub [0, 1, 2, 3, 4, 5] rfl ?_
        exact z_M_units_204 h hE hk6 x1 x2 x3 x4 x5 G hf
      · refine zr_if_eq_f h 204 d_M_units_92 rfl rfl hc_2 ?_
        refine zr_aload_n h d_M_units_95 rfl rfl 0 rfl ?_
        refine zr_getI h d_M_units_96 rfl fl_M_78 sh_32 rfl ?_
        rcases zx_if_some hf with ⟨hc_3, hf⟩ | ⟨hc_3, hf⟩
        · refine zr_if_ne_t (tgt := 204) h d_M_units_99 rfl hc_3 ?_
          refine zr_sub [0, 1, 2, 3, 4, 5] rfl ?_
          exact z_M_units_204 h hE hk6 x1 x2 x3 x4 x5 G hf
        · refine zr_if_ne_f h 204 d_M_units_99 rfl rfl hc_3 ?_
          refine zr_iload_n h d_M_units_102 rfl rfl 1 rfl ?_
          refine zr_aload_n h d_M_units_103 rfl rfl 0 rfl ?_
          refine zr_getI h d_M_units_104 rfl fl_M_129 sh_32 rfl ?_
          rcases zx_if_some hf with ⟨hc_4, hf⟩ | ⟨hc_4, hf⟩
          · refine zr_icmp_ge_t (tgt := 119) h d_M_units_107 rfl hc_4 ?_
            refine zr_sipush (v := (255 : Int32)) h d_M_units_119 rfl (by decide) ?_
            exact z_M_units_122 h hE hk6 ih x1 x2 x3 x4 x5 x6 (255 : Int32) G hf
          · refine zr_icmp_ge_f h 119 d_M_units_107 rfl rfl hc_4 ?_
            refine zr_aload_n h d_M_units_110 rfl rfl 0 rfl ?_
            refine zr_getR h d_M_units_111 rfl fl_M_28 sh_32 rfl ?_
            refine zr_iload_n h d_M_units_114 rfl rfl 1 rfl ?_
            obtain ⟨hb_5, hf⟩ := zx_gd_some hf
            refine zr_iald h d_M_units_115 rfl sh_39 hb_5 ?_
            refine zr_goto (tgt := 122) h d_M_units_116 rfl ?_
            exact z_M_units_122 h hE hk6 ih x1 x2 x3 x4 x5 x6 (G 39 (Int32.toNatClampNeg x1)) G hf
set_option maxRecDepth 100000 in
set_option maxHeartbeats 4000000 in
theorem z_M_units_68 {κ : zx_K} {ad : Nat → Nat} {r : Int32} {G1 : zx_G} (h : zx_C M_M_units κ ad) (hE : zx_E M_M_units κ ad r G1) {k6 : Int32 → Int32 → Int32 → zx_G → Option (Int32 × zx_G)} (hk6 : ∀ (x1 x2 x3 : Int32) (G : zx_G), k6 x1 x2 x3 G = some (r, G1) → zx_Z κ ad 6 [(0, .ref (ad 32)), (1, .int x1), (2, .int x2), (3, .int x3)] [] G) (x1 x2 x3 x4 : Int32) (G : zx_G) (hf : f_M_units_68 k6 x1 x2 x3 x4 G = some (r, G1)) : zx_Z κ ad 68 [(0, .ref (ad 32)), (1, .int x1), (2, .int x2), (3, .int x3), (4, .int x4)] [] G := by
  unfold f_M_units_68 at hf
  obtain ⟨x1_1, ex1_1, hf⟩ := zx_lt_some hf
  refine zr_iinc (j := 1) h d_M_units_68 rfl rfl (by decide) ex1_1 (by decide) rfl ?_
  refine zr_aload_n h d_M_units_71 rfl rfl 1 rfl ?_
  refine zr_getI h d_M_units_72 rfl fl_M_129 sh_32 rfl ?_
  refine zr_iload_n h d_M_units_75 rfl rfl 0 rfl ?_
  refine zr_isub h d_M_units_76 rfl ?_
  obtain ⟨x5_2, ex5_2, hf⟩ := zx_lt_some hf
  refine zr_istore h d_M_units_77 rfl (by decide) ex5_2 rfl ?_
  refine zr_iconst (v := (0 : Int32)) h d_M_units_79 rfl (by decide) ?_
  obtain ⟨x6_3, ex6_3, hf⟩ := zx_lt_some hf
  refine zr_istore h d_M_units_80 rfl (by decide) ex6_3 rfl ?_
  refine zr_sub [3, 2, 4, 5, 6, 1, 0] rfl ?_
  exact z_M_units_82 h hE hk6 2048 x1_1 x2 x3 x4 x5_2 x6_3 G hf
set_option maxRecDepth 100000 in
set_option maxHeartbeats 4000000 in
theorem z_M_units_37 {κ : zx_K} {ad : Nat → Nat} {r : Int32} {G1 : zx_G} (h : zx_C M_M_units κ ad) (hE : zx_E M_M_units κ ad r G1) {k6 : Int32 → Int32 → Int32 → zx_G → Option (Int32 × zx_G)} (hk6 : ∀ (x1 x2 x3 : Int32) (G : zx_G), k6 x1 x2 x3 G = some (r, G1) → zx_Z κ ad 6 [(0, .ref (ad 32)), (1, .int x1), (2, .int x2), (3, .int x3)] [] G) (x1 x2 x3 s0 : Int32) (G : zx_G) (hf : f_M_units_37 k6 x1 x2 x3 s0 G = some (r, G1)) : zx_Z κ ad 37 [(0, .ref (ad 32)), (1, .int x1), (2, .int x2), (3, .int x3)] [.int s0] G := by
  unfold f_M_units_37 at hf
  obtain ⟨x4_1, ex4_1, hf⟩ := zx_lt_some hf
  refine zr_istore h d_M_units_37 rfl (by decide) ex4_1 rfl ?_
  refine zr_iload h d_M_units_39 rfl 0 rfl ?_
  refine zr_sipush (v := (128 : Int32)) h d_M_units_41 rfl (by decide) ?_
  rcases zx_if_some hf with ⟨hc_2, hf⟩ | ⟨hc_2, hf⟩
  · refine zr_icmp_lt_t (tgt := 56) h d_M_units_44 rfl hc_2 ?_
    refine zr_iload h d_M_units_56 rfl 0 rfl ?_
    refine zr_iconst (v := (4 : Int32)) h d_M_units_58 rfl (by decide) ?_
    refine zr_iand h d_M_units_59 rfl ?_
    rcases zx_if_some hf with ⟨hc_3, hf⟩ | ⟨hc_3, hf⟩
    · refine zr_if_eq_t (tgt := 68) h d_M_units_60 rfl hc_3 ?_
      refine zr_sub [1, 2, 3, 4, 0] rfl ?_
      exact z_M_units_68 h hE hk6 x1 x2 x3 x4_1 G hf
    · refine zr_if_eq_f h 68 d_M_units_60 rfl rfl hc_3 ?_
      refine zr_aload_n h d_M_units_63 rfl rfl 1 rfl ?_
      refine zr_iconst (v := (5 : Int32)) h d_M_units_64 rfl (by decide) ?_
      obtain ⟨r_5, G_4, hq_6, hf⟩ := zx_bd_some hf
      refine zr_callVV (As := [.int (5 : Int32)]) (b := 32) h (c_M_fail _ _ _ _ _ (5 : Int32) G r_5 G_4 hq_6) cc_M_119 d_M_units_65 rfl rfl rfl sh_32 ⟨rfl, rfl, by decide, by decide⟩ (Nat.le_of_ble_eq_true rfl) ?_
      refine zr_sub [1, 2, 3, 4, 0] rfl ?_
      exact z_M_units_68 h hE hk6 x1 x2 x3 x4_1 G_4 hf
  · refine zr_icmp_lt_f h 56 d_M_units_44 rfl rfl hc_2 ?_
    refine zr_aload_n h d_M_units_47 rfl rfl 1 rfl ?_
    refine zr_bipush (v := (7 : Int32)) h d_M_units_48 rfl (by decide) ?_
    obtain ⟨r_8, G_7, hq_9, hf⟩ := zx_bd_some hf
    refine zr_callVV (As := [.int (7 : Int32)]) (b := 32) h (c_M_fail _ _ _ _ _ (7 : Int32) G r_8 G_7 hq_9) cc_M_119 d_M_units_50 rfl rfl rfl sh_32 ⟨rfl, rfl, by decide, by decide⟩ (Nat.le_of_ble_eq_true rfl) ?_
    refine zr_goto (tgt := 68) h d_M_units_53 rfl ?_
    refine zr_sub [1, 2, 3, 4, 0] rfl ?_
    exact z_M_units_68 h hE hk6 x1 x2 x3 x4_1 G_7 hf
set_option maxRecDepth 100000 in
set_option maxHeartbeats 4000000 in
theorem z_M_units_332 {κ : zx_K} {ad : Nat → Nat} {r : Int32} {G1 : zx_G} (h : zx_C M_M_units κ ad) (hE : zx_E M_M_units κ ad r G1) (G : zx_G) (hf : f_M_units_332 G = some (r, G1)) : zx_Z κ ad 332 [] [] G := by
  unfold f_M_units_332 at hf
  exact zr_vret h hE d_M_units_332 rfl hf
set_option maxRecDepth 100000 in
set_option maxHeartbeats 4000000 in
theorem z_M_units_6 {κ : zx_K} {ad : Nat → Nat} {r : Int32} {G1 : zx_G} (h : zx_C M_M_units κ ad) (hE : zx_E M_M_units κ ad r G1) : ∀ (n : Nat) (x1 x2 x3 : Int32) (G : zx_G), f_M_units_6 n x1 x2 x3 G = some (r, G1) → zx_Z κ ad 6 [(0, .ref (ad 32)), (1, .int x1), (2, .int x2), (3, .int x3)] [] G := by
  intro n
  induction n with
  | zero => intro x1 x2 x3 G hf; cases hf
  | succ n ih =>
    intro x1 x2 x3 G hf
    unfold f_M_units_6 at hf
    refine zr_iload_n h d_M_units_6 rfl rfl 3 rfl ?_
    rcases zx_if_some hf with ⟨hc_1, hf⟩ | ⟨hc_1, hf⟩
    · refine zr_if_eq_t (tgt := 332) h d_M_units_7 rfl hc_1 ?_
      refine zr_sub [] rfl ?_
      exact z_M_units_332 h hE G hf
    · refine zr_if_eq_f h 332 d_M_units_7 rfl rfl hc_1 ?_
      refine zr_aload_n h d_M_units_10 rfl rfl 0 rfl ?_
      refine zr_getI h d_M_units_11 rfl fl_M_78 sh_32 rfl ?_
      rcases zx_if_some hf with ⟨hc_2, hf⟩ | ⟨hc_2, hf⟩
      · refine zr_if_ne_t (tgt := 332) h d_M_units_14 rfl hc_2 ?_
        refine zr_sub [] rfl ?_
        exact z_M_units_332 h hE G hf
      · refine zr_if_ne_f h 332 d_M_units_14 rfl rfl hc_2 ?_
        refine zr_iload_n h d_M_units_17 rfl rfl 1 rfl ?_
        refine zr_aload_n h d_M_units_18 rfl rfl 0 rfl ?_
        refine zr_getI h d_M_units_19 rfl fl_M_129 sh_32 rfl ?_
        rcases zx_if_some hf with ⟨hc_3, hf⟩ | ⟨hc_3, hf⟩
        · refine zr_icmp_ge_t (tgt := 34) h d_M_units_22 rfl hc_3 ?_
          refine zr_sipush (v := (255 : Int32)) h d_M_units_34 rfl (by decide) ?_
          exact z_M_units_37 h hE ih x1 x2 x3 (255 : Int32) G hf
        · refine zr_icmp_ge_f h 34 d_M_units_22 rfl rfl hc_3 ?_
          refine zr_aload_n h d_M_units_25 rfl rfl 0 rfl ?_
          refine zr_getR h d_M_units_26 rfl fl_M_28 sh_32 rfl ?_
          refine zr_iload_n h d_M_units_29 rfl rfl 1 rfl ?_
          obtain ⟨hb_4, hf⟩ := zx_gd_some hf
          refine zr_iald h d_M_units_30 rfl sh_39 hb_4 ?_
          refine zr_goto (tgt := 37) h d_M_units_31 rfl ?_
          exact z_M_units_37 h hE ih x1 x2 x3 (G 39 (Int32.toNatClampNeg x1)) G hf
set_option maxRecDepth 100000 in
set_option maxHeartbeats 4000000 in
theorem z_M_units_0 {κ : zx_K} {ad : Nat → Nat} {r : Int32} {G1 : zx_G} (h : zx_C M_M_units κ ad) (hE : zx_E M_M_units κ ad r G1) (G : zx_G) (hf : f_M_units G = some (r, G1)) : zx_Z κ ad 0 [(0, .ref (ad 32))] [] G := by
  unfold f_M_units at hf
  refine zr_iconst (v := (0 : Int32)) h d_M_units_0 rfl (by decide) ?_
  obtain ⟨x1_1, ex1_1, hf⟩ := zx_lt_some hf
  refine zr_istore_n h d_M_units_1 rfl rfl (by decide) ex1_1 rfl ?_
  refine zr_iconst (v := (0 : Int32)) h d_M_units_2 rfl (by decide) ?_
  obtain ⟨x2_2, ex2_2, hf⟩ := zx_lt_some hf
  refine zr_istore_n h d_M_units_3 rfl rfl (by decide) ex2_2 rfl ?_
  refine zr_iconst (v := (1 : Int32)) h d_M_units_4 rfl (by decide) ?_
  obtain ⟨x3_3, ex3_3, hf⟩ := zx_lt_some hf
  refine zr_istore_n h d_M_units_5 rfl rfl (by decide) ex3_3 rfl ?_
  refine zr_sub [3, 2, 1, 0] rfl ?_
  exact z_M_units_6 h hE 2048 x1_1 x2_2 x3_3 G hf
theorem c_M_units (l : Launch) (D : va_G) (cA : ClassId) (ad : Nat → Nat) (A : Nat → Prop) (G : zx_G) (r : Int32) (G1 : zx_G) (hf : f_M_units G = some (r, G1)) : zx_met l y_M_units M_M_units [.ref (ad 32)] D cA ad A G r G1 :=
  zx_toMet (by decide) rfl (Nat.le_of_ble_eq_true rfl) (fun κ h hE => by exact z_M_units_0 h hE G hf)
