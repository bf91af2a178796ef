/-! the methods as functions, and the rows that tie them to the machine; written by a program -/
def f_M_predicted_197 (x4 s0 : Int32) (G : zx_G) : Option (Int32 × zx_G) :=
  zx_lt s0 fun x5_1 =>
  zx_gd (zx_in x4 4) <|
  zx_gd (zx_in x5_1 4) <|
  some (((((G 49 (Int32.toNatClampNeg x4)) + (G 49 (Int32.toNatClampNeg x5_1))) + (1 : Int32)) >>> ((1 : Int32) &&& 31)), G)
def f_M_predicted_179 (x2 x3 s0 : Int32) (G : zx_G) : Option (Int32 × zx_G) :=
  zx_lt s0 fun x4_1 =>
  zx_if ((2 : Int32) ≤ (x2 + x3))
    (f_M_predicted_197 x4_1 (3 : Int32) G)
    (f_M_predicted_197 x4_1 ((x2 + x3) + (1 : Int32)) G)
def f_M_predicted_304 (s0 : Int32) (G : zx_G) : Option (Int32 × zx_G) :=
  some (s0, G)
def f_M_predicted_276 (x4 x5 : Int32) (G : zx_G) : Option (Int32 × zx_G) :=
  zx_bd (f_M_far (G 32 44) x4 G) fun r_2 G_1 =>
  zx_bd (f_M_far x5 x4 G_1) fun r_5 G_4 =>
  zx_if (r_5 ≤ r_2)
    (f_M_predicted_304 x5 G_4)
    (f_M_predicted_304 (G_4 32 44) G_4)
def f_M_predicted (x1 x2 x3 : Int32) (G : zx_G) : Option (Int32 × zx_G) :=
  zx_if (¬ x1 = 0)
    (zx_if (¬ x1 = (1 : Int32))
      (zx_if (¬ x1 = (2 : Int32))
        (zx_if (¬ x1 = (4 : Int32))
          (zx_if (¬ x1 = (5 : Int32))
            (zx_gd (zx_in x2 4) <|
            zx_gd (zx_in x3 4) <|
            zx_lt (((G 49 (Int32.toNatClampNeg x2)) + (G 50 (Int32.toNatClampNeg x3))) - (G 32 44)) fun x4_8 =>
            zx_gd (zx_in x3 4) <|
            zx_lt (G 50 (Int32.toNatClampNeg x3)) fun x5_10 =>
            zx_gd (zx_in x2 4) <|
            zx_bd (f_M_far (G 49 (Int32.toNatClampNeg x2)) x4_8 G) fun r_13 G_12 =>
            zx_bd (f_M_far x5_10 x4_8 G_12) fun r_16 G_15 =>
            zx_if (r_16 ≤ r_13)
              (f_M_predicted_276 x4_8 x5_10 G_15)
              (zx_gd (zx_in x2 4) <|
              zx_lt (G_15 49 (Int32.toNatClampNeg x2)) fun x5_20 =>
              f_M_predicted_276 x4_8 x5_20 G_15))
            (zx_if ((3 : Int32) ≤ (x2 + x3))
              (f_M_predicted_179 x2 x3 (3 : Int32) G)
              (f_M_predicted_179 x2 x3 (x2 + x3) G)))
          (zx_lt ((7 : Int32) - ((2 : Int32) * x3)) fun x4_22 =>
          zx_lt ((7 : Int32) - ((2 : Int32) * x2)) fun x5_23 =>
          zx_gd (zx_in x2 4) <|
          zx_gd (zx_in (3 : Int32) 4) <|
          zx_gd (zx_in x3 4) <|
          zx_gd (zx_in (3 : Int32) 4) <|
          some (((((((x4_22 * (G 49 (Int32.toNatClampNeg x2))) + (((8 : Int32) - x4_22) * (G 50 (Int32.toNatClampNeg (3 : Int32))))) + (x5_23 * (G 50 (Int32.toNatClampNeg x3)))) + (((8 : Int32) - x5_23) * (G 49 (Int32.toNatClampNeg (3 : Int32))))) + (8 : Int32)) >>> ((4 : Int32) &&& 31)), G)))
        (zx_gd (zx_in x3 4) <|
        some ((G 50 (Int32.toNatClampNeg x3)), G)))
      (zx_gd (zx_in x2 4) <|
      some ((G 49 (Int32.toNatClampNeg x2)), G)))
    (zx_gd (zx_in (0 : Int32) 4) <|
    zx_gd (zx_in (1 : Int32) 4) <|
    zx_gd (zx_in (2 : Int32) 4) <|
    zx_gd (zx_in (3 : Int32) 4) <|
    zx_gd (zx_in (0 : Int32) 4) <|
    zx_gd (zx_in (1 : Int32) 4) <|
    zx_gd (zx_in (2 : Int32) 4) <|
    zx_gd (zx_in (3 : Int32) 4) <|
    some (((((((((((G 49 (Int32.toNatClampNeg (0 : Int32))) + (G 49 (Int32.toNatClampNeg (1 : Int32)))) + (G 49 (Int32.toNatClampNeg (2 : Int32)))) + (G 49 (Int32.toNatClampNeg (3 : Int32)))) + (G 50 (Int32.toNatClampNeg (0 : Int32)))) + (G 50 (Int32.toNatClampNeg (1 : Int32)))) + (G 50 (Int32.toNatClampNeg (2 : Int32)))) + (G 50 (Int32.toNatClampNeg (3 : Int32)))) + (4 : Int32)) >>> ((3 : Int32) &&& 31)), G))
set_option maxRecDepth 100000 in
set_option maxHeartbeats 4000000 in
theorem z_M_predicted_197 {κ : zx_K} {ad : Nat → Nat} {r : Int32} {G1 : zx_G} (h : zx_C M_M_predicted κ ad) (hE : zx_E M_M_predicted κ ad r G1) (x4 s0 : Int32) (G : zx_G) (hf : f_M_predicted_197 x4 s0 G = some (r, G1)) : zx_Z κ ad 197 [(0, .ref (ad 32)), (4, .int x4)] [.int s0] G := by
  unfold f_M_predicted_197 at hf
  obtain ⟨x5_1, ex5_1, hf⟩ := zx_lt_some hf
  refine zr_istore h d_M_predicted_197 rfl (by decide) ex5_1 rfl ?_
  refine zr_aload_n h d_M_predicted_199 rfl rfl 1 rfl ?_
  refine zr_getR h d_M_predicted_200 rfl fl_M_58 sh_32 rfl ?_
  refine zr_iload h d_M_predicted_203 rfl 2 rfl ?_
  obtain ⟨hb_2, hf⟩ := zx_gd_some hf
  refine zr_iald h d_M_predicted_205 rfl sh_49 hb_2 ?_
  refine zr_aload_n h d_M_predicted_206 rfl rfl 1 rfl ?_
  refine zr_getR h d_M_predicted_207 rfl fl_M_58 sh_32 rfl ?_
  refine zr_iload h d_M_predicted_210 rfl 0 rfl ?_
  obtain ⟨hb_3, hf⟩ := zx_gd_some hf
  refine zr_iald h d_M_predicted_212 rfl sh_49 hb_3 ?_
  refine zr_iadd h d_M_predicted_213 rfl ?_
  refine zr_iconst (v := (1 : Int32)) h d_M_predicted_214 rfl (by decide) ?_
  refine zr_iadd h d_M_predicted_215 rfl ?_
  refine zr_iconst (v := (1 : Int32)) h d_M_predicted_216 rfl (by decide) ?_
  refine zr_ishr h d_M_predicted_217 rfl ?_
  exact zr_iret h hE d_M_predicted_218 rfl hf
set_option maxRecDepth 100000 in
set_option maxHeartbeats 4000000 in
theorem z_M_predicted_179 {κ : zx_K} {ad : Nat → Nat} {r : Int32} {G1 : zx_G} (h : zx_C M_M_predicted κ ad) (hE : zx_E M_M_predicted κ ad r G1) (x2 x3 s0 : Int32) (G : zx_G) (hf : f_M_predicted_179 x2 x3 s0 G = some (r, G1)) : zx_Z κ ad 179 [(0, .ref (ad 32)), (2, .int x2), (3, .int x3)] [.int s0] G := by
  unfold f_M_predicted_179 at hf
  obtain ⟨x4_1, ex4_1, hf⟩ := zx_lt_some hf
  refine zr_istore h d_M_predicted_179 rfl (by decide) ex4_1 rfl ?_
  refine zr_iload_n h d_M_predicted_181 rfl rfl 2 rfl ?_
  refine zr_iload_n h d_M_predicted_182 rfl rfl 3 rfl ?_
  refine zr_iadd h d_M_predicted_183 rfl ?_
  refine zr_iconst (v := (2 : Int32)) h d_M_predicted_184 rfl (by decide) ?_
  rcases zx_if_some hf with ⟨hc_2, hf⟩ | ⟨hc_2, hf⟩
  · refine zr_icmp_ge_t (tgt := 196) h d_M_predicted_185 rfl hc_2 ?_
    refine zr_iconst (v := (3 : Int32)) h d_M_predicted_196 rfl (by decide) ?_
    refine zr_sub [1, 0] rfl ?_
    exact z_M_predicted_197 h hE x4_1 (3 : Int32) G hf
  · refine zr_icmp_ge_f h 196 d_M_predicted_185 rfl rfl hc_2 ?_
    refine zr_iload_n h d_M_predicted_188 rfl rfl 2 rfl ?_
    refine zr_iload_n h d_M_predicted_189 rfl rfl 3 rfl ?_
    refine zr_iadd h d_M_predicted_190 rfl ?_
    refine zr_iconst (v := (1 : Int32)) h d_M_predicted_191 rfl (by decide) ?_
    refine zr_iadd h d_M_predicted_192 rfl ?_
    refine zr_goto (tgt := 197) h d_M_predicted_193 rfl ?_
    refine zr_sub [1, 0] rfl ?_
    exact z_M_predicted_197 h hE x4_1 ((x2 + x3) + (1 : Int32)) G hf
set_option maxRecDepth 100000 in
set_option maxHeartbeats 4000000 in
theorem z_M_predicted_304 {κ : zx_K} {ad : Nat → Nat} {r : Int32} {G1 : zx_G} (h : zx_C M_M_predicted κ ad) (hE : zx_E M_M_predicted κ ad r G1) (s0 : Int32) (G : zx_G) (hf : f_M_predicted_304 s0 G = some (r, G1)) : zx_Z κ ad 304 [] [.int s0] G := by
  unfold f_M_predicted_304 at hf
  exact zr_iret h hE d_M_predicted_304 rfl hf
set_option maxRecDepth 100000 in
set_option maxHeartbeats 4000000 in
theorem z_M_predicted_276 {κ : zx_K} {ad : Nat → Nat} {r : Int32} {G1 : zx_G} (h : zx_C M_M_predicted κ ad) (hE : zx_E M_M_predicted κ ad r G1) (x4 x5 : Int32) (G : zx_G) (hf : f_M_predicted_276 x4 x5 G = some (r, G1)) : zx_Z κ ad 276 [(0, .ref (ad 32)), (4, .int x4), (5, .int x5)] [] G := by
  unfold f_M_predicted_276 at hf
  refine zr_aload_n h d_M_predicted_276 rfl rfl 0 rfl ?_
  refine zr_getI h d_M_predicted_277 rfl fl_M_248 sh_32 rfl ?_
  refine zr_iload h d_M_predicted_280 rfl 1 rfl ?_
  obtain ⟨r_2, G_1, hq_3, hf⟩ := zx_bd_some hf
  refine zr_callSI (As := [.int (G 32 44), .int x4]) h (c_M_far _ _ _ _ _ (G 32 44) x4 G r_2 G_1 hq_3) cc_M_251 d_M_predicted_282 rfl rfl rfl ⟨rfl, by decide, by decide⟩ (Nat.le_of_ble_eq_true rfl) ?_
  refine zr_iload h d_M_predicted_285 rfl 2 rfl ?_
  refine zr_iload h d_M_predicted_287 rfl 1 rfl ?_
  obtain ⟨r_5, G_4, hq_6, hf⟩ := zx_bd_some hf
  refine zr_callSI (As := [.int x5, .int x4]) h (c_M_far _ _ _ _ _ x5 x4 G_1 r_5 G_4 hq_6) cc_M_251 d_M_predicted_289 rfl rfl rfl ⟨rfl, by decide, by decide⟩ (Nat.le_of_ble_eq_true rfl) ?_
  rcases zx_if_some hf with ⟨hc_7, hf⟩ | ⟨hc_7, hf⟩
  · refine zr_icmp_ge_t (tgt := 302) h d_M_predicted_292 rfl hc_7 ?_
    refine zr_iload h d_M_predicted_302 rfl 2 rfl ?_
    refine zr_sub [] rfl ?_
    exact z_M_predicted_304 h hE x5 G_4 hf
  · refine zr_icmp_ge_f h 302 d_M_predicted_292 rfl rfl hc_7 ?_
    refine zr_aload_n h d_M_predicted_295 rfl rfl 0 rfl ?_
    refine zr_getI h d_M_predicted_296 rfl fl_M_248 sh_32 rfl ?_
    refine zr_goto (tgt := 304) h d_M_predicted_299 rfl ?_
    refine zr_sub [] rfl ?_
    exact z_M_predicted_304 h hE (G_4 32 44) G_4 hf
set_option maxRecDepth 100000 in
set_option maxHeartbeats 4000000 in
theorem z_M_predicted_0 {κ : zx_K} {ad : Nat → Nat} {r : Int32} {G1 : zx_G} (h : zx_C M_M_predicted κ ad) (hE : zx_E M_M_predicted κ ad r G1) (x1 x2 x3 : Int32) (G : zx_G) (hf : f_M_predicted x1 x2 x3 G = some (r, G1)) : zx_Z κ ad 0 [(0, .ref (ad 32)), (1, .int x1), (2, .int x2), (3, .int x3)] [] G := by
  unfold f_M_predicted at hf
  refine zr_iload_n h d_M_predicted_0 rfl rfl 1 rfl ?_
  rcases zx_if_some hf with ⟨hc_1, hf⟩ | ⟨hc_1, hf⟩
  · refine zr_if_ne_t (tgt := 64) h d_M_predicted_1 rfl hc_1 ?_
    refine zr_iload_n h d_M_predicted_64 rfl rfl 1 rfl ?_
    refine zr_iconst (v := (1 : Int32)) h d_M_predicted_65 rfl (by decide) ?_
    rcases zx_if_some hf with ⟨hc_2, hf⟩ | ⟨hc_2, hf⟩
    · refine zr_icmp_ne_t (tgt := 76) h d_M_predicted_66 rfl hc_2 ?_
      refine zr_iload_n h d_M_predicted_76 rfl rfl 1 rfl ?_
      refine zr_iconst (v := (2 : Int32)) h d_M_predicted_77 rfl (by decide) ?_
      rcases zx_if_some hf with ⟨hc_3, hf⟩ | ⟨hc_3, hf⟩
      · refine zr_icmp_ne_t (tgt := 88) h d_M_predicted_78 rfl hc_3 ?_
        refine zr_iload_n h d_M_predicted_88 rfl rfl 1 rfl ?_
        refine zr_iconst (v := (4 : Int32)) h d_M_predicted_89 rfl (by decide) ?_
        rcases zx_if_some hf with ⟨hc_4, hf⟩ | ⟨hc_4, hf⟩
        · refine zr_icmp_ne_t (tgt := 160) h d_M_predicted_90 rfl hc_4 ?_
          refine zr_iload_n h d_M_predicted_160 rfl rfl 1 rfl ?_
          refine zr_iconst (v := (5 : Int32)) h d_M_predicted_161 rfl (by decide) ?_
          rcases zx_if_some hf with ⟨hc_5, hf⟩ | ⟨hc_5, hf⟩
          · refine zr_icmp_ne_t (tgt := 219) h d_M_predicted_162 rfl hc_5 ?_
            refine zr_aload_n h d_M_predicted_219 rfl rfl 0 rfl ?_
            refine zr_getR h d_M_predicted_220 rfl fl_M_58 sh_32 rfl ?_
            refine zr_iload_n h d_M_predicted_223 rfl rfl 2 rfl ?_
            obtain ⟨hb_6, hf⟩ := zx_gd_some hf
            refine zr_iald h d_M_predicted_224 rfl sh_49 hb_6 ?_
            refine zr_aload_n h d_M_predicted_225 rfl rfl 0 rfl ?_
            refine zr_getR h d_M_predicted_226 rfl fl_M_61 sh_32 rfl ?_
            refine zr_iload_n h d_M_predicted_229 rfl rfl 3 rfl ?_
            obtain ⟨hb_7, hf⟩ := zx_gd_some hf
            refine zr_iald h d_M_predicted_230 rfl sh_50 hb_7 ?_
            refine zr_iadd h d_M_predicted_231 rfl ?_
            refine zr_aload_n h d_M_predicted_232 rfl rfl 0 rfl ?_
            refine zr_getI h d_M_predicted_233 rfl fl_M_248 sh_32 rfl ?_
            refine zr_isub h d_M_predicted_236 rfl ?_
            obtain ⟨x4_8, ex4_8, hf⟩ := zx_lt_some hf
            refine zr_istore h d_M_predicted_237 rfl (by decide) ex4_8 rfl ?_
            refine zr_aload_n h d_M_predicted_239 rfl rfl 1 rfl ?_
            refine zr_getR h d_M_predicted_240 rfl fl_M_61 sh_32 rfl ?_
            refine zr_iload_n h d_M_predicted_243 rfl rfl 4 rfl ?_
            obtain ⟨hb_9, hf⟩ := zx_gd_some hf
            refine zr_iald h d_M_predicted_244 rfl sh_50 hb_9 ?_
            obtain ⟨x5_10, ex5_10, hf⟩ := zx_lt_some hf
            refine zr_istore h d_M_predicted_245 rfl (by decide) ex5_10 rfl ?_
            refine zr_aload_n h d_M_predicted_247 rfl rfl 2 rfl ?_
            refine zr_getR h d_M_predicted_248 rfl fl_M_58 sh_32 rfl ?_
            refine zr_iload_n h d_M_predicted_251 rfl rfl 4 rfl ?_
            obtain ⟨hb_11, hf⟩ := zx_gd_some hf
            refine zr_iald h d_M_predicted_252 rfl sh_49 hb_11 ?_
            refine zr_iload h d_M_predicted_253 rfl 1 rfl ?_
            obtain ⟨r_13, G_12, hq_14, hf⟩ := zx_bd_some hf
            refine zr_callSI (As := [.int (G 49 (Int32.toNatClampNeg x2)), .int x4_8]) h (c_M_far _ _ _ _ _ (G 49 (Int32.toNatClampNeg x2)) x4_8 G r_13 G_12 hq_14) cc_M_251 d_M_predicted_255 rfl rfl rfl ⟨rfl, by decide, by decide⟩ (Nat.le_of_ble_eq_true rfl) ?_
            refine zr_iload h d_M_predicted_258 rfl 0 rfl ?_
            refine zr_iload h d_M_predicted_260 rfl 1 rfl ?_
            obtain ⟨r_16, G_15, hq_17, hf⟩ := zx_bd_some hf
            refine zr_callSI (As := [.int x5_10, .int x4_8]) h (c_M_far _ _ _ _ _ x5_10 x4_8 G_12 r_16 G_15 hq_17) cc_M_251 d_M_predicted_262 rfl rfl rfl ⟨rfl, by decide, by decide⟩ (Nat.le_of_ble_eq_true rfl) ?_
            rcases zx_if_some hf with ⟨hc_18, hf⟩ | ⟨hc_18, hf⟩
            · refine zr_icmp_ge_t (tgt := 276) h d_M_predicted_265 rfl hc_18 ?_
              refine zr_sub [2, 1, 0] rfl ?_
              exact z_M_predicted_276 h hE x4_8 x5_10 G_15 hf
            · refine zr_icmp_ge_f h 276 d_M_predicted_265 rfl rfl hc_18 ?_
              refine zr_aload_n h d_M_predicted_268 rfl rfl 2 rfl ?_
              refine zr_getR h d_M_predicted_269 rfl fl_M_58 sh_32 rfl ?_
              refine zr_iload_n h d_M_predicted_272 rfl rfl 4 rfl ?_
              obtain ⟨hb_19, hf⟩ := zx_gd_some hf
              refine zr_iald h d_M_predicted_273 rfl sh_49 hb_19 ?_
              obtain ⟨x5_20, ex5_20, hf⟩ := zx_lt_some hf
              refine zr_istore h d_M_predicted_274 rfl (by decide) ex5_20 rfl ?_
              refine zr_sub [2, 1, 0] rfl ?_
              exact z_M_predicted_276 h hE x4_8 x5_20 G_15 hf
          · refine zr_icmp_ne_f h 219 d_M_predicted_162 rfl rfl hc_5 ?_
            refine zr_iload_n h d_M_predicted_165 rfl rfl 2 rfl ?_
            refine zr_iload_n h d_M_predicted_166 rfl rfl 3 rfl ?_
            refine zr_iadd h d_M_predicted_167 rfl ?_
            refine zr_iconst (v := (3 : Int32)) h d_M_predicted_168 rfl (by decide) ?_
            rcases zx_if_some hf with ⟨hc_21, hf⟩ | ⟨hc_21, hf⟩
            · refine zr_icmp_ge_t (tgt := 178) h d_M_predicted_169 rfl hc_21 ?_
              refine zr_iconst (v := (3 : Int32)) h d_M_predicted_178 rfl (by decide) ?_
              refine zr_sub [0, 2, 3] rfl ?_
              exact z_M_predicted_179 h hE x2 x3 (3 : Int32) G hf
            · refine zr_icmp_ge_f h 178 d_M_predicted_169 rfl rfl hc_21 ?_
              refine zr_iload_n h d_M_predicted_172 rfl rfl 2 rfl ?_
              refine zr_iload_n h d_M_predicted_173 rfl rfl 3 rfl ?_
              refine zr_iadd h d_M_predicted_174 rfl ?_
              refine zr_goto (tgt := 179) h d_M_predicted_175 rfl ?_
              refine zr_sub [0, 2, 3] rfl ?_
              exact z_M_predicted_179 h hE x2 x3 (x2 + x3) G hf
        · refine zr_icmp_ne_f h 160 d_M_predicted_90 rfl rfl hc_4 ?_
          refine zr_bipush (v := (7 : Int32)) h d_M_predicted_93 rfl (by decide) ?_
          refine zr_iconst (v := (2 : Int32)) h d_M_predicted_95 rfl (by decide) ?_
          refine zr_iload_n h d_M_predicted_96 rfl rfl 3 rfl ?_
          refine zr_imul h d_M_predicted_97 rfl ?_
          refine zr_isub h d_M_predicted_98 rfl ?_
          obtain ⟨x4_22, ex4_22, hf⟩ := zx_lt_some hf
          refine zr_istore h d_M_predicted_99 rfl (by decide) ex4_22 rfl ?_
          refine zr_bipush (v := (7 : Int32)) h d_M_predicted_101 rfl (by decide) ?_
          refine zr_iconst (v := (2 : Int32)) h d_M_predicted_103 rfl (by decide) ?_
          refine zr_iload_n h d_M_predicted_104 rfl rfl 3 rfl ?_
          refine zr_imul h d_M_predicted_105 rfl ?_
          refine zr_isub h d_M_predicted_106 rfl ?_
          obtain ⟨x5_23, ex5_23, hf⟩ := zx_lt_some hf
          refine zr_istore h d_M_predicted_107 rfl (by decide) ex5_23 rfl ?_
          refine zr_iload h d_M_predicted_109 rfl 1 rfl ?_
          refine zr_aload_n h d_M_predicted_111 rfl rfl 2 rfl ?_
          refine zr_getR h d_M_predicted_112 rfl fl_M_58 sh_32 rfl ?_
          refine zr_iload_n h d_M_predicted_115 rfl rfl 4 rfl ?_
          obtain ⟨hb_24, hf⟩ := zx_gd_some hf
          refine zr_iald h d_M_predicted_116 rfl sh_49 hb_24 ?_
          refine zr_imul h d_M_predicted_117 rfl ?_
          refine zr_bipush (v := (8 : Int32)) h d_M_predicted_118 rfl (by decide) ?_
          refine zr_iload h d_M_predicted_120 rfl 1 rfl ?_
          refine zr_isub h d_M_predicted_122 rfl ?_
          refine zr_aload_n h d_M_predicted_123 rfl rfl 2 rfl ?_
          refine zr_getR h d_M_predicted_124 rfl fl_M_61 sh_32 rfl ?_
          refine zr_iconst (v := (3 : Int32)) h d_M_predicted_127 rfl (by decide) ?_
          obtain ⟨hb_25, hf⟩ := zx_gd_some hf
          refine zr_iald h d_M_predicted_128 rfl sh_50 hb_25 ?_
          refine zr_imul h d_M_predicted_129 rfl ?_
          refine zr_iadd h d_M_predicted_130 rfl ?_
          refine zr_iload h d_M_predicted_131 rfl 0 rfl ?_
          refine zr_aload_n h d_M_predicted_133 rfl rfl 2 rfl ?_
          refine zr_getR h d_M_predicted_134 rfl fl_M_61 sh_32 rfl ?_
          refine zr_iload_n h d_M_predicted_137 rfl rfl 5 rfl ?_
          obtain ⟨hb_26, hf⟩ := zx_gd_some hf
          refine zr_iald h d_M_predicted_138 rfl sh_50 hb_26 ?_
          refine zr_imul h d_M_predicted_139 rfl ?_
          refine zr_iadd h d_M_predicted_140 rfl ?_
          refine zr_bipush (v := (8 : Int32)) h d_M_predicted_141 rfl (by decide) ?_
          refine zr_iload h d_M_predicted_143 rfl 0 rfl ?_
          refine zr_isub h d_M_predicted_145 rfl ?_
          refine zr_aload_n h d_M_predicted_146 rfl rfl 2 rfl ?_
          refine zr_getR h d_M_predicted_147 rfl fl_M_58 sh_32 rfl ?_
          refine zr_iconst (v := (3 : Int32)) h d_M_predicted_150 rfl (by decide) ?_
          obtain ⟨hb_27, hf⟩ := zx_gd_some hf
          refine zr_iald h d_M_predicted_151 rfl sh_49 hb_27 ?_
          refine zr_imul h d_M_predicted_152 rfl ?_
          refine zr_iadd h d_M_predicted_153 rfl ?_
          refine zr_bipush (v := (8 : Int32)) h d_M_predicted_154 rfl (by decide) ?_
          refine zr_iadd h d_M_predicted_156 rfl ?_
          refine zr_iconst (v := (4 : Int32)) h d_M_predicted_157 rfl (by decide) ?_
          refine zr_ishr h d_M_predicted_158 rfl ?_
          exact zr_iret h hE d_M_predicted_159 rfl hf
      · refine zr_icmp_ne_f h 88 d_M_predicted_78 rfl rfl hc_3 ?_
        refine zr_aload_n h d_M_predicted_81 rfl rfl 0 rfl ?_
        refine zr_getR h d_M_predicted_82 rfl fl_M_61 sh_32 rfl ?_
        refine zr_iload_n h d_M_predicted_85 rfl rfl 3 rfl ?_
        obtain ⟨hb_28, hf⟩ := zx_gd_some hf
        refine zr_iald h d_M_predicted_86 rfl sh_50 hb_28 ?_
        exact zr_iret h hE d_M_predicted_87 rfl hf
    · refine zr_icmp_ne_f h 76 d_M_predicted_66 rfl rfl hc_2 ?_
      refine zr_aload_n h d_M_predicted_69 rfl rfl 0 rfl ?_
      refine zr_getR h d_M_predicted_70 rfl fl_M_58 sh_32 rfl ?_
      refine zr_iload_n h d_M_predicted_73 rfl rfl 2 rfl ?_
      obtain ⟨hb_29, hf⟩ := zx_gd_some hf
      refine zr_iald h d_M_predicted_74 rfl sh_49 hb_29 ?_
      exact zr_iret h hE d_M_predicted_75 rfl hf
  · refine zr_if_ne_f h 64 d_M_predicted_1 rfl rfl hc_1 ?_
    refine zr_aload_n h d_M_predicted_4 rfl rfl 0 rfl ?_
    refine zr_getR h d_M_predicted_5 rfl fl_M_58 sh_32 rfl ?_
    refine zr_iconst (v := (0 : Int32)) h d_M_predicted_8 rfl (by decide) ?_
    obtain ⟨hb_30, hf⟩ := zx_gd_some hf
    refine zr_iald h d_M_predicted_9 rfl sh_49 hb_30 ?_
    refine zr_aload_n h d_M_predicted_10 rfl rfl 0 rfl ?_
    refine zr_getR h d_M_predicted_11 rfl fl_M_58 sh_32 rfl ?_
    refine zr_iconst (v := (1 : Int32)) h d_M_predicted_14 rfl (by decide) ?_
    obtain ⟨hb_31, hf⟩ := zx_gd_some hf
    refine zr_iald h d_M_predicted_15 rfl sh_49 hb_31 ?_
    refine zr_iadd h d_M_predicted_16 rfl ?_
    refine zr_aload_n h d_M_predicted_17 rfl rfl 0 rfl ?_
    refine zr_getR h d_M_predicted_18 rfl fl_M_58 sh_32 rfl ?_
    refine zr_iconst (v := (2 : Int32)) h d_M_predicted_21 rfl (by decide) ?_
    obtain ⟨hb_32, hf⟩ := zx_gd_some hf
    refine zr_iald h d_M_predicted_22 rfl sh_49 hb_32 ?_
    refine zr_iadd h d_M_predicted_23 rfl ?_
    refine zr_aload_n h d_M_predicted_24 rfl rfl 0 rfl ?_
    refine zr_getR h d_M_predicted_25 rfl fl_M_58 sh_32 rfl ?_
    refine zr_iconst (v := (3 : Int32)) h d_M_predicted_28 rfl (by decide) ?_
    obtain ⟨hb_33, hf⟩ := zx_gd_some hf
    refine zr_iald h d_M_predicted_29 rfl sh_49 hb_33 ?_
    refine zr_iadd h d_M_predicted_30 rfl ?_
    refine zr_aload_n h d_M_predicted_31 rfl rfl 0 rfl ?_
    refine zr_getR h d_M_predicted_32 rfl fl_M_61 sh_32 rfl ?_
    refine zr_iconst (v := (0 : Int32)) h d_M_predicted_35 rfl (by decide) ?_
    obtain ⟨hb_34, hf⟩ := zx_gd_some hf
    refine zr_iald h d_M_predicted_36 rfl sh_50 hb_34 ?_
    refine zr_iadd h d_M_predicted_37 rfl ?_
    refine zr_aload_n h d_M_predicted_38 rfl rfl 0 rfl ?_
    refine zr_getR h d_M_predicted_39 rfl fl_M_61 sh_32 rfl ?_
    refine zr_iconst (v := (1 : Int32)) h d_M_predicted_42 rfl (by decide) ?_
    obtain ⟨hb_35, hf⟩ := zx_gd_some hf
    refine zr_iald h d_M_predicted_43 rfl sh_50 hb_35 ?_
    refine zr_iadd h d_M_predicted_44 rfl ?_
    refine zr_aload_n h d_M_predicted_45 rfl rfl 0 rfl ?_
    refine zr_getR h d_M_predicted_46 rfl fl_M_61 sh_32 rfl ?_
    refine zr_iconst (v := (2 : Int32)) h d_M_predicted_49 rfl (by decide) ?_
    obtain ⟨hb_36, hf⟩ := zx_gd_some hf
    refine zr_iald h d_M_predicted_50 rfl sh_50 hb_36 ?_
    refine zr_iadd h d_M_predicted_51 rfl ?_
    refine zr_aload_n h d_M_predicted_52 rfl rfl 0 rfl ?_
    refine zr_getR h d_M_predicted_53 rfl fl_M_61 sh_32 rfl ?_
    refine zr_iconst (v := (3 : Int32)) h d_M_predicted_56 rfl (by decide) ?_
    obtain ⟨hb_37, hf⟩ := zx_gd_some hf
    refine zr_iald h d_M_predicted_57 rfl sh_50 hb_37 ?_
    refine zr_iadd h d_M_predicted_58 rfl ?_
    refine zr_iconst (v := (4 : Int32)) h d_M_predicted_59 rfl (by decide) ?_
    refine zr_iadd h d_M_predicted_60 rfl ?_
    refine zr_iconst (v := (3 : Int32)) h d_M_predicted_61 rfl (by decide) ?_
    refine zr_ishr h d_M_predicted_62 rfl ?_
    exact zr_iret h hE d_M_predicted_63 rfl hf
theorem c_M_predicted (l : Launch) (D : va_G) (cA : ClassId) (ad : Nat → Nat) (A : Nat → Prop) (x1 x2 x3 : Int32) (G : zx_G) (r : Int32) (G1 : zx_G) (hf : f_M_predicted x1 x2 x3 G = some (r, G1)) : zx_met l y_M_predicted M_M_predicted [.ref (ad 32), .int x1, .int x2, .int x3] D cA ad A G r G1 :=
  zx_toMet (by decide) rfl (Nat.le_of_ble_eq_true rfl) (fun κ h hE => by exact z_M_predicted_0 h hE x1 x2 x3 G hf)

def f_M_nextBit_51 (s0 : Int32) (G : zx_G) : Option (Int32 × zx_G) :=
  some (s0, G)
def f_M_nextBit (G : zx_G) : Option (Int32 × zx_G) :=
  zx_lt ((G 32 25) + (G 32 29)) fun x1_1 =>
  zx_lt (zx_up G 32 29 ((G 32 29) + (1 : Int32))) fun G_2 =>
  zx_if ((G_2 32 26) ≤ x1_1)
    (f_M_nextBit_51 (0 : Int32) G_2)
    (zx_gd (zx_nz (8 : Int32)) <|
    zx_gd (zx_in (zx_div x1_1 (8 : Int32)) 200) <|
    zx_gd (zx_nz (8 : Int32)) <|
    f_M_nextBit_51 (((G_2 39 (Int32.toNatClampNeg (zx_div x1_1 (8 : Int32)))) >>> (((7 : Int32) - (zx_rem x1_1 (8 : Int32))) &&& 31)) &&& (1 : Int32)) G_2)
set_option maxRecDepth 100000 in
set_option maxHeartbeats 4000000 in
theorem z_M_nextBit_51 {κ : zx_K} {ad : Nat → Nat} {r : Int32} {G1 : zx_G} (h : zx_C M_M_nextBit κ ad) (hE : zx_E M_M_nextBit κ ad r G1) (s0 : Int32) (G : zx_G) (hf : f_M_nextBit_51 s0 G = some (r, G1)) : zx_Z κ ad 51 [] [.int s0] G := by
  unfold f_M_nextBit_51 at hf
  exact zr_iret h hE d_M_nextBit_51 rfl hf
set_option maxRecDepth 100000 in
set_option maxHeartbeats 4000000 in
theorem z_M_nextBit_0 {κ : zx_K} {ad : Nat → Nat} {r : Int32} {G1 : zx_G} (h : zx_C M_M_nextBit κ ad) (hE : zx_E M_M_nextBit κ ad r G1) (G : zx_G) (hf : f_M_nextBit G = some (r, G1)) : zx_Z κ ad 0 [(0, .ref (ad 32))] [] G := by
  unfold f_M_nextBit at hf
  refine zr_aload_n h d_M_nextBit_0 rfl rfl 0 rfl ?_
  refine zr_getI h d_M_nextBit_1 rfl fl_M_195 sh_32 rfl ?_
  refine zr_aload_n h d_M_nextBit_4 rfl rfl 0 rfl ?_
  refine zr_getI h d_M_nextBit_5 rfl fl_M_201 sh_32 rfl ?_
  refine zr_iadd h d_M_nextBit_8 rfl ?_
  obtain ⟨x1_1, ex1_1, hf⟩ := zx_lt_some hf
  refine zr_istore_n h d_M_nextBit_9 rfl rfl (by decide) ex1_1 rfl ?_
  refine zr_aload_n h d_M_nextBit_10 rfl rfl 1 rfl ?_
  refine zr_dup h d_M_nextBit_11 rfl rfl ?_
  refine zr_getI h d_M_nextBit_12 rfl fl_M_201 sh_32 rfl ?_
  refine zr_iconst (v := (1 : Int32)) h d_M_nextBit_15 rfl (by decide) ?_
  refine zr_iadd h d_M_nextBit_16 rfl ?_
  obtain ⟨G_2, eG_2, hf⟩ := zx_lt_some hf
  refine zr_putI h d_M_nextBit_17 rfl fl_M_201 pl_M_29 sh_32 rfl rfl rfl eG_2 ?_
  refine zr_iload_n h d_M_nextBit_20 rfl rfl 0 rfl ?_
  refine zr_aload_n h d_M_nextBit_21 rfl rfl 1 rfl ?_
  refine zr_getI h d_M_nextBit_22 rfl fl_M_198 sh_32 rfl ?_
  rcases zx_if_some hf with ⟨hc_3, hf⟩ | ⟨hc_3, hf⟩
  · refine zr_icmp_ge_t (tgt := 50) h d_M_nextBit_25 rfl hc_3 ?_
    refine zr_iconst (v := (0 : Int32)) h d_M_nextBit_50 rfl (by decide) ?_
    refine zr_sub [] rfl ?_
    exact z_M_nextBit_51 h hE (0 : Int32) G_2 hf
  · refine zr_icmp_ge_f h 50 d_M_nextBit_25 rfl rfl hc_3 ?_
    refine zr_aload_n h d_M_nextBit_28 rfl rfl 1 rfl ?_
    refine zr_getR h d_M_nextBit_29 rfl fl_M_28 sh_32 rfl ?_
    refine zr_iload_n h d_M_nextBit_32 rfl rfl 0 rfl ?_
    refine zr_bipush (v := (8 : Int32)) h d_M_nextBit_33 rfl (by decide) ?_
    obtain ⟨hb_4, hf⟩ := zx_gd_some hf
    refine zr_idiv h d_M_nextBit_35 rfl (zx_nz_ne hb_4) ?_
    obtain ⟨hb_5, hf⟩ := zx_gd_some hf
    refine zr_iald h d_M_nextBit_36 rfl sh_39 hb_5 ?_
    refine zr_bipush (v := (7 : Int32)) h d_M_nextBit_37 rfl (by decide) ?_
    refine zr_iload_n h d_M_nextBit_39 rfl rfl 0 rfl ?_
    refine zr_bipush (v := (8 : Int32)) h d_M_nextBit_40 rfl (by decide) ?_
    obtain ⟨hb_6, hf⟩ := zx_gd_some hf
    refine zr_irem h d_M_nextBit_42 rfl (zx_nz_ne hb_6) ?_
    refine zr_isub h d_M_nextBit_43 rfl ?_
    refine zr_ishr h d_M_nextBit_44 rfl ?_
    refine zr_iconst (v := (1 : Int32)) h d_M_nextBit_45 rfl (by decide) ?_
    refine zr_iand h d_M_nextBit_46 rfl ?_
    refine zr_goto (tgt := 51) h d_M_nextBit_47 rfl ?_
    refine zr_sub [] rfl ?_
    exact z_M_nextBit_51 h hE (((G_2 39 (Int32.toNatClampNeg (zx_div x1_1 (8 : Int32)))) >>> (((7 : Int32) - (zx_rem x1_1 (8 : Int32))) &&& 31)) &&& (1 : Int32)) G_2 hf
theorem c_M_nextBit (l : Launch) (D : va_G) (cA : ClassId) (ad : Nat → Nat) (A : Nat → Prop) (G : zx_G) (r : Int32) (G1 : zx_G) (hf : f_M_nextBit G = some (r, G1)) : zx_met l y_M_nextBit M_M_nextBit [.ref (ad 32)] D cA ad A G r G1 :=
  zx_toMet (by decide) rfl (Nat.le_of_ble_eq_true rfl) (fun κ h hE => by exact z_M_nextBit_0 h hE G hf)

def f_M_narrow_27 : Nat → zx_G → Option (Int32 × zx_G)
  | 0, _ => none
  | n + 1, G =>
    zx_if ((16384 : Int32) ≤ (G 32 27))
      (some ((0 : Int32), G))
      (zx_lt (zx_up G 32 27 ((2 : Int32) * (G 32 27))) fun G_2 =>
      zx_bd (f_M_nextBit G_2) fun r_4 G_3 =>
      zx_lt (zx_up G_3 32 28 (((2 : Int32) * (G_2 32 28)) + r_4)) fun G_6 =>
      f_M_narrow_27 n G_6)
def f_M_narrow (x1 x2 : Int32) (G : zx_G) : Option (Int32 × zx_G) :=
  zx_lt (zx_up G 32 28 ((G 32 28) - x1)) fun G_1 =>
  zx_lt (zx_up G_1 32 27 (x2 - x1)) fun G_2 =>
  zx_lt (zx_up G_2 32 30 ((G_2 32 30) + (1 : Int32))) fun G_3 =>
  f_M_narrow_27 2048 G_3
set_option maxRecDepth 100000 in
set_option maxHeartbeats 4000000 in
theorem z_M_narrow_27 {κ : zx_K} {ad : Nat → Nat} {r : Int32} {G1 : zx_G} (h : zx_C M_M_narrow κ ad) (hE : zx_E M_M_narrow κ ad r G1) : ∀ (n : Nat) (G : zx_G), f_M_narrow_27 n G = some (r, G1) → zx_Z κ ad 27 [(0, .ref (ad 32))] [] G := by
  intro n
  induction n with
  | zero => intro G hf; cases hf
  | succ n ih =>
    intro G hf
    unfold f_M_narrow_27 at hf
    refine zr_aload_n h d_M_narrow_27 rfl rfl 0 rfl ?_
    refine zr_getI h d_M_narrow_28 rfl fl_M_207 sh_32 rfl ?_
    refine zr_sipush (v := (16384 : Int32)) h d_M_narrow_31 rfl (by decide) ?_
    rcases zx_if_some hf with ⟨hc_1, hf⟩ | ⟨hc_1, hf⟩
    · refine zr_icmp_ge_t (tgt := 65) h d_M_narrow_34 rfl hc_1 ?_
      exact zr_vret h hE d_M_narrow_65 rfl hf
    · refine zr_icmp_ge_f h 65 d_M_narrow_34 rfl rfl hc_1 ?_
      refine zr_aload_n h d_M_narrow_37 rfl rfl 0 rfl ?_
      refine zr_iconst (v := (2 : Int32)) h d_M_narrow_38 rfl (by decide) ?_
      refine zr_aload_n h d_M_narrow_39 rfl rfl 0 rfl ?_
      refine zr_getI h d_M_narrow_40 rfl fl_M_207 sh_32 rfl ?_
      refine zr_imul h d_M_narrow_43 rfl ?_
      obtain ⟨G_2, eG_2, hf⟩ := zx_lt_some hf
      refine zr_putI h d_M_narrow_44 rfl fl_M_207 pl_M_27 sh_32 rfl rfl rfl eG_2 ?_
      refine zr_aload_n h d_M_narrow_47 rfl rfl 0 rfl ?_
      refine zr_iconst (v := (2 : Int32)) h d_M_narrow_48 rfl (by decide) ?_
      refine zr_aload_n h d_M_narrow_49 rfl rfl 0 rfl ?_
      refine zr_getI h d_M_narrow_50 rfl fl_M_204 sh_32 rfl ?_
      refine zr_imul h d_M_narrow_53 rfl ?_
      refine zr_aload_n h d_M_narrow_54 rfl rfl 0 rfl ?_
      obtain ⟨r_4, G_3, hq_5, hf⟩ := zx_bd_some hf
      refine zr_callVI (As := []) (b := 32) h (c_M_nextBit _ _ _ _ _ G_2 r_4 G_3 hq_5) cc_M_213 d_M_narrow_55 rfl rfl rfl sh_32 ⟨rfl, rfl, by decide, by decide⟩ (Nat.le_of_ble_eq_true rfl) ?_
      refine zr_iadd h d_M_narrow_58 rfl ?_
      obtain ⟨G_6, eG_6, hf⟩ := zx_lt_some hf
      refine zr_putI h d_M_narrow_59 rfl fl_M_204 pl_M_28 sh_32 rfl rfl rfl eG_6 ?_
      refine zr_goto (tgt := 27) h d_M_narrow_62 rfl ?_
      exact ih G_6 hf
set_option maxRecDepth 100000 in
set_option maxHeartbeats 4000000 in
theorem z_M_narrow_0 {κ : zx_K} {ad : Nat → Nat} {r : Int32} {G1 : zx_G} (h : zx_C M_M_narrow κ ad) (hE : zx_E M_M_narrow κ ad r G1) (x1 x2 : Int32) (G : zx_G) (hf : f_M_narrow x1 x2 G = some (r, G1)) : zx_Z κ ad 0 [(0, .ref (ad 32)), (1, .int x1), (2, .int x2)] [] G := by
  unfold f_M_narrow at hf
  refine zr_aload_n h d_M_narrow_0 rfl rfl 0 rfl ?_
  refine zr_aload_n h d_M_narrow_1 rfl rfl 0 rfl ?_
  refine zr_getI h d_M_narrow_2 rfl fl_M_204 sh_32 rfl ?_
  refine zr_iload_n h d_M_narrow_5 rfl rfl 1 rfl ?_
  refine zr_isub h d_M_narrow_6 rfl ?_
  obtain ⟨G_1, eG_1, hf⟩ := zx_lt_some hf
  refine zr_putI h d_M_narrow_7 rfl fl_M_204 pl_M_28 sh_32 rfl rfl rfl eG_1 ?_
  refine zr_aload_n h d_M_narrow_10 rfl rfl 0 rfl ?_
  refine zr_iload_n h d_M_narrow_11 rfl rfl 2 rfl ?_
  refine zr_iload_n h d_M_narrow_12 rfl rfl 1 rfl ?_
  refine zr_isub h d_M_narrow_13 rfl ?_
  obtain ⟨G_2, eG_2, hf⟩ := zx_lt_some hf
  refine zr_putI h d_M_narrow_14 rfl fl_M_207 pl_M_27 sh_32 rfl rfl rfl eG_2 ?_
  refine zr_aload_n h d_M_narrow_17 rfl rfl 0 rfl ?_
  refine zr_dup h d_M_narrow_18 rfl rfl ?_
  refine zr_getI h d_M_narrow_19 rfl fl_M_210 sh_32 rfl ?_
  refine zr_iconst (v := (1 : Int32)) h d_M_narrow_22 rfl (by decide) ?_
  refine zr_iadd h d_M_narrow_23 rfl ?_
  obtain ⟨G_3, eG_3, hf⟩ := zx_lt_some hf
  refine zr_putI h d_M_narrow_24 rfl fl_M_210 pl_M_30 sh_32 rfl rfl rfl eG_3 ?_
  refine zr_sub [0] rfl ?_
  exact z_M_narrow_27 h hE 2048 G_3 hf
theorem c_M_narrow (l : Launch) (D : va_G) (cA : ClassId) (ad : Nat → Nat) (A : Nat → Prop) (x1 x2 : Int32) (G : zx_G) (r : Int32) (G1 : zx_G) (hf : f_M_narrow x1 x2 G = some (r, G1)) : zx_met l y_M_narrow M_M_narrow [.ref (ad 32), .int x1, .int x2] D cA ad A G r G1 :=
  zx_toMet (by decide) rfl (Nat.le_of_ble_eq_true rfl) (fun κ h hE => by exact z_M_narrow_0 h hE x1 x2 G hf)

def f_M_bit_55 (s0 : Int32) (G : zx_G) : Option (Int32 × zx_G) :=
  some (s0, G)
def f_M_bit_43 (x2 s1 s2 : Int32) (G : zx_G) : Option (Int32 × zx_G) :=
  zx_bd (f_M_narrow s1 s2 G) fun r_2 G_1 =>
  zx_if (x2 = 0)
    (f_M_bit_55 (0 : Int32) G_1)
    (f_M_bit_55 (1 : Int32) G_1)
def f_M_bit_31 (x1 x2 s1 : Int32) (G : zx_G) : Option (Int32 × zx_G) :=
  zx_if (x2 = 0)
    (f_M_bit_43 x2 s1 x1 G)
    (f_M_bit_43 x2 s1 (G 32 27) G)
def f_M_bit_20 (x1 s0 : Int32) (G : zx_G) : Option (Int32 × zx_G) :=
  zx_lt s0 fun x2_1 =>
  zx_if (x2_1 = 0)
    (f_M_bit_31 x1 x2_1 (0 : Int32) G)
    (f_M_bit_31 x1 x2_1 x1 G)
def f_M_bit (G : zx_G) : Option (Int32 × zx_G) :=
  zx_lt ((G 32 27) >>> ((1 : Int32) &&& 31)) fun x1_1 =>
  zx_if ((G 32 28) < x1_1)
    (f_M_bit_20 x1_1 (0 : Int32) G)
    (f_M_bit_20 x1_1 (1 : Int32) G)
set_option maxRecDepth 100000 in
set_option maxHeartbeats 4000000 in
theorem z_M_bit_55 {κ : zx_K} {ad : Nat → Nat} {r : Int32} {G1 : zx_G} (h : zx_C M_M_bit κ ad) (hE : zx_E M_M_bit κ ad r G1) (s0 : Int32) (G : zx_G) (hf : f_M_bit_55 s0 G = some (r, G1)) : zx_Z κ ad 55 [] [.int s0] G := by
  unfold f_M_bit_55 at hf
  exact zr_iret h hE d_M_bit_55 rfl hf
set_option maxRecDepth 100000 in
set_option maxHeartbeats 4000000 in
theorem z_M_bit_43 {κ : zx_K} {ad : Nat → Nat} {r : Int32} {G1 : zx_G} (h : zx_C M_M_bit κ ad) (hE : zx_E M_M_bit κ ad r G1) (x2 s1 s2 : Int32) (G : zx_G) (hf : f_M_bit_43 x2 s1 s2 G = some (r, G1)) : zx_Z κ ad 43 [(2, .int x2)] [.int s2, .int s1, .ref (ad 32)] G := by
  unfold f_M_bit_43 at hf
  obtain ⟨r_2, G_1, hq_3, hf⟩ := zx_bd_some hf
  refine zr_callVV (As := [.int s1, .int s2]) (b := 32) h (c_M_narrow _ _ _ _ _ s1 s2 G r_2 G_1 hq_3) cc_M_219 d_M_bit_43 rfl rfl rfl sh_32 ⟨rfl, rfl, by decide, by decide⟩ (Nat.le_of_ble_eq_true rfl) ?_
  refine zr_iload_n h d_M_bit_46 rfl rfl 0 rfl ?_
  rcases zx_if_some hf with ⟨hc_4, hf⟩ | ⟨hc_4, hf⟩
  · refine zr_if_eq_t (tgt := 54) h d_M_bit_47 rfl hc_4 ?_
    refine zr_iconst (v := (0 : Int32)) h d_M_bit_54 rfl (by decide) ?_
    refine zr_sub [] rfl ?_
    exact z_M_bit_55 h hE (0 : Int32) G_1 hf
  · refine zr_if_eq_f h 54 d_M_bit_47 rfl rfl hc_4 ?_
    refine zr_iconst (v := (1 : Int32)) h d_M_bit_50 rfl (by decide) ?_
    refine zr_goto (tgt := 55) h d_M_bit_51 rfl ?_
    refine zr_sub [] rfl ?_
    exact z_M_bit_55 h hE (1 : Int32) G_1 hf
set_option maxRecDepth 100000 in
set_option maxHeartbeats 4000000 in
theorem z_M_bit_31 {κ : zx_K} {ad : Nat → Nat} {r : Int32} {G1 : zx_G} (h : zx_C M_M_bit κ ad) (hE : zx_E M_M_bit κ ad r G1) (x1 x2 s1 : Int32) (G : zx_G) (hf : f_M_bit_31 x1 x2 s1 G = some (r, G1)) : zx_Z κ ad 31 [(0, .ref (ad 32)), (1, .int x1), (2, .int x2)] [.int s1, .ref (ad 32)] G := by
  unfold f_M_bit_31 at hf
  refine zr_iload_n h d_M_bit_31 rfl rfl 2 rfl ?_
  rcases zx_if_some hf with ⟨hc_1, hf⟩ | ⟨hc_1, hf⟩
  · refine zr_if_eq_t (tgt := 42) h d_M_bit_32 rfl hc_1 ?_
    refine zr_iload_n h d_M_bit_42 rfl rfl 1 rfl ?_
    refine zr_sub [2] rfl ?_
    exact z_M_bit_43 h hE x2 s1 x1 G hf
  · refine zr_if_eq_f h 42 d_M_bit_32 rfl rfl hc_1 ?_
    refine zr_aload_n h d_M_bit_35 rfl rfl 0 rfl ?_
    refine zr_getI h d_M_bit_36 rfl fl_M_207 sh_32 rfl ?_
    refine zr_goto (tgt := 43) h d_M_bit_39 rfl ?_
    refine zr_sub [2] rfl ?_
    exact z_M_bit_43 h hE x2 s1 (G 32 27) G hf
set_option maxRecDepth 100000 in
set_option maxHeartbeats 4000000 in
theorem z_M_bit_20 {κ : zx_K} {ad : Nat → Nat} {r : Int32} {G1 : zx_G} (h : zx_C M_M_bit κ ad) (hE : zx_E M_M_bit κ ad r G1) (x1 s0 : Int32) (G : zx_G) (hf : f_M_bit_20 x1 s0 G = some (r, G1)) : zx_Z κ ad 20 [(0, .ref (ad 32)), (1, .int x1)] [.int s0] G := by
  unfold f_M_bit_20 at hf
  obtain ⟨x2_1, ex2_1, hf⟩ := zx_lt_some hf
  refine zr_istore_n h d_M_bit_20 rfl rfl (by decide) ex2_1 rfl ?_
  refine zr_aload_n h d_M_bit_21 rfl rfl 1 rfl ?_
  refine zr_iload_n h d_M_bit_22 rfl rfl 0 rfl ?_
  rcases zx_if_some hf with ⟨hc_2, hf⟩ | ⟨hc_2, hf⟩
  · refine zr_if_eq_t (tgt := 30) h d_M_bit_23 rfl hc_2 ?_
    refine zr_iconst (v := (0 : Int32)) h d_M_bit_30 rfl (by decide) ?_
    refine zr_sub [1, 2, 0] rfl ?_
    exact z_M_bit_31 h hE x1 x2_1 (0 : Int32) G hf
  · refine zr_if_eq_f h 30 d_M_bit_23 rfl rfl hc_2 ?_
    refine zr_iload_n h d_M_bit_26 rfl rfl 2 rfl ?_
    refine zr_goto (tgt := 31) h d_M_bit_27 rfl ?_
    refine zr_sub [1, 2, 0] rfl ?_
    exact z_M_bit_31 h hE x1 x2_1 x1 G hf
set_option maxRecDepth 100000 in
set_option maxHeartbeats 4000000 in
theorem z_M_bit_0 {κ : zx_K} {ad : Nat → Nat} {r : Int32} {G1 : zx_G} (h : zx_C M_M_bit κ ad) (hE : zx_E M_M_bit κ ad r G1) (G : zx_G) (hf : f_M_bit G = some (r, G1)) : zx_Z κ ad 0 [(0, .ref (ad 32))] [] G := by
  unfold f_M_bit at hf
  refine zr_aload_n h d_M_bit_0 rfl rfl 0 rfl ?_
  refine zr_getI h d_M_bit_1 rfl fl_M_207 sh_32 rfl ?_
  refine zr_iconst (v := (1 : Int32)) h d_M_bit_4 rfl (by decide) ?_
  refine zr_ishr h d_M_bit_5 rfl ?_
  obtain ⟨x1_1, ex1_1, hf⟩ := zx_lt_some hf
  refine zr_istore_n h d_M_bit_6 rfl rfl (by decide) ex1_1 rfl ?_
  refine zr_aload_n h d_M_bit_7 rfl rfl 1 rfl ?_
  refine zr_getI h d_M_bit_8 rfl fl_M_204 sh_32 rfl ?_
  refine zr_iload_n h d_M_bit_11 rfl rfl 0 rfl ?_
  rcases zx_if_some hf with ⟨hc_2, hf⟩ | ⟨hc_2, hf⟩
  · refine zr_icmp_lt_t (tgt := 19) h d_M_bit_12 rfl hc_2 ?_
    refine zr_iconst (v := (0 : Int32)) h d_M_bit_19 rfl (by decide) ?_
    refine zr_sub [1, 0] rfl ?_
    exact z_M_bit_20 h hE x1_1 (0 : Int32) G hf
  · refine zr_icmp_lt_f h 19 d_M_bit_12 rfl rfl hc_2 ?_
    refine zr_iconst (v := (1 : Int32)) h d_M_bit_15 rfl (by decide) ?_
    refine zr_goto (tgt := 20) h d_M_bit_16 rfl ?_
    refine zr_sub [1, 0] rfl ?_
    exact z_M_bit_20 h hE x1_1 (1 : Int32) G hf
theorem c_M_bit (l : Launch) (D : va_G) (cA : ClassId) (ad : Nat → Nat) (A : Nat → Prop) (G : zx_G) (r : Int32) (G1 : zx_G) (hf : f_M_bit G = some (r, G1)) : zx_met l y_M_bit M_M_bit [.ref (ad 32)] D cA ad A G r G1 :=
  zx_toMet (by decide) rfl (Nat.le_of_ble_eq_true rfl) (fun κ h hE => by exact z_M_bit_0 h hE G hf)

def f_M_fail_16 (s1 : Int32) (G : zx_G) : Option (Int32 × zx_G) :=
  zx_lt (zx_up G 32 10 s1) fun G_1 =>
  some ((0 : Int32), G_1)
def f_M_fail (x1 : Int32) (G : zx_G) : Option (Int32 × zx_G) :=
  zx_if (¬ (G 32 10) = 0)
    (f_M_fail_16 (G 32 10) G)
    (f_M_fail_16 x1 G)
set_option maxRecDepth 100000 in
set_option maxHeartbeats 4000000 in
theorem z_M_fail_16 {κ : zx_K} {ad : Nat → Nat} {r : Int32} {G1 : zx_G} (h : zx_C M_M_fail κ ad) (hE : zx_E M_M_fail κ ad r G1) (s1 : Int32) (G : zx_G) (hf : f_M_fail_16 s1 G = some (r, G1)) : zx_Z κ ad 16 [] [.int s1, .ref (ad 32)] G := by
  unfold f_M_fail_16 at hf
  obtain ⟨G_1, eG_1, hf⟩ := zx_lt_some hf
  refine zr_putI h d_M_fail_16 rfl fl_M_78 pl_M_10 sh_32 rfl rfl rfl eG_1 ?_
  exact zr_vret h hE d_M_fail_19 rfl hf
set_option maxRecDepth 100000 in
set_option maxHeartbeats 4000000 in
theorem z_M_fail_0 {κ : zx_K} {ad : Nat → Nat} {r : Int32} {G1 : zx_G} (h : zx_C M_M_fail κ ad) (hE : zx_E M_M_fail κ ad r G1) (x1 : Int32) (G : zx_G) (hf : f_M_fail x1 G = some (r, G1)) : zx_Z κ ad 0 [(0, .ref (ad 32)), (1, .int x1)] [] G := by
  unfold f_M_fail at hf
  refine zr_aload_n h d_M_fail_0 rfl rfl 0 rfl ?_
  refine zr_aload_n h d_M_fail_1 rfl rfl 0 rfl ?_
  refine zr_getI h d_M_fail_2 rfl fl_M_78 sh_32 rfl ?_
  rcases zx_if_some hf with ⟨hc_1, hf⟩ | ⟨hc_1, hf⟩
  · refine zr_if_ne_t (tgt := 12) h d_M_fail_5 rfl hc_1 ?_
    refine zr_aload_n h d_M_fail_12 rfl rfl 0 rfl ?_
    refine zr_getI h d_M_fail_13 rfl fl_M_78 sh_32 rfl ?_
    refine zr_sub [] rfl ?_
    exact z_M_fail_16 h hE (G 32 10) G hf
  · refine zr_if_ne_f h 12 d_M_fail_5 rfl rfl hc_1 ?_
    refine zr_iload_n h d_M_fail_8 rfl rfl 1 rfl ?_
    refine zr_goto (tgt := 16) h d_M_fail_9 rfl ?_
    refine zr_sub [] rfl ?_
    exact z_M_fail_16 h hE x1 G hf
theorem c_M_fail (l : Launch) (D : va_G) (cA : ClassId) (ad : Nat → Nat) (A : Nat → Prop) (x1 : Int32) (G : zx_G) (r : Int32) (G1 : zx_G) (hf : f_M_fail x1 G = some (r, G1)) : zx_met l y_M_fail M_M_fail [.ref (ad 32), .int x1] D cA ad A G r G1 :=
  zx_toMet (by decide) rfl (Nat.le_of_ble_eq_true rfl) (fun κ h hE => by exact z_M_fail_0 h hE x1 G hf)

def f_M_more_39 : Nat → Int32 → Int32 → Int32 → zx_G → Option (Int32 × zx_G)
  | 0, _, _, _, _ => none
  | n + 1, x1, x2, x3, G =>
    zx_if (x1 ≤ x3)
      (some (((((1 : Int32) <<< (x1 &&& 31)) - (1 : Int32)) + x2), G))
      (zx_bd (f_M_bit G) fun r_3 G_2 =>
      zx_lt (((2 : Int32) * x2) + r_3) fun x2_5 =>
      zx_lt (x3 + (1 : Int32)) fun x3_6 =>
      f_M_more_39 n x1 x2_5 x3_6 G_2)
def f_M_more_21 (x1 : Int32) (G : zx_G) : Option (Int32 × zx_G) :=
  zx_if (¬ x1 = (13 : Int32))
    (zx_lt (0 : Int32) fun x2_2 =>
    zx_lt (0 : Int32) fun x3_3 =>
    f_M_more_39 2048 x1 x2_2 x3_3 G)
    (zx_bd (f_M_fail (8 : Int32) G) fun r_5 G_4 =>
    some ((0 : Int32), G_4))
def f_M_more_2 : Nat → Int32 → zx_G → Option (Int32 × zx_G)
  | 0, _, _ => none
  | n + 1, x1, G =>
    zx_if ((13 : Int32) ≤ x1)
      (f_M_more_21 x1 G)
      (zx_bd (f_M_bit G) fun r_3 G_2 =>
      zx_if (¬ r_3 = 0)
        (f_M_more_21 x1 G_2)
        (zx_lt (x1 + (1 : Int32)) fun x1_6 =>
        f_M_more_2 n x1_6 G_2))
def f_M_more (G : zx_G) : Option (Int32 × zx_G) :=
  zx_lt (0 : Int32) fun x1_1 =>
  f_M_more_2 2048 x1_1 G
set_option maxRecDepth 100000 in
set_option maxHeartbeats 4000000 in
theorem z_M_more_39 {κ : zx_K} {ad : Nat → Nat} {r : Int32} {G1 : zx_G} (h : zx_C M_M_more κ ad) (hE : zx_E M_M_more κ ad r G1) : ∀ (n : Nat) (x1 x2 x3 : Int32) (G : zx_G), f_M_more_39 n x1 x2 x3 G = some (r, G1) → zx_Z κ ad 39 [(0, .ref (ad 32)), (1, .int x1), (2, .int x2), (3, .int x3)] [] G := by
  intro n
  induction n with
  | zero => intro x1 x2 x3 G hf; cases hf
  | succ n ih =>
    intro x1 x2 x3 G hf
    unfold f_M_more_39 at hf
    refine zr_iload_n h d_M_more_39 rfl rfl 3 rfl ?_
    refine zr_iload_n h d_M_more_40 rfl rfl 1 rfl ?_
    rcases zx_if_some hf with ⟨hc_1, hf⟩ | ⟨hc_1, hf⟩
    · refine zr_icmp_ge_t (tgt := 59) h d_M_more_41 rfl hc_1 ?_
      refine zr_iconst (v := (1 : Int32)) h d_M_more_59 rfl (by decide) ?_
      refine zr_iload_n h d_M_more_60 rfl rfl 1 rfl ?_
      refine zr_ishl h d_M_more_61 rfl ?_
      refine zr_iconst (v := (1 : Int32)) h d_M_more_62 rfl (by decide) ?_
      refine zr_isub h d_M_more_63 rfl ?_
      refine zr_iload_n h d_M_more_64 rfl rfl 2 rfl ?_
      refine zr_iadd h d_M_more_65 rfl ?_
      exact zr_iret h hE d_M_more_66 rfl hf
    · refine zr_icmp_ge_f h 59 d_M_more_41 rfl rfl hc_1 ?_
      refine zr_iconst (v := (2 : Int32)) h d_M_more_44 rfl (by decide) ?_
      refine zr_iload_n h d_M_more_45 rfl rfl 2 rfl ?_
      refine zr_imul h d_M_more_46 rfl ?_
      refine zr_aload_n h d_M_more_47 rfl rfl 0 rfl ?_
      obtain ⟨r_3, G_2, hq_4, hf⟩ := zx_bd_some hf
      refine zr_callVI (As := []) (b := 32) h (c_M_bit _ _ _ _ _ G r_3 G_2 hq_4) cc_M_257 d_M_more_48 rfl rfl rfl sh_32 ⟨rfl, rfl, by decide, by decide⟩ (Nat.le_of_ble_eq_true rfl) ?_
      refine zr_iadd h d_M_more_51 rfl ?_
      obtain ⟨x2_5, ex2_5, hf⟩ := zx_lt_some hf
      refine zr_istore_n h d_M_more_52 rfl rfl (by decide) ex2_5 rfl ?_
      obtain ⟨x3_6, ex3_6, hf⟩ := zx_lt_some hf
      refine zr_iinc (j := 3) h d_M_more_53 rfl rfl (by decide) ex3_6 (by decide) rfl ?_
      refine zr_goto (tgt := 39) h d_M_more_56 rfl ?_
      refine zr_sub [2, 3, 1, 0] rfl ?_
      exact ih x1 x2_5 x3_6 G_2 hf
set_option maxRecDepth 100000 in
set_option maxHeartbeats 4000000 in
theorem z_M_more_21 {κ : zx_K} {ad : Nat → Nat} {r : Int32} {G1 : zx_G} (h : zx_C M_M_more κ ad) (hE : zx_E M_M_more κ ad r G1) (x1 : Int32) (G : zx_G) (hf : f_M_more_21 x1 G = some (r, G1)) : zx_Z κ ad 21 [(0, .ref (ad 32)), (1, .int x1)] [] G := by
  unfold f_M_more_21 at hf
  refine zr_iload_n h d_M_more_21 rfl rfl 1 rfl ?_
  refine zr_bipush (v := (13 : Int32)) h d_M_more_22 rfl (by decide) ?_
  rcases zx_if_some hf with ⟨hc_1, hf⟩ | ⟨hc_1, hf⟩
  · refine zr_icmp_ne_t (tgt := 35) h d_M_more_24 rfl hc_1 ?_
    refine zr_iconst (v := (0 : Int32)) h d_M_more_35 rfl (by decide) ?_
    obtain ⟨x2_2, ex2_2, hf⟩ := zx_lt_some hf
    refine zr_istore_n h d_M_more_36 rfl rfl (by decide) ex2_2 rfl ?_
    refine zr_iconst (v := (0 : Int32)) h d_M_more_37 rfl (by decide) ?_
    obtain ⟨x3_3, ex3_3, hf⟩ := zx_lt_some hf
    refine zr_istore_n h d_M_more_38 rfl rfl (by decide) ex3_3 rfl ?_
    refine zr_sub [2, 3, 1, 0] rfl ?_
    exact z_M_more_39 h hE 2048 x1 x2_2 x3_3 G hf
  · refine zr_icmp_ne_f h 35 d_M_more_24 rfl rfl hc_1 ?_
    refine zr_aload_n h d_M_more_27 rfl rfl 0 rfl ?_
    refine zr_bipush (v := (8 : Int32)) h d_M_more_28 rfl (by decide) ?_
    obtain ⟨r_5, G_4, hq_6, hf⟩ := zx_bd_some hf
    refine zr_callVV (As := [.int (8 : Int32)]) (b := 32) h (c_M_fail _ _ _ _ _ (8 : Int32) G r_5 G_4 hq_6) cc_M_119 d_M_more_30 rfl rfl rfl sh_32 ⟨rfl, rfl, by decide, by decide⟩ (Nat.le_of_ble_eq_true rfl) ?_
    refine zr_iconst (v := (0 : Int32)) h d_M_more_33 rfl (by decide) ?_
    exact zr_iret h hE d_M_more_34 rfl hf
set_option maxRecDepth 100000 in
set_option maxHeartbeats 4000000 in
theorem z_M_more_2 {κ : zx_K} {ad : Nat → Nat} {r : Int32} {G1 : zx_G} (h : zx_C M_M_more κ ad) (hE : zx_E M_M_more κ ad r G1) : ∀ (n : Nat) (x1 : Int32) (G : zx_G), f_M_more_2 n x1 G = some (r, G1) → zx_Z κ ad 2 [(0, .ref (ad 32)), (1, .int x1)] [] G := by
  intro n
  induction n with
  | zero => intro x1 G hf; cases hf
  | succ n ih =>
    intro x1 G hf
    unfold f_M_more_2 at hf
    refine zr_iload_n h d_M_more_2 rfl rfl 1 rfl ?_
    refine zr_bipush (v := (13 : Int32)) h d_M_more_3 rfl (by decide) ?_
    rcases zx_if_some hf with ⟨hc_1, hf⟩ | ⟨hc_1, hf⟩
    · refine zr_icmp_ge_t (tgt := 21) h d_M_more_5 rfl hc_1 ?_
      exact z_M_more_21 h hE x1 G hf
    · refine zr_icmp_ge_f h 21 d_M_more_5 rfl rfl hc_1 ?_
      refine zr_aload_n h d_M_more_8 rfl rfl 0 rfl ?_
      obtain ⟨r_3, G_2, hq_4, hf⟩ := zx_bd_some hf
      refine zr_callVI (As := []) (b := 32) h (c_M_bit _ _ _ _ _ G r_3 G_2 hq_4) cc_M_257 d_M_more_9 rfl rfl rfl sh_32 ⟨rfl, rfl, by decide, by decide⟩ (Nat.le_of_ble_eq_true rfl) ?_
      rcases zx_if_some hf with ⟨hc_5, hf⟩ | ⟨hc_5, hf⟩
      · refine zr_if_ne_t (tgt := 21) h d_M_more_12 rfl hc_5 ?_
        exact z_M_more_21 h hE x1 G_2 hf
      · refine zr_if_ne_f h 21 d_M_more_12 rfl rfl hc_5 ?_
        obtain ⟨x1_6, ex1_6, hf⟩ := zx_lt_some hf
        refine zr_iinc (j := 1) h d_M_more_15 rfl rfl (by decide) ex1_6 (by decide) rfl ?_
        refine zr_goto (tgt := 2) h d_M_more_18 rfl ?_
        refine zr_sub [1, 0] rfl ?_
        exact ih x1_6 G_2 hf
set_option maxRecDepth 100000 in
set_option maxHeartbeats 4000000 in
theorem z_M_more_0 {κ : zx_K} {ad : Nat → Nat} {r : Int32} {G1 : zx_G} (h : zx_C M_M_more κ ad) (hE : zx_E M_M_more κ ad r G1) (G : zx_G) (hf : f_M_more G = some (r, G1)) : zx_Z κ ad 0 [(0, .ref (ad 32))] [] G := by
  unfold f_M_more at hf
  refine zr_iconst (v := (0 : Int32)) h d_M_more_0 rfl (by decide) ?_
  obtain ⟨x1_1, ex1_1, hf⟩ := zx_lt_some hf
  refine zr_istore_n h d_M_more_1 rfl rfl (by decide) ex1_1 rfl ?_
  refine zr_sub [1, 0] rfl ?_
  exact z_M_more_2 h hE 2048 x1_1 G hf
theorem c_M_more (l : Launch) (D : va_G) (cA : ClassId) (ad : Nat → Nat) (A : Nat → Prop) (G : zx_G) (r : Int32) (G1 : zx_G) (hf : f_M_more G = some (r, G1)) : zx_met l y_M_more M_M_more [.ref (ad 32)] D cA ad A G r G1 :=
  zx_toMet (by decide) rfl (Nat.le_of_ble_eq_true rfl) (fun κ h hE => by exact z_M_more_0 h hE G hf)

def f_M_symbol_214 (k146 : Int32 → Int32 → Int32 → Int32 → Int32 → zx_G → Option (Int32 × zx_G)) (x1 x2 x3 x5 x6 s1 s2 : Int32) (G : zx_G) : Option (Int32 × zx_G) :=
  zx_gd (zx_in s1 304) <|
  zx_lt (zx_up G 40 (Int32.toNatClampNeg s1) s2) fun G_2 =>
  zx_lt (x6 + (1 : Int32)) fun x6_3 =>
  k146 x1 x2 x3 x5 x6_3 G_2
def f_M_symbol_221 (x3 : Int32) (G : zx_G) : Option (Int32 × zx_G) :=
  some (x3, G)
def f_M_symbol_146 : Nat → Int32 → Int32 → Int32 → Int32 → Int32 → zx_G → Option (Int32 × zx_G)
  | 0, _, _, _, _, _, _ => none
  | n + 1, x1, x2, x3, x5, x6, G =>
    zx_if ((x2 - (1 : Int32)) ≤ x6)
      (f_M_symbol_221 x3 G)
      (zx_if (¬ (G 32 22) = 0)
        (f_M_symbol_221 x3 G)
        (zx_gd (zx_in (((16 : Int32) * x1) + x6) 304) <|
        zx_lt (G 40 (Int32.toNatClampNeg (((16 : Int32) * x1) + x6))) fun x7_4 =>
        zx_if (x6 < x3)
          (f_M_symbol_214 (f_M_symbol_146 n) x1 x2 x3 x5 x6 (((16 : Int32) * x1) + x6) (x7_4 - (x7_4 >>> (x5 &&& 31))) G)
          (f_M_symbol_214 (f_M_symbol_146 n) x1 x2 x3 x5 x6 (((16 : Int32) * x1) + x6) (x7_4 + (((32768 : Int32) - x7_4) >>> (x5 &&& 31))) G)))
def f_M_symbol_130 (x1 x2 x3 s0 s1 : Int32) (G : zx_G) : Option (Int32 × zx_G) :=
  zx_lt (s0 + s1) fun x5_1 =>
  zx_gd (zx_in x1 19) <|
  zx_gd (zx_in x1 19) <|
  zx_lt (zx_up G 41 (Int32.toNatClampNeg x1) ((G 41 (Int32.toNatClampNeg x1)) + (1 : Int32))) fun G_4 =>
  zx_lt (0 : Int32) fun x6_5 =>
  f_M_symbol_146 2048 x1 x2 x3 x5_1 x6_5 G_4
def f_M_symbol_119 (x1 x2 x3 s0 s1 : Int32) (G : zx_G) : Option (Int32 × zx_G) :=
  zx_if (x2 ≤ (4 : Int32))
    (f_M_symbol_130 x1 x2 x3 (s0 + s1) (0 : Int32) G)
    (f_M_symbol_130 x1 x2 x3 (s0 + s1) (1 : Int32) G)
def f_M_symbol_75 (x1 x2 x3 s0 : Int32) (G : zx_G) : Option (Int32 × zx_G) :=
  zx_lt s0 fun x4_1 =>
  zx_gd (zx_in (((16 : Int32) * x1) + x3) 304) <|
  zx_bd (f_M_narrow x4_1 (((G 32 27) * (G 40 (Int32.toNatClampNeg (((16 : Int32) * x1) + x3)))) >>> ((15 : Int32) &&& 31)) G) fun r_4 G_3 =>
  zx_gd (zx_in x1 19) <|
  zx_if ((G_3 41 (Int32.toNatClampNeg x1)) ≤ (15 : Int32))
    (f_M_symbol_119 x1 x2 x3 (4 : Int32) (0 : Int32) G_3)
    (f_M_symbol_119 x1 x2 x3 (4 : Int32) (1 : Int32) G_3)
def f_M_symbol_46 (x1 x2 x3 : Int32) (G : zx_G) : Option (Int32 × zx_G) :=
  zx_if (¬ x3 = 0)
    (zx_gd (zx_in ((((16 : Int32) * x1) + x3) - (1 : Int32)) 304) <|
    f_M_symbol_75 x1 x2 x3 (((G 32 27) * (G 40 (Int32.toNatClampNeg ((((16 : Int32) * x1) + x3) - (1 : Int32))))) >>> ((15 : Int32) &&& 31)) G)
    (f_M_symbol_75 x1 x2 x3 (0 : Int32) G)
def f_M_symbol_7 : Nat → Int32 → Int32 → Int32 → zx_G → Option (Int32 × zx_G)
  | 0, _, _, _, _ => none
  | n + 1, x1, x2, x3, G =>
    zx_if ((x2 - (1 : Int32)) ≤ x3)
      (f_M_symbol_46 x1 x2 x3 G)
      (zx_gd (zx_in (((16 : Int32) * x1) + x3) 304) <|
      zx_if ((G 32 28) < (((G 32 27) * (G 40 (Int32.toNatClampNeg (((16 : Int32) * x1) + x3)))) >>> ((15 : Int32) &&& 31)))
        (f_M_symbol_46 x1 x2 x3 G)
        (zx_lt (x3 + (1 : Int32)) fun x3_4 =>
        f_M_symbol_7 n x1 x2 x3_4 G))
def f_M_symbol (x1 : Int32) (G : zx_G) : Option (Int32 × zx_G) :=
  zx_bd (f_M_tableSize x1 G) fun r_2 G_1 =>
  zx_lt r_2 fun x2_4 =>
  zx_lt (0 : Int32) fun x3_5 =>
  f_M_symbol_7 2048 x1 x2_4 x3_5 G_1
set_option maxRecDepth 100000 in
set_option maxHeartbeats 4000000 in
theorem z_M_symbol_214 {κ : zx_K} {ad : Nat → Nat} {r : Int32} {G1 : zx_G} (h : zx_C M_M_symbol κ ad) (hE : zx_E M_M_symbol κ ad r G1) {k146 : Int32 → Int32 → Int32 → Int32 → Int32 → zx_G → Option (Int32 × zx_G)} (hk146 : ∀ (x1 x2 x3 x5 x6 : Int32) (G : zx_G), k146 x1 x2 x3 x5 x6 G = some (r, G1) → zx_Z κ ad 146 [(0, .ref (ad 32)), (1, .int x1), (2, .int x2), (3, .int x3), (5, .int x5), (6, .int x6)] [] G) (x1 x2 x3 x5 x6 s1 s2 : Int32) (G : zx_G) (hf : f_M_symbol_214 k146 x1 x2 x3 x5 x6 s1 s2 G = some (r, G1)) : zx_Z κ ad 214 [(0, .ref (ad 32)), (1, .int x1), (2, .int x2), (3, .int x3), (5, .int x5), (6, .int x6)] [.int s2, .int s1, .ref (ad 40)] G := by
  unfold f_M_symbol_214 at hf
  obtain ⟨hb_1, hf⟩ := zx_gd_some hf
  obtain ⟨G_2, eG_2, hf⟩ := zx_lt_some hf
  refine zr_iast h d_M_symbol_214 rfl sh_40 hb_1 eG_2 ?_
  obtain ⟨x6_3, ex6_3, hf⟩ := zx_lt_some hf
  refine zr_iinc (j := 5) h d_M_symbol_215 rfl rfl (by decide) ex6_3 (by decide) rfl ?_
  refine zr_goto (tgt := 146) h d_M_symbol_218 rfl ?_
  refine zr_sub [1, 2, 3, 4, 5, 0] rfl ?_
  exact hk146 x1 x2 x3 x5 x6_3 G_2 hf
set_option maxRecDepth 100000 in
set_option maxHeartbeats 4000000 in
theorem z_M_symbol_221 {κ : zx_K} {ad : Nat → Nat} {r : Int32} {G1 : zx_G} (h : zx_C M_M_symbol κ ad) (hE : zx_E M_M_symbol κ ad r G1) (x3 : Int32) (G : zx_G) (hf : f_M_symbol_221 x3 G = some (r, G1)) : zx_Z κ ad 221 [(3, .int x3)] [] G := by
  unfold f_M_symbol_221 at hf
  refine zr_iload_n h d_M_symbol_221 rfl rfl 0 rfl ?_
  exact zr_iret h hE d_M_symbol_222 rfl hf
set_option maxRecDepth 100000 in
set_option maxHeartbeats 4000000 in
theorem z_M_symbol_146 {κ : zx_K} {ad : Nat → Nat} {r : Int32} {G1 : zx_G} (h : zx_C M_M_symbol κ ad) (hE : zx_E M_M_symbol κ ad r G1) : ∀ (n : Nat) (x1 x2 x3 x5 x6 : Int32) (G : zx_G), f_M_symbol_146 n x1 x2 x3 x5 x6 G = some (r, G1) → zx_Z κ ad 146 [(0, .ref (ad 32)), (1, .int x1), (2, .int x2), (3, .int x3), (5, .int x5), (6, .int x6)] [] G := by
  intro n
  induction n with
  | zero => intro x1 x2 x3 x5 x6 G hf; cases hf
  | succ n ih =>
    intro x1 x2 x3 x5 x6 G hf
    unfold f_M_symbol_146 at hf
    refine zr_iload h d_M_symbol_146 rfl 5 rfl ?_
    refine zr_iload_n h d_M_symbol_148 rfl rfl 2 rfl ?_
    refine zr_iconst (v := (1 : Int32)) h d_M_symbol_149 rfl (by decide) ?_
    refine zr_isub h d_M_symbol_150 rfl ?_
    rcases zx_if_some hf with ⟨hc_1, hf⟩ | ⟨hc_1, hf⟩
    · refine zr_icmp_ge_t (tgt := 221) h d_M_symbol_151 rfl hc_1 ?_
      refine zr_sub [3] rfl ?_
      exact z_M_symbol_221 h hE x3 G hf
    · refine zr_icmp_ge_f h 221 d_M_symbol_151 rfl rfl hc_1 ?_
      refine zr_aload_n h d_M_symbol_154 rfl rfl 0 rfl ?_
      refine zr_getI h d_M_symbol_155 rfl fl_M_186 sh_32 rfl ?_
      rcases zx_if_some hf with ⟨hc_2, hf⟩ | ⟨hc_2, hf⟩
      · refine zr_if_ne_t (tgt := 221) h d_M_symbol_158 rfl hc_2 ?_
        refine zr_sub [3] rfl ?_
        exact z_M_symbol_221 h hE x3 G hf
      · refine zr_if_ne_f h 221 d_M_symbol_158 rfl rfl hc_2 ?_
        refine zr_aload_n h d_M_symbol_161 rfl rfl 0 rfl ?_
        refine zr_getR h d_M_symbol_162 rfl fl_M_31 sh_32 rfl ?_
        refine zr_bipush (v := (16 : Int32)) h d_M_symbol_165 rfl (by decide) ?_
        refine zr_iload_n h d_M_symbol_167 rfl rfl 1 rfl ?_
        refine zr_imul h d_M_symbol_168 rfl ?_
        refine zr_iload h d_M_symbol_169 rfl 5 rfl ?_
        refine zr_iadd h d_M_symbol_171 rfl ?_
        obtain ⟨hb_3, hf⟩ := zx_gd_some hf
        refine zr_iald h d_M_symbol_172 rfl sh_40 hb_3 ?_
        obtain ⟨x7_4, ex7_4, hf⟩ := zx_lt_some hf
        refine zr_istore h d_M_symbol_173 rfl (by decide) ex7_4 rfl ?_
        refine zr_aload_n h d_M_symbol_175 rfl rfl 1 rfl ?_
        refine zr_getR h d_M_symbol_176 rfl fl_M_31 sh_32 rfl ?_
        refine zr_bipush (v := (16 : Int32)) h d_M_symbol_179 rfl (by decide) ?_
        refine zr_iload_n h d_M_symbol_181 rfl rfl 2 rfl ?_
        refine zr_imul h d_M_symbol_182 rfl ?_
        refine zr_iload h d_M_symbol_183 rfl 6 rfl ?_
        refine zr_iadd h d_M_symbol_185 rfl ?_
        refine zr_iload h d_M_symbol_186 rfl 6 rfl ?_
        refine zr_iload_n h d_M_symbol_188 rfl rfl 4 rfl ?_
        rcases zx_if_some hf with ⟨hc_5, hf⟩ | ⟨hc_5, hf⟩
        · refine zr_icmp_lt_t (tgt := 206) h d_M_symbol_189 rfl hc_5 ?_
          refine zr_iload h d_M_symbol_206 rfl 0 rfl ?_
          refine zr_iload h d_M_symbol_208 rfl 0 rfl ?_
          refine zr_iload h d_M_symbol_210 rfl 5 rfl ?_
          refine zr_ishr h d_M_symbol_212 rfl ?_
          refine zr_isub h d_M_symbol_213 rfl ?_
          refine zr_sub [1, 2, 3, 4, 5, 6] rfl ?_
          exact z_M_symbol_214 h hE ih x1 x2 x3 x5 x6 (((16 : Int32) * x1) + x6) (x7_4 - (x7_4 >>> (x5 &&& 31))) G hf
        · refine zr_icmp_lt_f h 206 d_M_symbol_189 rfl rfl hc_5 ?_
          refine zr_iload h d_M_symbol_192 rfl 0 rfl ?_
          refine zr_ldc (v := (32768 : Int32)) h d_M_symbol_194 rfl ct_M_222 ?_
          refine zr_iload h d_M_symbol_196 rfl 0 rfl ?_
          refine zr_isub h d_M_symbol_198 rfl ?_
          refine zr_iload h d_M_symbol_199 rfl 5 rfl ?_
          refine zr_ishr h d_M_symbol_201 rfl ?_
          refine zr_iadd h d_M_symbol_202 rfl ?_
          refine zr_goto (tgt := 214) h d_M_symbol_203 rfl ?_
          refine zr_sub [1, 2, 3, 4, 5, 6] rfl ?_
          exact z_M_symbol_214 h hE ih x1 x2 x3 x5 x6 (((16 : Int32) * x1) + x6) (x7_4 + (((32768 : Int32) - x7_4) >>> (x5 &&& 31))) G hf
set_option maxRecDepth 100000 in
set_option maxHeartbeats 4000000 in
theorem z_M_symbol_130 {κ : zx_K} {ad : Nat → Nat} {r : Int32} {G1 : zx_G} (h : zx_C M_M_symbol κ ad) (hE : zx_E M_M_symbol κ ad r G1) (x1 x2 x3 s0 s1 : Int32) (G : zx_G) (hf : f_M_symbol_130 x1 x2 x3 s0 s1 G = some (r, G1)) : zx_Z κ ad 130 [(0, .ref (ad 32)), (1, .int x1), (2, .int x2), (3, .int x3)] [.int s1, .int s0] G := by
  unfold f_M_symbol_130 at hf
  refine zr_iadd h d_M_symbol_130 rfl ?_
  obtain ⟨x5_1, ex5_1, hf⟩ := zx_lt_some hf
  refine zr_istore h d_M_symbol_131 rfl (by decide) ex5_1 rfl ?_
  refine zr_aload_n h d_M_symbol_133 rfl rfl 1 rfl ?_
  refine zr_getR h d_M_symbol_134 rfl fl_M_34 sh_32 rfl ?_
  refine zr_iload_n h d_M_symbol_137 rfl rfl 2 rfl ?_
  refine zr_dup2 h d_M_symbol_138 rfl rfl rfl ?_
  obtain ⟨hb_2, hf⟩ := zx_gd_some hf
  refine zr_iald h d_M_symbol_139 rfl sh_41 hb_2 ?_
  refine zr_iconst (v := (1 : Int32)) h d_M_symbol_140 rfl (by decide) ?_
  refine zr_iadd h d_M_symbol_141 rfl ?_
  obtain ⟨hb_3, hf⟩ := zx_gd_some hf
  obtain ⟨G_4, eG_4, hf⟩ := zx_lt_some hf
  refine zr_iast h d_M_symbol_142 rfl sh_41 hb_3 eG_4 ?_
  refine zr_iconst (v := (0 : Int32)) h d_M_symbol_143 rfl (by decide) ?_
  obtain ⟨x6_5, ex6_5, hf⟩ := zx_lt_some hf
  refine zr_istore h d_M_symbol_144 rfl (by decide) ex6_5 rfl ?_
  refine zr_sub [2, 3, 4, 5, 1, 0] rfl ?_
  exact z_M_symbol_146 h hE 2048 x1 x2 x3 x5_1 x6_5 G_4 hf
set_option maxRecDepth 100000 in
set_option maxHeartbeats 4000000 in
theorem z_M_symbol_119 {κ : zx_K} {ad : Nat → Nat} {r : Int32} {G1 : zx_G} (h : zx_C M_M_symbol κ ad) (hE : zx_E M_M_symbol κ ad r G1) (x1 x2 x3 s0 s1 : Int32) (G : zx_G) (hf : f_M_symbol_119 x1 x2 x3 s0 s1 G = some (r, G1)) : zx_Z κ ad 119 [(0, .ref (ad 32)), (1, .int x1), (2, .int x2), (3, .int x3)] [.int s1, .int s0] G := by
  unfold f_M_symbol_119 at hf
  refine zr_iadd h d_M_symbol_119 rfl ?_
  refine zr_iload_n h d_M_symbol_120 rfl rfl 2 rfl ?_
  refine zr_iconst (v := (4 : Int32)) h d_M_symbol_121 rfl (by decide) ?_
  rcases zx_if_some hf with ⟨hc_1, hf⟩ | ⟨hc_1, hf⟩
  · refine zr_icmp_le_t (tgt := 129) h d_M_symbol_122 rfl hc_1 ?_
    refine zr_iconst (v := (0 : Int32)) h d_M_symbol_129 rfl (by decide) ?_
    exact z_M_symbol_130 h hE x1 x2 x3 (s0 + s1) (0 : Int32) G hf
  · refine zr_icmp_le_f h 129 d_M_symbol_122 rfl rfl hc_1 ?_
    refine zr_iconst (v := (1 : Int32)) h d_M_symbol_125 rfl (by decide) ?_
    refine zr_goto (tgt := 130) h d_M_symbol_126 rfl ?_
    exact z_M_symbol_130 h hE x1 x2 x3 (s0 + s1) (1 : Int32) G hf
set_option maxRecDepth 100000 in
set_option maxHeartbeats 4000000 in
theorem z_M_symbol_75 {κ : zx_K} {ad : Nat → Nat} {r : Int32} {G1 : zx_G} (h : zx_C M_M_symbol κ ad) (hE : zx_E M_M_symbol κ ad r G1) (x1 x2 x3 s0 : Int32) (G : zx_G) (hf : f_M_symbol_75 x1 x2 x3 s0 G = some (r, G1)) : zx_Z κ ad 75 [(0, .ref (ad 32)), (1, .int x1), (2, .int x2), (3, .int x3)] [.int s0] G := by
  unfold f_M_symbol_75 at hf
  obtain ⟨x4_1, ex4_1, hf⟩ := zx_lt_some hf
  refine zr_istore h d_M_symbol_75 rfl (by decide) ex4_1 rfl ?_
  refine zr_aload_n h d_M_symbol_77 rfl rfl 1 rfl ?_
  refine zr_iload h d_M_symbol_78 rfl 0 rfl ?_
  refine zr_aload_n h d_M_symbol_80 rfl rfl 1 rfl ?_
  refine zr_getI h d_M_symbol_81 rfl fl_M_207 sh_32 rfl ?_
  refine zr_aload_n h d_M_symbol_84 rfl rfl 1 rfl ?_
  refine zr_getR h d_M_symbol_85 rfl fl_M_31 sh_32 rfl ?_
  refine zr_bipush (v := (16 : Int32)) h d_M_symbol_88 rfl (by decide) ?_
  refine zr_iload_n h d_M_symbol_90 rfl rfl 2 rfl ?_
  refine zr_imul h d_M_symbol_91 rfl ?_
  refine zr_iload_n h d_M_symbol_92 rfl rfl 4 rfl ?_
  refine zr_iadd h d_M_symbol_93 rfl ?_
  obtain ⟨hb_2, hf⟩ := zx_gd_some hf
  refine zr_iald h d_M_symbol_94 rfl sh_40 hb_2 ?_
  refine zr_imul h d_M_symbol_95 rfl ?_
  refine zr_bipush (v := (15 : Int32)) h d_M_symbol_96 rfl (by decide) ?_
  refine zr_ishr h d_M_symbol_98 rfl ?_
  obtain ⟨r_4, G_3, hq_5, hf⟩ := zx_bd_some hf
  refine zr_callVV (As := [.int x4_1, .int (((G 32 27) * (G 40 (Int32.toNatClampNeg (((16 : Int32) * x1) + x3)))) >>> ((15 : Int32) &&& 31))]) (b := 32) h (c_M_narrow _ _ _ _ _ x4_1 (((G 32 27) * (G 40 (Int32.toNatClampNeg (((16 : Int32) * x1) + x3)))) >>> ((15 : Int32) &&& 31)) G r_4 G_3 hq_5) cc_M_219 d_M_symbol_99 rfl rfl rfl sh_32 ⟨rfl, rfl, by decide, by decide⟩ (Nat.le_of_ble_eq_true rfl) ?_
  refine zr_iconst (v := (4 : Int32)) h d_M_symbol_102 rfl (by decide) ?_
  refine zr_aload_n h d_M_symbol_103 rfl rfl 1 rfl ?_
  refine zr_getR h d_M_symbol_104 rfl fl_M_34 sh_32 rfl ?_
  refine zr_iload_n h d_M_symbol_107 rfl rfl 2 rfl ?_
  obtain ⟨hb_6, hf⟩ := zx_gd_some hf
  refine zr_iald h d_M_symbol_108 rfl sh_41 hb_6 ?_
  refine zr_bipush (v := (15 : Int32)) h d_M_symbol_109 rfl (by decide) ?_
  rcases zx_if_some hf with ⟨hc_7, hf⟩ | ⟨hc_7, hf⟩
  · refine zr_icmp_le_t (tgt := 118) h d_M_symbol_111 rfl hc_7 ?_
    refine zr_iconst (v := (0 : Int32)) h d_M_symbol_118 rfl (by decide) ?_
    refine zr_sub [1, 2, 3, 4] rfl ?_
    exact z_M_symbol_119 h hE x1 x2 x3 (4 : Int32) (0 : Int32) G_3 hf
  · refine zr_icmp_le_f h 118 d_M_symbol_111 rfl rfl hc_7 ?_
    refine zr_iconst (v := (1 : Int32)) h d_M_symbol_114 rfl (by decide) ?_
    refine zr_goto (tgt := 119) h d_M_symbol_115 rfl ?_
    refine zr_sub [1, 2, 3, 4] rfl ?_
    exact z_M_symbol_119 h hE x1 x2 x3 (4 : Int32) (1 : Int32) G_3 hf
set_option maxRecDepth 100000 in
set_option maxHeartbeats 4000000 in
theorem z_M_symbol_46 {κ : zx_K} {ad : Nat → Nat} {r : Int32} {G1 : zx_G} (h : zx_C M_M_symbol κ ad) (hE : zx_E M_M_symbol κ ad r G1) (x1 x2 x3 : Int32) (G : zx_G) (hf : f_M_symbol_46 x1 x2 x3 G = some (r, G1)) : zx_Z κ ad 46 [(0, .ref (ad 32)), (1, .int x1), (2, .int x2), (3, .int x3)] [] G := by
  unfold f_M_symbol_46 at hf
  refine zr_iload_n h d_M_symbol_46 rfl rfl 3 rfl ?_
  rcases zx_if_some hf with ⟨hc_1, hf⟩ | ⟨hc_1, hf⟩
  · refine zr_if_ne_t (tgt := 54) h d_M_symbol_47 rfl hc_1 ?_
    refine zr_aload_n h d_M_symbol_54 rfl rfl 0 rfl ?_
    refine zr_getI h d_M_symbol_55 rfl fl_M_207 sh_32 rfl ?_
    refine zr_aload_n h d_M_symbol_58 rfl rfl 0 rfl ?_
    refine zr_getR h d_M_symbol_59 rfl fl_M_31 sh_32 rfl ?_
    refine zr_bipush (v := (16 : Int32)) h d_M_symbol_62 rfl (by decide) ?_
    refine zr_iload_n h d_M_symbol_64 rfl rfl 1 rfl ?_
    refine zr_imul h d_M_symbol_65 rfl ?_
    refine zr_iload_n h d_M_symbol_66 rfl rfl 3 rfl ?_
    refine zr_iadd h d_M_symbol_67 rfl ?_
    refine zr_iconst (v := (1 : Int32)) h d_M_symbol_68 rfl (by decide) ?_
    refine zr_isub h d_M_symbol_69 rfl ?_
    obtain ⟨hb_2, hf⟩ := zx_gd_some hf
    refine zr_iald h d_M_symbol_70 rfl sh_40 hb_2 ?_
    refine zr_imul h d_M_symbol_71 rfl ?_
    refine zr_bipush (v := (15 : Int32)) h d_M_symbol_72 rfl (by decide) ?_
    refine zr_ishr h d_M_symbol_74 rfl ?_
    exact z_M_symbol_75 h hE x1 x2 x3 (((G 32 27) * (G 40 (Int32.toNatClampNeg ((((16 : Int32) * x1) + x3) - (1 : Int32))))) >>> ((15 : Int32) &&& 31)) G hf
  · refine zr_if_ne_f h 54 d_M_symbol_47 rfl rfl hc_1 ?_
    refine zr_iconst (v := (0 : Int32)) h d_M_symbol_50 rfl (by decide) ?_
    refine zr_goto (tgt := 75) h d_M_symbol_51 rfl ?_
    exact z_M_symbol_75 h hE x1 x2 x3 (0 : Int32) G hf
set_option maxRecDepth 100000 in
set_option maxHeartbeats 4000000 in
theorem z_M_symbol_7 {κ : zx_K} {ad : Nat → Nat} {r : Int32} {G1 : zx_G} (h : zx_C M_M_symbol κ ad) (hE : zx_E M_M_symbol κ ad r G1) : ∀ (n : Nat) (x1 x2 x3 : Int32) (G : zx_G), f_M_symbol_7 n x1 x2 x3 G = some (r, G1) → zx_Z κ ad 7 [(0, .ref (ad 32)), (1, .int x1), (2, .int x2), (3, .int x3)] [] G := by
  intro n
  induction n with
  | zero => intro x1 x2 x3 G hf; cases hf
  | succ n ih =>
    intro x1 x2 x3 G hf
    unfold f_M_symbol_7 at hf
    refine zr_iload_n h d_M_symbol_7 rfl rfl 3 rfl ?_
    refine zr_iload_n h d_M_symbol_8 rfl rfl 2 rfl ?_
    refine zr_iconst (v := (1 : Int32)) h d_M_symbol_9 rfl (by decide) ?_
    refine zr_isub h d_M_symbol_10 rfl ?_
    rcases zx_if_some hf with ⟨hc_1, hf⟩ | ⟨hc_1, hf⟩
    · refine zr_icmp_ge_t (tgt := 46) h d_M_symbol_11 rfl hc_1 ?_
      exact z_M_symbol_46 h hE x1 x2 x3 G hf
    · refine zr_icmp_ge_f h 46 d_M_symbol_11 rfl rfl hc_1 ?_
      refine zr_aload_n h d_M_symbol_14 rfl rfl 0 rfl ?_
      refine zr_getI h d_M_symbol_15 rfl fl_M_204 sh_32 rfl ?_
      refine zr_aload_n h d_M_symbol_18 rfl rfl 0 rfl ?_
      refine zr_getI h d_M_symbol_19 rfl fl_M_207 sh_32 rfl ?_
      refine zr_aload_n h d_M_symbol_22 rfl rfl 0 rfl ?_
      refine zr_getR h d_M_symbol_23 rfl fl_M_31 sh_32 rfl ?_
      refine zr_bipush (v := (16 : Int32)) h d_M_symbol_26 rfl (by decide) ?_
      refine zr_iload_n h d_M_symbol_28 rfl rfl 1 rfl ?_
      refine zr_imul h d_M_symbol_29 rfl ?_
      refine zr_iload_n h d_M_symbol_30 rfl rfl 3 rfl ?_
      refine zr_iadd h d_M_symbol_31 rfl ?_
      obtain ⟨hb_2, hf⟩ := zx_gd_some hf
      refine zr_iald h d_M_symbol_32 rfl sh_40 hb_2 ?_
      refine zr_imul h d_M_symbol_33 rfl ?_
      refine zr_bipush (v := (15 : Int32)) h d_M_symbol_34 rfl (by decide) ?_
      refine zr_ishr h d_M_symbol_36 rfl ?_
      rcases zx_if_some hf with ⟨hc_3, hf⟩ | ⟨hc_3, hf⟩
      · refine zr_icmp_lt_t (tgt := 46) h d_M_symbol_37 rfl hc_3 ?_
        exact z_M_symbol_46 h hE x1 x2 x3 G hf
      · refine zr_icmp_lt_f h 46 d_M_symbol_37 rfl rfl hc_3 ?_
        obtain ⟨x3_4, ex3_4, hf⟩ := zx_lt_some hf
        refine zr_iinc (j := 3) h d_M_symbol_40 rfl rfl (by decide) ex3_4 (by decide) rfl ?_
        refine zr_goto (tgt := 7) h d_M_symbol_43 rfl ?_
        refine zr_sub [1, 2, 3, 0] rfl ?_
        exact ih x1 x2 x3_4 G hf
set_option maxRecDepth 100000 in
set_option maxHeartbeats 4000000 in
theorem z_M_symbol_0 {κ : zx_K} {ad : Nat → Nat} {r : Int32} {G1 : zx_G} (h : zx_C M_M_symbol κ ad) (hE : zx_E M_M_symbol κ ad r G1) (x1 : Int32) (G : zx_G) (hf : f_M_symbol x1 G = some (r, G1)) : zx_Z κ ad 0 [(0, .ref (ad 32)), (1, .int x1)] [] G := by
  unfold f_M_symbol at hf
  refine zr_iload_n h d_M_symbol_0 rfl rfl 1 rfl ?_
  obtain ⟨r_2, G_1, hq_3, hf⟩ := zx_bd_some hf
  refine zr_callSI (As := [.int x1]) h (c_M_tableSize _ _ _ _ _ x1 G r_2 G_1 hq_3) cc_M_216 d_M_symbol_1 rfl rfl rfl ⟨rfl, by decide, by decide⟩ (Nat.le_of_ble_eq_true rfl) ?_
  obtain ⟨x2_4, ex2_4, hf⟩ := zx_lt_some hf
  refine zr_istore_n h d_M_symbol_4 rfl rfl (by decide) ex2_4 rfl ?_
  refine zr_iconst (v := (0 : Int32)) h d_M_symbol_5 rfl (by decide) ?_
  obtain ⟨x3_5, ex3_5, hf⟩ := zx_lt_some hf
  refine zr_istore_n h d_M_symbol_6 rfl rfl (by decide) ex3_5 rfl ?_
  refine zr_sub [2, 3, 1, 0] rfl ?_
  exact z_M_symbol_7 h hE 2048 x1 x2_4 x3_5 G_1 hf
theorem c_M_symbol (l : Launch) (D : va_G) (cA : ClassId) (ad : Nat → Nat) (A : Nat → Prop) (x1 : Int32) (G : zx_G) (r : Int32) (G1 : zx_G) (hf : f_M_symbol x1 G = some (r, G1)) : zx_met l y_M_symbol M_M_symbol [.ref (ad 32), .int x1] D cA ad A G r G1 :=
  zx_toMet (by decide) rfl (Nat.le_of_ble_eq_true rfl) (fun κ h hE => by exact z_M_symbol_0 h hE x1 G hf)

def f_M_turn_260 (k36 : Int32 → Int32 → Int32 → Int32 → Int32 → zx_G → Option (Int32 × zx_G)) (x1 x2 x3 x4 x5 s1 s2 : Int32) (G : zx_G) : Option (Int32 × zx_G) :=
  zx_gd (zx_in s1 16) <|
  zx_lt (zx_up G 47 (Int32.toNatClampNeg s1) s2) fun G_2 =>
  zx_lt (x5 + (1 : Int32)) fun x5_3 =>
  k36 x1 x2 x3 x4 x5_3 G_2
def f_M_turn_219 (k36 : Int32 → Int32 → Int32 → Int32 → Int32 → zx_G → Option (Int32 × zx_G)) (x1 x2 x3 x4 x5 x6 x7 x8 s0 : Int32) (G : zx_G) : Option (Int32 × zx_G) :=
  zx_lt s0 fun x9_1 =>
  zx_if (¬ x3 = 0)
    (zx_bd (f_M_limited x6 x4 G) fun r_4 G_3 =>
    f_M_turn_260 k36 x1 x2 x3 x4 x5 (x1 + (x5 * x2)) r_4 G_3)
    (zx_gd (zx_in (0 : Int32) 4) <|
    f_M_turn_260 k36 x1 x2 x3 x4 x5 (x1 + (x5 * x2)) ((((G 48 (Int32.toNatClampNeg (0 : Int32))) + x7) + x8) + x9_1) G)
def f_M_turn_194 (k36 : Int32 → Int32 → Int32 → Int32 → Int32 → zx_G → Option (Int32 × zx_G)) (x1 x2 x3 x4 x5 x6 x7 s0 : Int32) (G : zx_G) : Option (Int32 × zx_G) :=
  zx_lt s0 fun x8_1 =>
  zx_gd (zx_nz (2 : Int32)) <|
  zx_if (¬ (zx_rem x5 (2 : Int32)) = 0)
    (zx_gd (zx_in (3 : Int32) 4) <|
    f_M_turn_219 k36 x1 x2 x3 x4 x5 x6 x7 x8_1 (-(G 48 (Int32.toNatClampNeg (3 : Int32)))) G)
    (zx_gd (zx_in (3 : Int32) 4) <|
    f_M_turn_219 k36 x1 x2 x3 x4 x5 x6 x7 x8_1 (G 48 (Int32.toNatClampNeg (3 : Int32))) G)
def f_M_turn_178 (k36 : Int32 → Int32 → Int32 → Int32 → Int32 → zx_G → Option (Int32 × zx_G)) (x1 x2 x3 x4 x5 x6 x7 : Int32) (G : zx_G) : Option (Int32 × zx_G) :=
  zx_gd (zx_in (2 : Int32) 4) <|
  f_M_turn_194 k36 x1 x2 x3 x4 x5 x6 x7 (G 48 (Int32.toNatClampNeg (2 : Int32))) G
def f_M_turn_165 (k36 : Int32 → Int32 → Int32 → Int32 → Int32 → zx_G → Option (Int32 × zx_G)) (x1 x2 x3 x4 x5 x6 s0 : Int32) (G : zx_G) : Option (Int32 × zx_G) :=
  zx_lt s0 fun x7_1 =>
  zx_if (x5 = 0)
    (f_M_turn_178 k36 x1 x2 x3 x4 x5 x6 x7_1 G)
    (zx_if (¬ x5 = (3 : Int32))
      (zx_gd (zx_in (2 : Int32) 4) <|
      f_M_turn_194 k36 x1 x2 x3 x4 x5 x6 x7_1 (-(G 48 (Int32.toNatClampNeg (2 : Int32)))) G)
      (f_M_turn_178 k36 x1 x2 x3 x4 x5 x6 x7_1 G))
def f_M_turn_134 (k36 : Int32 → Int32 → Int32 → Int32 → Int32 → zx_G → Option (Int32 × zx_G)) (x1 x2 x3 x4 x5 s0 : Int32) (G : zx_G) : Option (Int32 × zx_G) :=
  zx_lt ((s0 + (2048 : Int32)) >>> ((12 : Int32) &&& 31)) fun x6_1 =>
  zx_if ((2 : Int32) ≤ x5)
    (zx_gd (zx_in (1 : Int32) 4) <|
    f_M_turn_165 k36 x1 x2 x3 x4 x5 x6_1 (-(G 48 (Int32.toNatClampNeg (1 : Int32)))) G)
    (zx_gd (zx_in (1 : Int32) 4) <|
    f_M_turn_165 k36 x1 x2 x3 x4 x5 x6_1 (G 48 (Int32.toNatClampNeg (1 : Int32))) G)
def f_M_turn_36 : Nat → Int32 → Int32 → Int32 → Int32 → Int32 → zx_G → Option (Int32 × zx_G)
  | 0, _, _, _, _, _, _ => none
  | n + 1, x1, x2, x3, x4, x5, G =>
    zx_if ((4 : Int32) ≤ x5)
      (some ((0 : Int32), G))
      (zx_if (¬ x3 = (1 : Int32))
        (zx_gd (zx_in ((4 : Int32) * x5) 16) <|
        zx_gd (zx_in (0 : Int32) 4) <|
        zx_gd (zx_in (((4 : Int32) * x5) + (1 : Int32)) 16) <|
        zx_gd (zx_in (1 : Int32) 4) <|
        zx_gd (zx_in (((4 : Int32) * x5) + (2 : Int32)) 16) <|
        zx_gd (zx_in (2 : Int32) 4) <|
        zx_gd (zx_in (((4 : Int32) * x5) + (3 : Int32)) 16) <|
        zx_gd (zx_in (3 : Int32) 4) <|
        f_M_turn_134 (f_M_turn_36 n) x1 x2 x3 x4 x5 (((((G 52 (Int32.toNatClampNeg ((4 : Int32) * x5))) * (G 48 (Int32.toNatClampNeg (0 : Int32)))) + ((G 52 (Int32.toNatClampNeg (((4 : Int32) * x5) + (1 : Int32)))) * (G 48 (Int32.toNatClampNeg (1 : Int32))))) + ((G 52 (Int32.toNatClampNeg (((4 : Int32) * x5) + (2 : Int32)))) * (G 48 (Int32.toNatClampNeg (2 : Int32))))) + ((G 52 (Int32.toNatClampNeg (((4 : Int32) * x5) + (3 : Int32)))) * (G 48 (Int32.toNatClampNeg (3 : Int32))))) G)
        (zx_gd (zx_in x5 4) <|
        f_M_turn_134 (f_M_turn_36 n) x1 x2 x3 x4 x5 ((5793 : Int32) * (G 48 (Int32.toNatClampNeg x5))) G))
def f_M_turn_3 : Nat → Int32 → Int32 → Int32 → Int32 → Int32 → zx_G → Option (Int32 × zx_G)
  | 0, _, _, _, _, _, _ => none
  | n + 1, x1, x2, x3, x4, x5, G =>
    zx_if ((4 : Int32) ≤ x5)
      (zx_lt (0 : Int32) fun x5_2 =>
      f_M_turn_36 2048 x1 x2 x3 x4 x5_2 G)
      (zx_gd (zx_in (x1 + (x5 * x2)) 16) <|
      zx_gd (zx_in x5 4) <|
      zx_lt (zx_up G 48 (Int32.toNatClampNeg x5) (G 47 (Int32.toNatClampNeg (x1 + (x5 * x2))))) fun G_5 =>
      zx_lt (x5 + (1 : Int32)) fun x5_6 =>
      f_M_turn_3 n x1 x2 x3 x4 x5_6 G_5)
def f_M_turn (x1 x2 x3 x4 : Int32) (G : zx_G) : Option (Int32 × zx_G) :=
  zx_lt (0 : Int32) fun x5_1 =>
  f_M_turn_3 2048 x1 x2 x3 x4 x5_1 G
set_option maxRecDepth 100000 in
set_option maxHeartbeats 4000000 in
theorem z_M_turn_260 {κ : zx_K} {ad : Nat → Nat} {r : Int32} {G1 : zx_G} (h : zx_C M_M_turn κ ad) (hE : zx_E M_M_turn κ ad r G1) {k36 : Int32 → Int32 → Int32 → Int32 → Int32 → zx_G → Option (Int32 × zx_G)} (hk36 : ∀ (x1 x2 x3 x4 x5 : Int32) (G : zx_G), k36 x1 x2 x3 x4 x5 G = some (r, G1) → zx_Z κ ad 36 [(0, .ref (ad 32)), (1, .int x1), (2, .int x2), (3, .int x3), (4, .int x4), (5, .int x5)] [] G) (x1 x2 x3 x4 x5 s1 s2 : Int32) (G : zx_G) (hf : f_M_turn_260 k36 x1 x2 x3 x4 x5 s1 s2 G = some (r, G1)) : zx_Z κ ad 260 [(0, .ref (ad 32)), (1, .int x1), (2, .int x2), (3, .int x3), (4, .int x4), (5, .int x5)] [.int s2, .int s1, .ref (ad 47)] G := by
  unfold f_M_turn_260 at hf
  obtain ⟨hb_1, hf⟩ := zx_gd_some hf
  obtain ⟨G_2, eG_2, hf⟩ := zx_lt_some hf
  refine zr_iast h d_M_turn_260 rfl sh_47 hb_1 eG_2 ?_
  obtain ⟨x5_3, ex5_3, hf⟩ := zx_lt_some hf
  refine zr_iinc (j := 5) h d_M_turn_261 rfl rfl (by decide) ex5_3 (by decide) rfl ?_
  refine zr_goto (tgt := 36) h d_M_turn_264 rfl ?_
  refine zr_sub [1, 2, 3, 4, 5, 0] rfl ?_
  exact hk36 x1 x2 x3 x4 x5_3 G_2 hf
set_option maxRecDepth 100000 in
set_option maxHeartbeats 4000000 in
theorem z_M_turn_219 {κ : zx_K} {ad : Nat → Nat} {r : Int32} {G1 : zx_G} (h : zx_C M_M_turn κ ad) (hE : zx_E M_M_turn κ ad r G1) {k36 : Int32 → Int32 → Int32 → Int32 → Int32 → zx_G → Option (Int32 × zx_G)} (hk36 : ∀ (x1 x2 x3 x4 x5 : Int32) (G : zx_G), k36 x1 x2 x3 x4 x5 G = some (r, G1) → zx_Z κ ad 36 [(0, .ref (ad 32)), (1, .int x1), (2, .int x2), (3, .int x3), (4, .int x4), (5, .int x5)] [] G) (x1 x2 x3 x4 x5 x6 x7 x8 s0 : Int32) (G : zx_G) (hf : f_M_turn_219 k36 x1 x2 x3 x4 x5 x6 x7 x8 s0 G = some (r, G1)) : zx_Z κ ad 219 [(0, .ref (ad 32)), (1, .int x1), (2, .int x2), (3, .int x3), (4, .int x4), (5, .int x5), (6, .int x6), (7, .int x7), (8, .int x8)] [.int s0] G := by
  unfold f_M_turn_219 at hf
  obtain ⟨x9_1, ex9_1, hf⟩ := zx_lt_some hf
  refine zr_istore h d_M_turn_219 rfl (by decide) ex9_1 rfl ?_
  refine zr_aload_n h d_M_turn_221 rfl rfl 1 rfl ?_
  refine zr_getR h d_M_turn_222 rfl fl_M_52 sh_32 rfl ?_
  refine zr_iload_n h d_M_turn_225 rfl rfl 2 rfl ?_
  refine zr_iload h d_M_turn_226 rfl 6 rfl ?_
  refine zr_iload_n h d_M_turn_228 rfl rfl 3 rfl ?_
  refine zr_imul h d_M_turn_229 rfl ?_
  refine zr_iadd h d_M_turn_230 rfl ?_
  refine zr_iload_n h d_M_turn_231 rfl rfl 4 rfl ?_
  rcases zx_if_some hf with ⟨hc_2, hf⟩ | ⟨hc_2, hf⟩
  · refine zr_if_ne_t (tgt := 253) h d_M_turn_232 rfl hc_2 ?_
    refine zr_iload h d_M_turn_253 rfl 7 rfl ?_
    refine zr_iload h d_M_turn_255 rfl 5 rfl ?_
    obtain ⟨r_4, G_3, hq_5, hf⟩ := zx_bd_some hf
    refine zr_callSI (As := [.int x6, .int x4]) h (c_M_limited _ _ _ _ _ x6 x4 G r_4 G_3 hq_5) cc_M_260 d_M_turn_257 rfl rfl rfl ⟨rfl, by decide, by decide⟩ (Nat.le_of_ble_eq_true rfl) ?_
    refine zr_sub [1, 2, 3, 4, 5, 6] rfl ?_
    exact z_M_turn_260 h hE hk36 x1 x2 x3 x4 x5 (x1 + (x5 * x2)) r_4 G_3 hf
  · refine zr_if_ne_f h 253 d_M_turn_232 rfl rfl hc_2 ?_
    refine zr_aload_n h d_M_turn_235 rfl rfl 1 rfl ?_
    refine zr_getR h d_M_turn_236 rfl fl_M_55 sh_32 rfl ?_
    refine zr_iconst (v := (0 : Int32)) h d_M_turn_239 rfl (by decide) ?_
    obtain ⟨hb_6, hf⟩ := zx_gd_some hf
    refine zr_iald h d_M_turn_240 rfl sh_48 hb_6 ?_
    refine zr_iload h d_M_turn_241 rfl 8 rfl ?_
    refine zr_iadd h d_M_turn_243 rfl ?_
    refine zr_iload h d_M_turn_244 rfl 9 rfl ?_
    refine zr_iadd h d_M_turn_246 rfl ?_
    refine zr_iload h d_M_turn_247 rfl 0 rfl ?_
    refine zr_iadd h d_M_turn_249 rfl ?_
    refine zr_goto (tgt := 260) h d_M_turn_250 rfl ?_
    refine zr_sub [1, 2, 3, 4, 5, 6] rfl ?_
    exact z_M_turn_260 h hE hk36 x1 x2 x3 x4 x5 (x1 + (x5 * x2)) ((((G 48 (Int32.toNatClampNeg (0 : Int32))) + x7) + x8) + x9_1) G hf
set_option maxRecDepth 100000 in
set_option maxHeartbeats 4000000 in
theorem z_M_turn_194 {κ : zx_K} {ad : Nat → Nat} {r : Int32} {G1 : zx_G} (h : zx_C M_M_turn κ ad) (hE : zx_E M_M_turn κ ad r G1) {k36 : Int32 → Int32 → Int32 → Int32 → Int32 → zx_G → Option (Int32 × zx_G)} (hk36 : ∀ (x1 x2 x3 x4 x5 : Int32) (G : zx_G), k36 x1 x2 x3 x4 x5 G = some (r, G1) → zx_Z κ ad 36 [(0, .ref (ad 32)), (1, .int x1), (2, .int x2), (3, .int x3), (4, .int x4), (5, .int x5)] [] G) (x1 x2 x3 x4 x5 x6 x7 s0 : Int32) (G : zx_G) (hf : f_M_turn_194 k36 x1 x2 x3 x4 x5 x6 x7 s0 G = some (r, G1)) : zx_Z κ ad 194 [(0, .ref (ad 32)), (1, .int x1), (2, .int x2), (3, .int x3), (4, .int x4), (5, .int x5), (6, .int x6), (7, .int x7)] [.int s0] G := by
  unfold f_M_turn_194 at hf
  obtain ⟨x8_1, ex8_1, hf⟩ := zx_lt_some hf
  refine zr_istore h d_M_turn_194 rfl (by decide) ex8_1 rfl ?_
  refine zr_iload h d_M_turn_196 rfl 6 rfl ?_
  refine zr_iconst (v := (2 : Int32)) h d_M_turn_198 rfl (by decide) ?_
  obtain ⟨hb_2, hf⟩ := zx_gd_some hf
  refine zr_irem h d_M_turn_199 rfl (zx_nz_ne hb_2) ?_
  rcases zx_if_some hf with ⟨hc_3, hf⟩ | ⟨hc_3, hf⟩
  · refine zr_if_ne_t (tgt := 212) h d_M_turn_200 rfl hc_3 ?_
    refine zr_aload_n h d_M_turn_212 rfl rfl 1 rfl ?_
    refine zr_getR h d_M_turn_213 rfl fl_M_55 sh_32 rfl ?_
    refine zr_iconst (v := (3 : Int32)) h d_M_turn_216 rfl (by decide) ?_
    obtain ⟨hb_4, hf⟩ := zx_gd_some hf
    refine zr_iald h d_M_turn_217 rfl sh_48 hb_4 ?_
    refine zr_ineg h d_M_turn_218 rfl ?_
    refine zr_sub [1, 2, 3, 4, 5, 6, 7, 8, 0] rfl ?_
    exact z_M_turn_219 h hE hk36 x1 x2 x3 x4 x5 x6 x7 x8_1 (-(G 48 (Int32.toNatClampNeg (3 : Int32)))) G hf
  · refine zr_if_ne_f h 212 d_M_turn_200 rfl rfl hc_3 ?_
    refine zr_aload_n h d_M_turn_203 rfl rfl 1 rfl ?_
    refine zr_getR h d_M_turn_204 rfl fl_M_55 sh_32 rfl ?_
    refine zr_iconst (v := (3 : Int32)) h d_M_turn_207 rfl (by decide) ?_
    obtain ⟨hb_5, hf⟩ := zx_gd_some hf
    refine zr_iald h d_M_turn_208 rfl sh_48 hb_5 ?_
    refine zr_goto (tgt := 219) h d_M_turn_209 rfl ?_
    refine zr_sub [1, 2, 3, 4, 5, 6, 7, 8, 0] rfl ?_
    exact z_M_turn_219 h hE hk36 x1 x2 x3 x4 x5 x6 x7 x8_1 (G 48 (Int32.toNatClampNeg (3 : Int32))) G hf
set_option maxRecDepth 100000 in
set_option maxHeartbeats 4000000 in
theorem z_M_turn_178 {κ : zx_K} {ad : Nat → Nat} {r : Int32} {G1 : zx_G} (h : zx_C M_M_turn κ ad) (hE : zx_E M_M_turn κ ad r G1) {k36 : Int32 → Int32 → Int32 → Int32 → Int32 → zx_G → Option (Int32 × zx_G)} (hk36 : ∀ (x1 x2 x3 x4 x5 : Int32) (G : zx_G), k36 x1 x2 x3 x4 x5 G = some (r, G1) → zx_Z κ ad 36 [(0, .ref (ad 32)), (1, .int x1), (2, .int x2), (3, .int x3), (4, .int x4), (5, .int x5)] [] G) (x1 x2 x3 x4 x5 x6 x7 : Int32) (G : zx_G) (hf : f_M_turn_178 k36 x1 x2 x3 x4 x5 x6 x7 G = some (r, G1)) : zx_Z κ ad 178 [(0, .ref (ad 32)), (1, .int x1), (2, .int x2), (3, .int x3), (4, .int x4), (5, .int x5), (6, .int x6), (7, .int x7)] [] G := by
  unfold f_M_turn_178 at hf
  refine zr_aload_n h d_M_turn_178 rfl rfl 0 rfl ?_
  refine zr_getR h d_M_turn_179 rfl fl_M_55 sh_32 rfl ?_
  refine zr_iconst (v := (2 : Int32)) h d_M_turn_182 rfl (by decide) ?_
  obtain ⟨hb_1, hf⟩ := zx_gd_some hf
  refine zr_iald h d_M_turn_183 rfl sh_48 hb_1 ?_
  refine zr_goto (tgt := 194) h d_M_turn_184 rfl ?_
  exact z_M_turn_194 h hE hk36 x1 x2 x3 x4 x5 x6 x7 (G 48 (Int32.toNatClampNeg (2 : Int32))) G hf
set_option maxRecDepth 100000 in
set_option maxHeartbeats 4000000 in
theorem z_M_turn_165 {κ : zx_K} {ad : Nat → Nat} {r : Int32} {G1 : zx_G} (h : zx_C M_M_turn κ ad) (hE : zx_E M_M_turn κ ad r G1) {k36 : Int32 → Int32 → Int32 → Int32 → Int32 → zx_G → Option (Int32 × zx_G)} (hk36 : ∀ (x1 x2 x3 x4 x5 : Int32) (G : zx_G), k36 x1 x2 x3 x4 x5 G = some (r, G1) → zx_Z κ ad 36 [(0, .ref (ad 32)), (1, .int x1), (2, .int x2), (3, .int x3), (4, .int x4), (5, .int x5)] [] G) (x1 x2 x3 x4 x5 x6 s0 : Int32) (G : zx_G) (hf : f_M_turn_165 k36 x1 x2 x3 x4 x5 x6 s0 G = some (r, G1)) : zx_Z κ ad 165 [(0, .ref (ad 32)), (1, .int x1), (2, .int x2), (3, .int x3), (4, .int x4), (5, .int x5), (6, .int x6)] [.int s0] G := by
  unfold f_M_turn_165 at hf
  obtain ⟨x7_1, ex7_1, hf⟩ := zx_lt_some hf
  refine zr_istore h d_M_turn_165 rfl (by decide) ex7_1 rfl ?_
  refine zr_iload h d_M_turn_167 rfl 6 rfl ?_
  rcases zx_if_some hf with ⟨hc_2, hf⟩ | ⟨hc_2, hf⟩
  · refine zr_if_eq_t (tgt := 178) h d_M_turn_169 rfl hc_2 ?_
    refine zr_sub [1, 2, 3, 4, 5, 6, 7, 0] rfl ?_
    exact z_M_turn_178 h hE hk36 x1 x2 x3 x4 x5 x6 x7_1 G hf
  · refine zr_if_eq_f h 178 d_M_turn_169 rfl rfl hc_2 ?_
    refine zr_iload h d_M_turn_172 rfl 6 rfl ?_
    refine zr_iconst (v := (3 : Int32)) h d_M_turn_174 rfl (by decide) ?_
    rcases zx_if_some hf with ⟨hc_3, hf⟩ | ⟨hc_3, hf⟩
    · refine zr_icmp_ne_t (tgt := 187) h d_M_turn_175 rfl hc_3 ?_
      refine zr_aload_n h d_M_turn_187 rfl rfl 1 rfl ?_
      refine zr_getR h d_M_turn_188 rfl fl_M_55 sh_32 rfl ?_
      refine zr_iconst (v := (2 : Int32)) h d_M_turn_191 rfl (by decide) ?_
      obtain ⟨hb_4, hf⟩ := zx_gd_some hf
      refine zr_iald h d_M_turn_192 rfl sh_48 hb_4 ?_
      refine zr_ineg h d_M_turn_193 rfl ?_
      refine zr_sub [1, 2, 3, 4, 5, 6, 7, 0] rfl ?_
      exact z_M_turn_194 h hE hk36 x1 x2 x3 x4 x5 x6 x7_1 (-(G 48 (Int32.toNatClampNeg (2 : Int32)))) G hf
    · refine zr_icmp_ne_f h 187 d_M_turn_175 rfl rfl hc_3 ?_
      refine zr_sub [1, 2, 3, 4, 5, 6, 7, 0] rfl ?_
      exact z_M_turn_178 h hE hk36 x1 x2 x3 x4 x5 x6 x7_1 G hf
set_option maxRecDepth 100000 in
set_option maxHeartbeats 4000000 in
theorem z_M_turn_134 {κ : zx_K} {ad : Nat → Nat} {r : Int32} {G1 : zx_G} (h : zx_C M_M_turn κ ad) (hE : zx_E M_M_turn κ ad r G1) {k36 : Int32 → Int32 → Int32 → Int32 → Int32 → zx_G → Option (Int32 × zx_G)} (hk36 : ∀ (x1 x2 x3 x4 x5 : Int32) (G : zx_G), k36 x1 x2 x3 x4 x5 G = some (r, G1) → zx_Z κ ad 36 [(0, .ref (ad 32)), (1, .int x1), (2, .int x2), (3, .int x3), (4, .int x4), (5, .int x5)] [] G) (x1 x2 x3 x4 x5 s0 : Int32) (G : zx_G) (hf : f_M_turn_134 k36 x1 x2 x3 x4 x5 s0 G = some (r, G1)) : zx_Z κ ad 134 [(0, .ref (ad 32)), (1, .int x1), (2, .int x2), (3, .int x3), (4, .int x4), (5, .int x5)] [.int s0] G := by
  unfold f_M_turn_134 at hf
  refine zr_sipush (v := (2048 : Int32)) h d_M_turn_134 rfl (by decide) ?_
  refine zr_iadd h d_M_turn_137 rfl ?_
  refine zr_bipush (v := (12 : Int32)) h d_M_turn_138 rfl (by decide) ?_
  refine zr_ishr h d_M_turn_140 rfl ?_
  obtain ⟨x6_1, ex6_1, hf⟩ := zx_lt_some hf
  refine zr_istore h d_M_turn_141 rfl (by decide) ex6_1 rfl ?_
  refine zr_iload h d_M_turn_143 rfl 6 rfl ?_
  refine zr_iconst (v := (2 : Int32)) h d_M_turn_145 rfl (by decide) ?_
  rcases zx_if_some hf with ⟨hc_2, hf⟩ | ⟨hc_2, hf⟩
  · refine zr_icmp_ge_t (tgt := 158) h d_M_turn_146 rfl hc_2 ?_
    refine zr_aload_n h d_M_turn_158 rfl rfl 1 rfl ?_
    refine zr_getR h d_M_turn_159 rfl fl_M_55 sh_32 rfl ?_
    refine zr_iconst (v := (1 : Int32)) h d_M_turn_162 rfl (by decide) ?_
    obtain ⟨hb_3, hf⟩ := zx_gd_some hf
    refine zr_iald h d_M_turn_163 rfl sh_48 hb_3 ?_
    refine zr_ineg h d_M_turn_164 rfl ?_
    refine zr_sub [1, 2, 3, 4, 5, 6, 0] rfl ?_
    exact z_M_turn_165 h hE hk36 x1 x2 x3 x4 x5 x6_1 (-(G 48 (Int32.toNatClampNeg (1 : Int32)))) G hf
  · refine zr_icmp_ge_f h 158 d_M_turn_146 rfl rfl hc_2 ?_
    refine zr_aload_n h d_M_turn_149 rfl rfl 1 rfl ?_
    refine zr_getR h d_M_turn_150 rfl fl_M_55 sh_32 rfl ?_
    refine zr_iconst (v := (1 : Int32)) h d_M_turn_153 rfl (by decide) ?_
    obtain ⟨hb_4, hf⟩ := zx_gd_some hf
    refine zr_iald h d_M_turn_154 rfl sh_48 hb_4 ?_
    refine zr_goto (tgt := 165) h d_M_turn_155 rfl ?_
    refine zr_sub [1, 2, 3, 4, 5, 6, 0] rfl ?_
    exact z_M_turn_165 h hE hk36 x1 x2 x3 x4 x5 x6_1 (G 48 (Int32.toNatClampNeg (1 : Int32))) G hf
set_option maxRecDepth 100000 in
set_option maxHeartbeats 4000000 in
theorem z_M_turn_36 {κ : zx_K} {ad : Nat → Nat} {r : Int32} {G1 : zx_G} (h : zx_C M_M_turn κ ad) (hE : zx_E M_M_turn κ ad r G1) : ∀ (n : Nat) (x1 x2 x3 x4 x5 : Int32) (G : zx_G), f_M_turn_36 n x1 x2 x3 x4 x5 G = some (r, G1) → zx_Z κ ad 36 [(0, .ref (ad 32)), (1, .int x1), (2, .int x2), (3, .int x3), (4, .int x4), (5, .int x5)] [] G := by
  intro n
  induction n with
  | zero => intro x1 x2 x3 x4 x5 G hf; cases hf
  | succ n ih =>
    intro x1 x2 x3 x4 x5 G hf
    unfold f_M_turn_36 at hf
    refine zr_iload h d_M_turn_36 rfl 5 rfl ?_
    refine zr_iconst (v := (4 : Int32)) h d_M_turn_38 rfl (by decide) ?_
    rcases zx_if_some hf with ⟨hc_1, hf⟩ | ⟨hc_1, hf⟩
    · refine zr_icmp_ge_t (tgt := 267) h d_M_turn_39 rfl hc_1 ?_
      exact zr_vret h hE d_M_turn_267 rfl hf
    · refine zr_icmp_ge_f h 267 d_M_turn_39 rfl rfl hc_1 ?_
      refine zr_iload_n h d_M_turn_42 rfl rfl 3 rfl ?_
      refine zr_iconst (v := (1 : Int32)) h d_M_turn_43 rfl (by decide) ?_
      rcases zx_if_some hf with ⟨hc_2, hf⟩ | ⟨hc_2, hf⟩
      · refine zr_icmp_ne_t (tgt := 61) h d_M_turn_44 rfl hc_2 ?_
        refine zr_aload_n h d_M_turn_61 rfl rfl 0 rfl ?_
        refine zr_getR h d_M_turn_62 rfl fl_M_67 sh_32 rfl ?_
        refine zr_iconst (v := (4 : Int32)) h d_M_turn_65 rfl (by decide) ?_
        refine zr_iload h d_M_turn_66 rfl 5 rfl ?_
        refine zr_imul h d_M_turn_68 rfl ?_
        obtain ⟨hb_3, hf⟩ := zx_gd_some hf
        refine zr_iald h d_M_turn_69 rfl sh_52 hb_3 ?_
        refine zr_aload_n h d_M_turn_70 rfl rfl 0 rfl ?_
        refine zr_getR h d_M_turn_71 rfl fl_M_55 sh_32 rfl ?_
        refine zr_iconst (v := (0 : Int32)) h d_M_turn_74 rfl (by decide) ?_
        obtain ⟨hb_4, hf⟩ := zx_gd_some hf
        refine zr_iald h d_M_turn_75 rfl sh_48 hb_4 ?_
        refine zr_imul h d_M_turn_76 rfl ?_
        refine zr_aload_n h d_M_turn_77 rfl rfl 0 rfl ?_
        refine zr_getR h d_M_turn_78 rfl fl_M_67 sh_32 rfl ?_
        refine zr_iconst (v := (4 : Int32)) h d_M_turn_81 rfl (by decide) ?_
        refine zr_iload h d_M_turn_82 rfl 5 rfl ?_
        refine zr_imul h d_M_turn_84 rfl ?_
        refine zr_iconst (v := (1 : Int32)) h d_M_turn_85 rfl (by decide) ?_
        refine zr_iadd h d_M_turn_86 rfl ?_
        obtain ⟨hb_5, hf⟩ := zx_gd_some hf
        refine zr_iald h d_M_turn_87 rfl sh_52 hb_5 ?_
        refine zr_aload_n h d_M_turn_88 rfl rfl 0 rfl ?_
        refine zr_getR h d_M_turn_89 rfl fl_M_55 sh_32 rfl ?_
        refine zr_iconst (v := (1 : Int32)) h d_M_turn_92 rfl (by decide) ?_
        obtain ⟨hb_6, hf⟩ := zx_gd_some hf
        refine zr_iald h d_M_turn_93 rfl sh_48 hb_6 ?_
        refine zr_imul h d_M_turn_94 rfl ?_
        refine zr_iadd h d_M_turn_95 rfl ?_
        refine zr_aload_n h d_M_turn_96 rfl rfl 0 rfl ?_
        refine zr_getR h d_M_turn_97 rfl fl_M_67 sh_32 rfl ?_
        refine zr_iconst (v := (4 : Int32)) h d_M_turn_100 rfl (by decide) ?_
        refine zr_iload h d_M_turn_101 rfl 5 rfl ?_
        refine zr_imul h d_M_turn_103 rfl ?_
        refine zr_iconst (v := (2 : Int32)) h d_M_turn_104 rfl (by decide) ?_
        refine zr_iadd h d_M_turn_105 rfl ?_
        obtain ⟨hb_7, hf⟩ := zx_gd_some hf
        refine zr_iald h d_M_turn_106 rfl sh_52 hb_7 ?_
        refine zr_aload_n h d_M_turn_107 rfl rfl 0 rfl ?_
        refine zr_getR h d_M_turn_108 rfl fl_M_55 sh_32 rfl ?_
        refine zr_iconst (v := (2 : Int32)) h d_M_turn_111 rfl (by decide) ?_
        obtain ⟨hb_8, hf⟩ := zx_gd_some hf
        refine zr_iald h d_M_turn_112 rfl sh_48 hb_8 ?_
        refine zr_imul h d_M_turn_113 rfl ?_
        refine zr_iadd h d_M_turn_114 rfl ?_
        refine zr_aload_n h d_M_turn_115 rfl rfl 0 rfl ?_
        refine zr_getR h d_M_turn_116 rfl fl_M_67 sh_32 rfl ?_
        refine zr_iconst (v := (4 : Int32)) h d_M_turn_119 rfl (by decide) ?_
        refine zr_iload h d_M_turn_120 rfl 5 rfl ?_
        refine zr_imul h d_M_turn_122 rfl ?_
        refine zr_iconst (v := (3 : Int32)) h d_M_turn_123 rfl (by decide) ?_
        refine zr_iadd h d_M_turn_124 rfl ?_
        obtain ⟨hb_9, hf⟩ := zx_gd_some hf
        refine zr_iald h d_M_turn_125 rfl sh_52 hb_9 ?_
        refine zr_aload_n h d_M_turn_126 rfl rfl 0 rfl ?_
        refine zr_getR h d_M_turn_127 rfl fl_M_55 sh_32 rfl ?_
        refine zr_iconst (v := (3 : Int32)) h d_M_turn_130 rfl (by decide) ?_
        obtain ⟨hb_10, hf⟩ := zx_gd_some hf
        refine zr_iald h d_M_turn_131 rfl sh_48 hb_10 ?_
        refine zr_imul h d_M_turn_132 rfl ?_
        refine zr_iadd h d_M_turn_133 rfl ?_
        exact z_M_turn_134 h hE ih x1 x2 x3 x4 x5 (((((G 52 (Int32.toNatClampNeg ((4 : Int32) * x5))) * (G 48 (Int32.toNatClampNeg (0 : Int32)))) + ((G 52 (Int32.toNatClampNeg (((4 : Int32) * x5) + (1 : Int32)))) * (G 48 (Int32.toNatClampNeg (1 : Int32))))) + ((G 52 (Int32.toNatClampNeg (((4 : Int32) * x5) + (2 : Int32)))) * (G 48 (Int32.toNatClampNeg (2 : Int32))))) + ((G 52 (Int32.toNatClampNeg (((4 : Int32) * x5) + (3 : Int32)))) * (G 48 (Int32.toNatClampNeg (3 : Int32))))) G hf
      · refine zr_icmp_ne_f h 61 d_M_turn_44 rfl rfl hc_2 ?_
        refine zr_sipush (v := (5793 : Int32)) h d_M_turn_47 rfl (by decide) ?_
        refine zr_aload_n h d_M_turn_50 rfl rfl 0 rfl ?_
        refine zr_getR h d_M_turn_51 rfl fl_M_55 sh_32 rfl ?_
        refine zr_iload h d_M_turn_54 rfl 5 rfl ?_
        obtain ⟨hb_11, hf⟩ := zx_gd_some hf
        refine zr_iald h d_M_turn_56 rfl sh_48 hb_11 ?_
        refine zr_imul h d_M_turn_57 rfl ?_
        refine zr_goto (tgt := 134) h d_M_turn_58 rfl ?_
        exact z_M_turn_134 h hE ih x1 x2 x3 x4 x5 ((5793 : Int32) * (G 48 (Int32.toNatClampNeg x5))) G hf
set_option maxRecDepth 100000 in
set_option maxHeartbeats 4000000 in
theorem z_M_turn_3 {κ : zx_K} {ad : Nat → Nat} {r : Int32} {G1 : zx_G} (h : zx_C M_M_turn κ ad) (hE : zx_E M_M_turn κ ad r G1) : ∀ (n : Nat) (x1 x2 x3 x4 x5 : Int32) (G : zx_G), f_M_turn_3 n x1 x2 x3 x4 x5 G = some (r, G1) → zx_Z κ ad 3 [(0, .ref (ad 32)), (1, .int x1), (2, .int x2), (3, .int x3), (4, .int x4), (5, .int x5)] [] G := by
  intro n
  induction n with
  | zero => intro x1 x2 x3 x4 x5 G hf; cases hf
  | succ n ih =>
    intro x1 x2 x3 x4 x5 G hf
    unfold f_M_turn_3 at hf
    refine zr_iload h d_M_turn_3 rfl 5 rfl ?_
    refine zr_iconst (v := (4 : Int32)) h d_M_turn_5 rfl (by decide) ?_
    rcases zx_if_some hf with ⟨hc_1, hf⟩ | ⟨hc_1, hf⟩
    · refine zr_icmp_ge_t (tgt := 33) h d_M_turn_6 rfl hc_1 ?_
      refine zr_iconst (v := (0 : Int32)) h d_M_turn_33 rfl (by decide) ?_
      obtain ⟨x5_2, ex5_2, hf⟩ := zx_lt_some hf
      refine zr_istore h d_M_turn_34 rfl (by decide) ex5_2 rfl ?_
      refine zr_sub [1, 2, 3, 4, 5, 0] rfl ?_
      exact z_M_turn_36 h hE 2048 x1 x2 x3 x4 x5_2 G hf
    · refine zr_icmp_ge_f h 33 d_M_turn_6 rfl rfl hc_1 ?_
      refine zr_aload_n h d_M_turn_9 rfl rfl 0 rfl ?_
      refine zr_getR h d_M_turn_10 rfl fl_M_55 sh_32 rfl ?_
      refine zr_iload h d_M_turn_13 rfl 5 rfl ?_
      refine zr_aload_n h d_M_turn_15 rfl rfl 0 rfl ?_
      refine zr_getR h d_M_turn_16 rfl fl_M_52 sh_32 rfl ?_
      refine zr_iload_n h d_M_turn_19 rfl rfl 1 rfl ?_
      refine zr_iload h d_M_turn_20 rfl 5 rfl ?_
      refine zr_iload_n h d_M_turn_22 rfl rfl 2 rfl ?_
      refine zr_imul h d_M_turn_23 rfl ?_
      refine zr_iadd h d_M_turn_24 rfl ?_
      obtain ⟨hb_3, hf⟩ := zx_gd_some hf
      refine zr_iald h d_M_turn_25 rfl sh_47 hb_3 ?_
      obtain ⟨hb_4, hf⟩ := zx_gd_some hf
      obtain ⟨G_5, eG_5, hf⟩ := zx_lt_some hf
      refine zr_iast h d_M_turn_26 rfl sh_48 hb_4 eG_5 ?_
      obtain ⟨x5_6, ex5_6, hf⟩ := zx_lt_some hf
      refine zr_iinc (j := 5) h d_M_turn_27 rfl rfl (by decide) ex5_6 (by decide) rfl ?_
      refine zr_goto (tgt := 3) h d_M_turn_30 rfl ?_
      refine zr_sub [1, 2, 3, 4, 5, 0] rfl ?_
      exact ih x1 x2 x3 x4 x5_6 G_5 hf
set_option maxRecDepth 100000 in
set_option maxHeartbeats 4000000 in
theorem z_M_turn_0 {κ : zx_K} {ad : Nat → Nat} {r : Int32} {G1 : zx_G} (h : zx_C M_M_turn κ ad) (hE : zx_E M_M_turn κ ad r G1) (x1 x2 x3 x4 : Int32) (G : zx_G) (hf : f_M_turn x1 x2 x3 x4 G = some (r, G1)) : zx_Z κ ad 0 [(0, .ref (ad 32)), (1, .int x1), (2, .int x2), (3, .int x3), (4, .int x4)] [] G := by
  unfold f_M_turn at hf
  refine zr_iconst (v := (0 : Int32)) h d_M_turn_0 rfl (by decide) ?_
  obtain ⟨x5_1, ex5_1, hf⟩ := zx_lt_some hf
  refine zr_istore h d_M_turn_1 rfl (by decide) ex5_1 rfl ?_
  refine zr_sub [1, 2, 3, 4, 5, 0] rfl ?_
  exact z_M_turn_3 h hE 2048 x1 x2 x3 x4 x5_1 G hf
theorem c_M_turn (l : Launch) (D : va_G) (cA : ClassId) (ad : Nat → Nat) (A : Nat → Prop) (x1 x2 x3 x4 : Int32) (G : zx_G) (r : Int32) (G1 : zx_G) (hf : f_M_turn x1 x2 x3 x4 G = some (r, G1)) : zx_met l y_M_turn M_M_turn [.ref (ad 32), .int x1, .int x2, .int x3, .int x4] D cA ad A G r G1 :=
  zx_toMet (by decide) rfl (Nat.le_of_ble_eq_true rfl) (fun κ h hE => by exact z_M_turn_0 h hE x1 x2 x3 x4 G hf)
