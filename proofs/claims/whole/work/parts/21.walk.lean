/-! the methods as functions, and the rows that tie them to the machine; written by a program -/
def f_C_readBit (G : zx_G) : Option (Int32 × zx_G) :=
  zx_lt ((G 14 6) >>> ((1 : Int32) &&& 31)) fun x1_1 =>
  zx_if (x1_1 ≤ (G 14 7))
    (zx_bd (f_C_narrow x1_1 (G 14 6) G) fun r_4 G_3 =>
    some ((1 : Int32), G_3))
    (zx_bd (f_C_narrow (0 : Int32) x1_1 G) fun r_7 G_6 =>
    some ((0 : Int32), G_6))
set_option maxRecDepth 100000 in
set_option maxHeartbeats 4000000 in
theorem z_C_readBit_0 {κ : zx_K} {ad : Nat → Nat} {r : Int32} {G1 : zx_G} (h : zx_C M_C_readBit κ ad) (hE : zx_E M_C_readBit κ ad r G1) (G : zx_G) (hf : f_C_readBit G = some (r, G1)) : zx_Z κ ad 0 [(0, .ref (ad 14))] [] G := by
  unfold f_C_readBit at hf
  refine zr_aload_n h d_C_readBit_0 rfl rfl 0 rfl ?_
  refine zr_getI h d_C_readBit_1 rfl fl_C_52 sh_14 rfl ?_
  refine zr_iconst (v := (1 : Int32)) h d_C_readBit_4 rfl (by decide) ?_
  refine zr_ishr h d_C_readBit_5 rfl ?_
  obtain ⟨x1_1, ex1_1, hf⟩ := zx_lt_some hf
  refine zr_istore_n h d_C_readBit_6 rfl rfl (by decide) ex1_1 rfl ?_
  refine zr_aload_n h d_C_readBit_7 rfl rfl 1 rfl ?_
  refine zr_getI h d_C_readBit_8 rfl fl_C_55 sh_14 rfl ?_
  refine zr_iload_n h d_C_readBit_11 rfl rfl 0 rfl ?_
  rcases zx_if_some hf with ⟨hc_2, hf⟩ | ⟨hc_2, hf⟩
  · refine zr_icmp_ge_t (tgt := 23) h d_C_readBit_12 rfl hc_2 ?_
    refine zr_aload_n h d_C_readBit_23 rfl rfl 1 rfl ?_
    refine zr_iload_n h d_C_readBit_24 rfl rfl 0 rfl ?_
    refine zr_aload_n h d_C_readBit_25 rfl rfl 1 rfl ?_
    refine zr_getI h d_C_readBit_26 rfl fl_C_52 sh_14 rfl ?_
    obtain ⟨r_4, G_3, hq_5, hf⟩ := zx_bd_some hf
    refine zr_callVV (As := [.int x1_1, .int (G 14 6)]) (b := 14) h (c_C_narrow _ _ _ _ _ x1_1 (G 14 6) G r_4 G_3 hq_5) cc_C_64 d_C_readBit_29 rfl rfl rfl sh_14 ⟨rfl, rfl, by decide, by decide⟩ (Nat.le_of_ble_eq_true rfl) ?_
    refine zr_iconst (v := (1 : Int32)) h d_C_readBit_32 rfl (by decide) ?_
    exact zr_iret h hE d_C_readBit_33 rfl hf
  · refine zr_icmp_ge_f h 23 d_C_readBit_12 rfl rfl hc_2 ?_
    refine zr_aload_n h d_C_readBit_15 rfl rfl 1 rfl ?_
    refine zr_iconst (v := (0 : Int32)) h d_C_readBit_16 rfl (by decide) ?_
    refine zr_iload_n h d_C_readBit_17 rfl rfl 0 rfl ?_
    obtain ⟨r_7, G_6, hq_8, hf⟩ := zx_bd_some hf
    refine zr_callVV (As := [.int (0 : Int32), .int x1_1]) (b := 14) h (c_C_narrow _ _ _ _ _ (0 : Int32) x1_1 G r_7 G_6 hq_8) cc_C_64 d_C_readBit_18 rfl rfl rfl sh_14 ⟨rfl, rfl, by decide, by decide⟩ (Nat.le_of_ble_eq_true rfl) ?_
    refine zr_iconst (v := (0 : Int32)) h d_C_readBit_21 rfl (by decide) ?_
    exact zr_iret h hE d_C_readBit_22 rfl hf
theorem c_C_readBit (l : Launch) (D : va_G) (cA : ClassId) (ad : Nat → Nat) (A : Nat → Prop) (G : zx_G) (r : Int32) (G1 : zx_G) (hf : f_C_readBit G = some (r, G1)) : zx_met l y_C_readBit M_C_readBit [.ref (ad 14)] D cA ad A G r G1 :=
  zx_toMet (by decide) rfl (Nat.le_of_ble_eq_true rfl) (fun κ h hE => by exact z_C_readBit_0 h hE G hf)

def f_C_readExcess_33 : Nat → Int32 → Int32 → Int32 → zx_G → Option (Int32 × zx_G)
  | 0, _, _, _, _ => none
  | n + 1, x1, x2, x3, G =>
    zx_if (x1 ≤ x3)
      (some (((((1 : Int32) <<< (x1 &&& 31)) - (1 : Int32)) + x2), G))
      (zx_bd (f_C_readBit G) fun r_3 G_2 =>
      zx_lt (((2 : Int32) * x2) + r_3) fun x2_5 =>
      zx_lt (x3 + (1 : Int32)) fun x3_6 =>
      f_C_readExcess_33 n x1 x2_5 x3_6 G_2)
def f_C_readExcess_21 (x1 : Int32) (G : zx_G) : Option (Int32 × zx_G) :=
  zx_if (x1 ≤ (12 : Int32))
    (zx_lt (0 : Int32) fun x2_2 =>
    zx_lt (0 : Int32) fun x3_3 =>
    f_C_readExcess_33 2048 x1 x2_2 x3_3 G)
    (some ((-1 : Int32), G))
def f_C_readExcess_2 : Nat → Int32 → zx_G → Option (Int32 × zx_G)
  | 0, _, _ => none
  | n + 1, x1, G =>
    zx_if ((12 : Int32) < x1)
      (f_C_readExcess_21 x1 G)
      (zx_bd (f_C_readBit G) fun r_3 G_2 =>
      zx_if (¬ r_3 = 0)
        (f_C_readExcess_21 x1 G_2)
        (zx_lt (x1 + (1 : Int32)) fun x1_6 =>
        f_C_readExcess_2 n x1_6 G_2))
def f_C_readExcess (G : zx_G) : Option (Int32 × zx_G) :=
  zx_lt (0 : Int32) fun x1_1 =>
  f_C_readExcess_2 2048 x1_1 G
set_option maxRecDepth 100000 in
set_option maxHeartbeats 4000000 in
theorem z_C_readExcess_33 {κ : zx_K} {ad : Nat → Nat} {r : Int32} {G1 : zx_G} (h : zx_C M_C_readExcess κ ad) (hE : zx_E M_C_readExcess κ ad r G1) : ∀ (n : Nat) (x1 x2 x3 : Int32) (G : zx_G), f_C_readExcess_33 n x1 x2 x3 G = some (r, G1) → zx_Z κ ad 33 [(0, .ref (ad 14)), (1, .int x1), (2, .int x2), (3, .int x3)] [] G := by
  intro n
  induction n with
  | zero => intro x1 x2 x3 G hf; cases hf
  | succ n ih =>
    intro x1 x2 x3 G hf
    unfold f_C_readExcess_33 at hf
    refine zr_iload_n h d_C_readExcess_33 rfl rfl 3 rfl ?_
    refine zr_iload_n h d_C_readExcess_34 rfl rfl 1 rfl ?_
    rcases zx_if_some hf with ⟨hc_1, hf⟩ | ⟨hc_1, hf⟩
    · refine zr_icmp_ge_t (tgt := 53) h d_C_readExcess_35 rfl hc_1 ?_
      refine zr_iconst (v := (1 : Int32)) h d_C_readExcess_53 rfl (by decide) ?_
      refine zr_iload_n h d_C_readExcess_54 rfl rfl 1 rfl ?_
      refine zr_ishl h d_C_readExcess_55 rfl ?_
      refine zr_iconst (v := (1 : Int32)) h d_C_readExcess_56 rfl (by decide) ?_
      refine zr_isub h d_C_readExcess_57 rfl ?_
      refine zr_iload_n h d_C_readExcess_58 rfl rfl 2 rfl ?_
      refine zr_iadd h d_C_readExcess_59 rfl ?_
      exact zr_iret h hE d_C_readExcess_60 rfl hf
    · refine zr_icmp_ge_f h 53 d_C_readExcess_35 rfl rfl hc_1 ?_
      refine zr_iconst (v := (2 : Int32)) h d_C_readExcess_38 rfl (by decide) ?_
      refine zr_iload_n h d_C_readExcess_39 rfl rfl 2 rfl ?_
      refine zr_imul h d_C_readExcess_40 rfl ?_
      refine zr_aload_n h d_C_readExcess_41 rfl rfl 0 rfl ?_
      obtain ⟨r_3, G_2, hq_4, hf⟩ := zx_bd_some hf
      refine zr_callVI (As := []) (b := 14) h (c_C_readBit _ _ _ _ _ G r_3 G_2 hq_4) cc_C_71 d_C_readExcess_42 rfl rfl rfl sh_14 ⟨rfl, rfl, by decide, by decide⟩ (Nat.le_of_ble_eq_true rfl) ?_
      refine zr_iadd h d_C_readExcess_45 rfl ?_
      obtain ⟨x2_5, ex2_5, hf⟩ := zx_lt_some hf
      refine zr_istore_n h d_C_readExcess_46 rfl rfl (by decide) ex2_5 rfl ?_
      obtain ⟨x3_6, ex3_6, hf⟩ := zx_lt_some hf
      refine zr_iinc (j := 3) h d_C_readExcess_47 rfl rfl (by decide) ex3_6 (by decide) rfl ?_
      refine zr_goto (tgt := 33) h d_C_readExcess_50 rfl ?_
      refine zr_sub [2, 3, 1, 0] rfl ?_
      exact ih x1 x2_5 x3_6 G_2 hf
set_option maxRecDepth 100000 in
set_option maxHeartbeats 4000000 in
theorem z_C_readExcess_21 {κ : zx_K} {ad : Nat → Nat} {r : Int32} {G1 : zx_G} (h : zx_C M_C_readExcess κ ad) (hE : zx_E M_C_readExcess κ ad r G1) (x1 : Int32) (G : zx_G) (hf : f_C_readExcess_21 x1 G = some (r, G1)) : zx_Z κ ad 21 [(0, .ref (ad 14)), (1, .int x1)] [] G := by
  unfold f_C_readExcess_21 at hf
  refine zr_iload_n h d_C_readExcess_21 rfl rfl 1 rfl ?_
  refine zr_bipush (v := (12 : Int32)) h d_C_readExcess_22 rfl (by decide) ?_
  rcases zx_if_some hf with ⟨hc_1, hf⟩ | ⟨hc_1, hf⟩
  · refine zr_icmp_le_t (tgt := 29) h d_C_readExcess_24 rfl hc_1 ?_
    refine zr_iconst (v := (0 : Int32)) h d_C_readExcess_29 rfl (by decide) ?_
    obtain ⟨x2_2, ex2_2, hf⟩ := zx_lt_some hf
    refine zr_istore_n h d_C_readExcess_30 rfl rfl (by decide) ex2_2 rfl ?_
    refine zr_iconst (v := (0 : Int32)) h d_C_readExcess_31 rfl (by decide) ?_
    obtain ⟨x3_3, ex3_3, hf⟩ := zx_lt_some hf
    refine zr_istore_n h d_C_readExcess_32 rfl rfl (by decide) ex3_3 rfl ?_
    refine zr_sub [2, 3, 1, 0] rfl ?_
    exact z_C_readExcess_33 h hE 2048 x1 x2_2 x3_3 G hf
  · refine zr_icmp_le_f h 29 d_C_readExcess_24 rfl rfl hc_1 ?_
    refine zr_iconst (v := (-1 : Int32)) h d_C_readExcess_27 rfl (by decide) ?_
    exact zr_iret h hE d_C_readExcess_28 rfl hf
set_option maxRecDepth 100000 in
set_option maxHeartbeats 4000000 in
theorem z_C_readExcess_2 {κ : zx_K} {ad : Nat → Nat} {r : Int32} {G1 : zx_G} (h : zx_C M_C_readExcess κ ad) (hE : zx_E M_C_readExcess κ ad r G1) : ∀ (n : Nat) (x1 : Int32) (G : zx_G), f_C_readExcess_2 n x1 G = some (r, G1) → zx_Z κ ad 2 [(0, .ref (ad 14)), (1, .int x1)] [] G := by
  intro n
  induction n with
  | zero => intro x1 G hf; cases hf
  | succ n ih =>
    intro x1 G hf
    unfold f_C_readExcess_2 at hf
    refine zr_iload_n h d_C_readExcess_2 rfl rfl 1 rfl ?_
    refine zr_bipush (v := (12 : Int32)) h d_C_readExcess_3 rfl (by decide) ?_
    rcases zx_if_some hf with ⟨hc_1, hf⟩ | ⟨hc_1, hf⟩
    · refine zr_icmp_gt_t (tgt := 21) h d_C_readExcess_5 rfl hc_1 ?_
      exact z_C_readExcess_21 h hE x1 G hf
    · refine zr_icmp_gt_f h 21 d_C_readExcess_5 rfl rfl hc_1 ?_
      refine zr_aload_n h d_C_readExcess_8 rfl rfl 0 rfl ?_
      obtain ⟨r_3, G_2, hq_4, hf⟩ := zx_bd_some hf
      refine zr_callVI (As := []) (b := 14) h (c_C_readBit _ _ _ _ _ G r_3 G_2 hq_4) cc_C_71 d_C_readExcess_9 rfl rfl rfl sh_14 ⟨rfl, rfl, by decide, by decide⟩ (Nat.le_of_ble_eq_true rfl) ?_
      rcases zx_if_some hf with ⟨hc_5, hf⟩ | ⟨hc_5, hf⟩
      · refine zr_if_ne_t (tgt := 21) h d_C_readExcess_12 rfl hc_5 ?_
        exact z_C_readExcess_21 h hE x1 G_2 hf
      · refine zr_if_ne_f h 21 d_C_readExcess_12 rfl rfl hc_5 ?_
        obtain ⟨x1_6, ex1_6, hf⟩ := zx_lt_some hf
        refine zr_iinc (j := 1) h d_C_readExcess_15 rfl rfl (by decide) ex1_6 (by decide) rfl ?_
        refine zr_goto (tgt := 2) h d_C_readExcess_18 rfl ?_
        refine zr_sub [1, 0] rfl ?_
        exact ih x1_6 G_2 hf
set_option maxRecDepth 100000 in
set_option maxHeartbeats 4000000 in
theorem z_C_readExcess_0 {κ : zx_K} {ad : Nat → Nat} {r : Int32} {G1 : zx_G} (h : zx_C M_C_readExcess κ ad) (hE : zx_E M_C_readExcess κ ad r G1) (G : zx_G) (hf : f_C_readExcess G = some (r, G1)) : zx_Z κ ad 0 [(0, .ref (ad 14))] [] G := by
  unfold f_C_readExcess at hf
  refine zr_iconst (v := (0 : Int32)) h d_C_readExcess_0 rfl (by decide) ?_
  obtain ⟨x1_1, ex1_1, hf⟩ := zx_lt_some hf
  refine zr_istore_n h d_C_readExcess_1 rfl rfl (by decide) ex1_1 rfl ?_
  refine zr_sub [1, 0] rfl ?_
  exact z_C_readExcess_2 h hE 2048 x1_1 G hf
theorem c_C_readExcess (l : Launch) (D : va_G) (cA : ClassId) (ad : Nat → Nat) (A : Nat → Prop) (G : zx_G) (r : Int32) (G1 : zx_G) (hf : f_C_readExcess G = some (r, G1)) : zx_met l y_C_readExcess M_C_readExcess [.ref (ad 14)] D cA ad A G r G1 :=
  zx_toMet (by decide) rfl (Nat.le_of_ble_eq_true rfl) (fun κ h hE => by exact z_C_readExcess_0 h hE G hf)

def f_C_adapt_106 (k52 : Int32 → Int32 → Int32 → Int32 → Int32 → Int32 → zx_G → Option (Int32 × zx_G)) (x1 x2 x3 x4 x5 x6 s1 s2 : Int32) (G : zx_G) : Option (Int32 × zx_G) :=
  zx_gd (zx_in s1 304) <|
  zx_lt (zx_up G 15 (Int32.toNatClampNeg s1) s2) fun G_2 =>
  zx_lt (x6 + (1 : Int32)) fun x6_3 =>
  k52 x1 x2 x3 x4 x5 x6_3 G_2
def f_C_adapt_52 : Nat → Int32 → Int32 → Int32 → Int32 → Int32 → Int32 → zx_G → Option (Int32 × zx_G)
  | 0, _, _, _, _, _, _, _ => none
  | n + 1, x1, x2, x3, x4, x5, x6, G =>
    zx_if (x4 ≤ x6)
      (zx_gd (zx_in x1 19) <|
      zx_gd (zx_in x1 19) <|
      zx_lt (zx_up G 16 (Int32.toNatClampNeg x1) ((G 16 (Int32.toNatClampNeg x1)) + (1 : Int32))) fun G_4 =>
      some ((0 : Int32), G_4))
      (zx_gd (zx_in (x3 + x6) 304) <|
      zx_lt (G 15 (Int32.toNatClampNeg (x3 + x6))) fun x7_6 =>
      zx_if (x6 < x2)
        (f_C_adapt_106 (f_C_adapt_52 n) x1 x2 x3 x4 x5 x6 (x3 + x6) (x7_6 - (x7_6 >>> (x5 &&& 31))) G)
        (f_C_adapt_106 (f_C_adapt_52 n) x1 x2 x3 x4 x5 x6 (x3 + x6) (x7_6 + (((32768 : Int32) - x7_6) >>> (x5 &&& 31))) G))
def f_C_adapt_46 (x1 x2 x3 x4 s0 s1 : Int32) (G : zx_G) : Option (Int32 × zx_G) :=
  zx_lt (s0 + s1) fun x5_1 =>
  zx_lt (0 : Int32) fun x6_2 =>
  f_C_adapt_52 2048 x1 x2 x3 x4 x5_1 x6_2 G
def f_C_adapt_31 (x1 x2 x3 x4 s0 s1 : Int32) (G : zx_G) : Option (Int32 × zx_G) :=
  zx_gd (zx_in x1 19) <|
  zx_if ((zx_tab0 (Int32.toNatClampNeg x1)) ≤ (4 : Int32))
    (f_C_adapt_46 x1 x2 x3 x4 (s0 + s1) (0 : Int32) G)
    (f_C_adapt_46 x1 x2 x3 x4 (s0 + s1) (1 : Int32) G)
def f_C_adapt (x1 x2 : Int32) (G : zx_G) : Option (Int32 × zx_G) :=
  zx_lt (x1 * (16 : Int32)) fun x3_1 =>
  zx_gd (zx_in x1 19) <|
  zx_lt ((zx_tab0 (Int32.toNatClampNeg x1)) - (1 : Int32)) fun x4_3 =>
  zx_gd (zx_in x1 19) <|
  zx_if ((G 16 (Int32.toNatClampNeg x1)) ≤ (15 : Int32))
    (f_C_adapt_31 x1 x2 x3_1 x4_3 (4 : Int32) (0 : Int32) G)
    (f_C_adapt_31 x1 x2 x3_1 x4_3 (4 : Int32) (1 : Int32) G)
set_option maxRecDepth 100000 in
set_option maxHeartbeats 4000000 in
theorem z_C_adapt_106 {κ : zx_K} {ad : Nat → Nat} {r : Int32} {G1 : zx_G} (h : zx_C M_C_adapt κ ad) (hE : zx_E M_C_adapt κ ad r G1) {k52 : Int32 → Int32 → Int32 → Int32 → Int32 → Int32 → zx_G → Option (Int32 × zx_G)} (hk52 : ∀ (x1 x2 x3 x4 x5 x6 : Int32) (G : zx_G), k52 x1 x2 x3 x4 x5 x6 G = some (r, G1) → zx_Z κ ad 52 [(0, .ref (ad 14)), (1, .int x1), (2, .int x2), (3, .int x3), (4, .int x4), (5, .int x5), (6, .int x6)] [] G) (x1 x2 x3 x4 x5 x6 s1 s2 : Int32) (G : zx_G) (hf : f_C_adapt_106 k52 x1 x2 x3 x4 x5 x6 s1 s2 G = some (r, G1)) : zx_Z κ ad 106 [(0, .ref (ad 14)), (1, .int x1), (2, .int x2), (3, .int x3), (4, .int x4), (5, .int x5), (6, .int x6)] [.int s2, .int s1, .ref (ad 15)] G := by
  unfold f_C_adapt_106 at hf
  obtain ⟨hb_1, hf⟩ := zx_gd_some hf
  obtain ⟨G_2, eG_2, hf⟩ := zx_lt_some hf
  refine zr_iast h d_C_adapt_106 rfl sh_15 hb_1 eG_2 ?_
  obtain ⟨x6_3, ex6_3, hf⟩ := zx_lt_some hf
  refine zr_iinc (j := 6) h d_C_adapt_107 rfl rfl (by decide) ex6_3 (by decide) rfl ?_
  refine zr_goto (tgt := 52) h d_C_adapt_110 rfl ?_
  refine zr_sub [1, 2, 3, 4, 5, 6, 0] rfl ?_
  exact hk52 x1 x2 x3 x4 x5 x6_3 G_2 hf
set_option maxRecDepth 100000 in
set_option maxHeartbeats 4000000 in
theorem z_C_adapt_52 {κ : zx_K} {ad : Nat → Nat} {r : Int32} {G1 : zx_G} (h : zx_C M_C_adapt κ ad) (hE : zx_E M_C_adapt κ ad r G1) : ∀ (n : Nat) (x1 x2 x3 x4 x5 x6 : Int32) (G : zx_G), f_C_adapt_52 n x1 x2 x3 x4 x5 x6 G = some (r, G1) → zx_Z κ ad 52 [(0, .ref (ad 14)), (1, .int x1), (2, .int x2), (3, .int x3), (4, .int x4), (5, .int x5), (6, .int x6)] [] G := by
  intro n
  induction n with
  | zero => intro x1 x2 x3 x4 x5 x6 G hf; cases hf
  | succ n ih =>
    intro x1 x2 x3 x4 x5 x6 G hf
    unfold f_C_adapt_52 at hf
    refine zr_iload h d_C_adapt_52 rfl 6 rfl ?_
    refine zr_iload h d_C_adapt_54 rfl 4 rfl ?_
    rcases zx_if_some hf with ⟨hc_1, hf⟩ | ⟨hc_1, hf⟩
    · refine zr_icmp_ge_t (tgt := 113) h d_C_adapt_56 rfl hc_1 ?_
      refine zr_aload_n h d_C_adapt_113 rfl rfl 0 rfl ?_
      refine zr_getR h d_C_adapt_114 rfl fl_C_13 sh_14 rfl ?_
      refine zr_iload_n h d_C_adapt_117 rfl rfl 1 rfl ?_
      refine zr_dup2 h d_C_adapt_118 rfl rfl rfl ?_
      obtain ⟨hb_2, hf⟩ := zx_gd_some hf
      refine zr_iald h d_C_adapt_119 rfl sh_16 hb_2 ?_
      refine zr_iconst (v := (1 : Int32)) h d_C_adapt_120 rfl (by decide) ?_
      refine zr_iadd h d_C_adapt_121 rfl ?_
      obtain ⟨hb_3, hf⟩ := zx_gd_some hf
      obtain ⟨G_4, eG_4, hf⟩ := zx_lt_some hf
      refine zr_iast h d_C_adapt_122 rfl sh_16 hb_3 eG_4 ?_
      exact zr_vret h hE d_C_adapt_123 rfl hf
    · refine zr_icmp_ge_f h 113 d_C_adapt_56 rfl rfl hc_1 ?_
      refine zr_aload_n h d_C_adapt_59 rfl rfl 0 rfl ?_
      refine zr_getR h d_C_adapt_60 rfl fl_C_9 sh_14 rfl ?_
      refine zr_iload_n h d_C_adapt_63 rfl rfl 3 rfl ?_
      refine zr_iload h d_C_adapt_64 rfl 6 rfl ?_
      refine zr_iadd h d_C_adapt_66 rfl ?_
      obtain ⟨hb_5, hf⟩ := zx_gd_some hf
      refine zr_iald h d_C_adapt_67 rfl sh_15 hb_5 ?_
      obtain ⟨x7_6, ex7_6, hf⟩ := zx_lt_some hf
      refine zr_istore h d_C_adapt_68 rfl (by decide) ex7_6 rfl ?_
      refine zr_aload_n h d_C_adapt_70 rfl rfl 1 rfl ?_
      refine zr_getR h d_C_adapt_71 rfl fl_C_9 sh_14 rfl ?_
      refine zr_iload_n h d_C_adapt_74 rfl rfl 4 rfl ?_
      refine zr_iload h d_C_adapt_75 rfl 7 rfl ?_
      refine zr_iadd h d_C_adapt_77 rfl ?_
      refine zr_iload h d_C_adapt_78 rfl 7 rfl ?_
      refine zr_iload_n h d_C_adapt_80 rfl rfl 3 rfl ?_
      rcases zx_if_some hf with ⟨hc_7, hf⟩ | ⟨hc_7, hf⟩
      · refine zr_icmp_lt_t (tgt := 98) h d_C_adapt_81 rfl hc_7 ?_
        refine zr_iload h d_C_adapt_98 rfl 0 rfl ?_
        refine zr_iload h d_C_adapt_100 rfl 0 rfl ?_
        refine zr_iload h d_C_adapt_102 rfl 6 rfl ?_
        refine zr_ishr h d_C_adapt_104 rfl ?_
        refine zr_isub h d_C_adapt_105 rfl ?_
        refine zr_sub [1, 2, 3, 4, 5, 6, 7] rfl ?_
        exact z_C_adapt_106 h hE ih x1 x2 x3 x4 x5 x6 (x3 + x6) (x7_6 - (x7_6 >>> (x5 &&& 31))) G hf
      · refine zr_icmp_lt_f h 98 d_C_adapt_81 rfl rfl hc_7 ?_
        refine zr_iload h d_C_adapt_84 rfl 0 rfl ?_
        refine zr_ldc (v := (32768 : Int32)) h d_C_adapt_86 rfl ct_C_51 ?_
        refine zr_iload h d_C_adapt_88 rfl 0 rfl ?_
        refine zr_isub h d_C_adapt_90 rfl ?_
        refine zr_iload h d_C_adapt_91 rfl 6 rfl ?_
        refine zr_ishr h d_C_adapt_93 rfl ?_
        refine zr_iadd h d_C_adapt_94 rfl ?_
        refine zr_goto (tgt := 106) h d_C_adapt_95 rfl ?_
        refine zr_sub [1, 2, 3, 4, 5, 6, 7] rfl ?_
        exact z_C_adapt_106 h hE ih x1 x2 x3 x4 x5 x6 (x3 + x6) (x7_6 + (((32768 : Int32) - x7_6) >>> (x5 &&& 31))) G hf
set_option maxRecDepth 100000 in
set_option maxHeartbeats 4000000 in
theorem z_C_adapt_46 {κ : zx_K} {ad : Nat → Nat} {r : Int32} {G1 : zx_G} (h : zx_C M_C_adapt κ ad) (hE : zx_E M_C_adapt κ ad r G1) (x1 x2 x3 x4 s0 s1 : Int32) (G : zx_G) (hf : f_C_adapt_46 x1 x2 x3 x4 s0 s1 G = some (r, G1)) : zx_Z κ ad 46 [(0, .ref (ad 14)), (1, .int x1), (2, .int x2), (3, .int x3), (4, .int x4)] [.int s1, .int s0] G := by
  unfold f_C_adapt_46 at hf
  refine zr_iadd h d_C_adapt_46 rfl ?_
  obtain ⟨x5_1, ex5_1, hf⟩ := zx_lt_some hf
  refine zr_istore h d_C_adapt_47 rfl (by decide) ex5_1 rfl ?_
  refine zr_iconst (v := (0 : Int32)) h d_C_adapt_49 rfl (by decide) ?_
  obtain ⟨x6_2, ex6_2, hf⟩ := zx_lt_some hf
  refine zr_istore h d_C_adapt_50 rfl (by decide) ex6_2 rfl ?_
  refine zr_sub [2, 3, 4, 5, 6, 1, 0] rfl ?_
  exact z_C_adapt_52 h hE 2048 x1 x2 x3 x4 x5_1 x6_2 G hf
set_option maxRecDepth 100000 in
set_option maxHeartbeats 4000000 in
theorem z_C_adapt_31 {κ : zx_K} {ad : Nat → Nat} {r : Int32} {G1 : zx_G} (h : zx_C M_C_adapt κ ad) (hE : zx_E M_C_adapt κ ad r G1) (x1 x2 x3 x4 s0 s1 : Int32) (G : zx_G) (hf : f_C_adapt_31 x1 x2 x3 x4 s0 s1 G = some (r, G1)) : zx_Z κ ad 31 [(0, .ref (ad 14)), (1, .int x1), (2, .int x2), (3, .int x3), (4, .int x4)] [.int s1, .int s0] G := by
  unfold f_C_adapt_31 at hf
  refine zr_iadd h d_C_adapt_31 rfl ?_
  refine zr_gets0 h d_C_adapt_32 rfl sl_C_48 ?_
  refine zr_iload_n h d_C_adapt_35 rfl rfl 1 rfl ?_
  obtain ⟨hb_1, hf⟩ := zx_gd_some hf
  refine zr_tald0 h d_C_adapt_36 rfl hb_1 ?_
  refine zr_iconst (v := (4 : Int32)) h d_C_adapt_37 rfl (by decide) ?_
  rcases zx_if_some hf with ⟨hc_2, hf⟩ | ⟨hc_2, hf⟩
  · refine zr_icmp_le_t (tgt := 45) h d_C_adapt_38 rfl hc_2 ?_
    refine zr_iconst (v := (0 : Int32)) h d_C_adapt_45 rfl (by decide) ?_
    exact z_C_adapt_46 h hE x1 x2 x3 x4 (s0 + s1) (0 : Int32) G hf
  · refine zr_icmp_le_f h 45 d_C_adapt_38 rfl rfl hc_2 ?_
    refine zr_iconst (v := (1 : Int32)) h d_C_adapt_41 rfl (by decide) ?_
    refine zr_goto (tgt := 46) h d_C_adapt_42 rfl ?_
    exact z_C_adapt_46 h hE x1 x2 x3 x4 (s0 + s1) (1 : Int32) G hf
set_option maxRecDepth 100000 in
set_option maxHeartbeats 4000000 in
theorem z_C_adapt_0 {κ : zx_K} {ad : Nat → Nat} {r : Int32} {G1 : zx_G} (h : zx_C M_C_adapt κ ad) (hE : zx_E M_C_adapt κ ad r G1) (x1 x2 : Int32) (G : zx_G) (hf : f_C_adapt x1 x2 G = some (r, G1)) : zx_Z κ ad 0 [(0, .ref (ad 14)), (1, .int x1), (2, .int x2)] [] G := by
  unfold f_C_adapt at hf
  refine zr_iload_n h d_C_adapt_0 rfl rfl 1 rfl ?_
  refine zr_bipush (v := (16 : Int32)) h d_C_adapt_1 rfl (by decide) ?_
  refine zr_imul h d_C_adapt_3 rfl ?_
  obtain ⟨x3_1, ex3_1, hf⟩ := zx_lt_some hf
  refine zr_istore_n h d_C_adapt_4 rfl rfl (by decide) ex3_1 rfl ?_
  refine zr_gets0 h d_C_adapt_5 rfl sl_C_48 ?_
  refine zr_iload_n h d_C_adapt_8 rfl rfl 2 rfl ?_
  obtain ⟨hb_2, hf⟩ := zx_gd_some hf
  refine zr_tald0 h d_C_adapt_9 rfl hb_2 ?_
  refine zr_iconst (v := (1 : Int32)) h d_C_adapt_10 rfl (by decide) ?_
  refine zr_isub h d_C_adapt_11 rfl ?_
  obtain ⟨x4_3, ex4_3, hf⟩ := zx_lt_some hf
  refine zr_istore h d_C_adapt_12 rfl (by decide) ex4_3 rfl ?_
  refine zr_iconst (v := (4 : Int32)) h d_C_adapt_14 rfl (by decide) ?_
  refine zr_aload_n h d_C_adapt_15 rfl rfl 2 rfl ?_
  refine zr_getR h d_C_adapt_16 rfl fl_C_13 sh_14 rfl ?_
  refine zr_iload_n h d_C_adapt_19 rfl rfl 3 rfl ?_
  obtain ⟨hb_4, hf⟩ := zx_gd_some hf
  refine zr_iald h d_C_adapt_20 rfl sh_16 hb_4 ?_
  refine zr_bipush (v := (15 : Int32)) h d_C_adapt_21 rfl (by decide) ?_
  rcases zx_if_some hf with ⟨hc_5, hf⟩ | ⟨hc_5, hf⟩
  · refine zr_icmp_le_t (tgt := 30) h d_C_adapt_23 rfl hc_5 ?_
    refine zr_iconst (v := (0 : Int32)) h d_C_adapt_30 rfl (by decide) ?_
    refine zr_sub [2, 3, 4, 1, 0] rfl ?_
    exact z_C_adapt_31 h hE x1 x2 x3_1 x4_3 (4 : Int32) (0 : Int32) G hf
  · refine zr_icmp_le_f h 30 d_C_adapt_23 rfl rfl hc_5 ?_
    refine zr_iconst (v := (1 : Int32)) h d_C_adapt_26 rfl (by decide) ?_
    refine zr_goto (tgt := 31) h d_C_adapt_27 rfl ?_
    refine zr_sub [2, 3, 4, 1, 0] rfl ?_
    exact z_C_adapt_31 h hE x1 x2 x3_1 x4_3 (4 : Int32) (1 : Int32) G hf
theorem c_C_adapt (l : Launch) (D : va_G) (cA : ClassId) (ad : Nat → Nat) (A : Nat → Prop) (x1 x2 : Int32) (G : zx_G) (r : Int32) (G1 : zx_G) (hf : f_C_adapt x1 x2 G = some (r, G1)) : zx_met l y_C_adapt M_C_adapt [.ref (ad 14), .int x1, .int x2] D cA ad A G r G1 :=
  zx_toMet (by decide) rfl (Nat.le_of_ble_eq_true rfl) (fun κ h hE => by exact z_C_adapt_0 h hE x1 x2 G hf)

def f_C_readSymbol_101 (x4 : Int32) (G : zx_G) : Option (Int32 × zx_G) :=
  some (x4, G)
def f_C_readSymbol_79 (x1 x4 x5 x6 : Int32) (G : zx_G) : Option (Int32 × zx_G) :=
  zx_bd (f_C_narrow x5 x6 G) fun r_2 G_1 =>
  zx_if (¬ (G_1 14 5) = 0)
    (f_C_readSymbol_101 x4 G_1)
    (zx_bd (f_C_adapt x1 x4 G_1) fun r_6 G_5 =>
    f_C_readSymbol_101 x4 G_5)
def f_C_readSymbol_35 : Nat → Int32 → Int32 → Int32 → Int32 → Int32 → Int32 → zx_G → Option (Int32 × zx_G)
  | 0, _, _, _, _, _, _, _ => none
  | n + 1, x1, x2, x3, x4, x5, x6, G =>
    zx_if (x3 ≤ x4)
      (f_C_readSymbol_79 x1 x4 x5 x6 G)
      (zx_if ((G 14 7) < x6)
        (f_C_readSymbol_79 x1 x4 x5 x6 G)
        (zx_lt (x4 + (1 : Int32)) fun x4_3 =>
        zx_lt x6 fun x5_4 =>
        zx_gd (zx_in (x2 + x4_3) 304) <|
        zx_lt (((G 14 6) * (G 15 (Int32.toNatClampNeg (x2 + x4_3)))) >>> ((15 : Int32) &&& 31)) fun x6_6 =>
        f_C_readSymbol_35 n x1 x2 x3 x4_3 x5_4 x6_6 G))
def f_C_readSymbol (x1 : Int32) (G : zx_G) : Option (Int32 × zx_G) :=
  zx_lt (x1 * (16 : Int32)) fun x2_1 =>
  zx_gd (zx_in x1 19) <|
  zx_lt ((zx_tab0 (Int32.toNatClampNeg x1)) - (1 : Int32)) fun x3_3 =>
  zx_lt (0 : Int32) fun x4_4 =>
  zx_lt (0 : Int32) fun x5_5 =>
  zx_gd (zx_in x2_1 304) <|
  zx_lt (((G 14 6) * (G 15 (Int32.toNatClampNeg x2_1))) >>> ((15 : Int32) &&& 31)) fun x6_7 =>
  f_C_readSymbol_35 2048 x1 x2_1 x3_3 x4_4 x5_5 x6_7 G
set_option maxRecDepth 100000 in
set_option maxHeartbeats 4000000 in
theorem z_C_readSymbol_101 {κ : zx_K} {ad : Nat → Nat} {r : Int32} {G1 : zx_G} (h : zx_C M_C_readSymbol κ ad) (hE : zx_E M_C_readSymbol κ ad r G1) (x4 : Int32) (G : zx_G) (hf : f_C_readSymbol_101 x4 G = some (r, G1)) : zx_Z κ ad 101 [(4, .int x4)] [] G := by
  unfold f_C_readSymbol_101 at hf
  refine zr_iload h d_C_readSymbol_101 rfl 0 rfl ?_
  exact zr_iret h hE d_C_readSymbol_103 rfl hf
set_option maxRecDepth 100000 in
set_option maxHeartbeats 4000000 in
theorem z_C_readSymbol_79 {κ : zx_K} {ad : Nat → Nat} {r : Int32} {G1 : zx_G} (h : zx_C M_C_readSymbol κ ad) (hE : zx_E M_C_readSymbol κ ad r G1) (x1 x4 x5 x6 : Int32) (G : zx_G) (hf : f_C_readSymbol_79 x1 x4 x5 x6 G = some (r, G1)) : zx_Z κ ad 79 [(0, .ref (ad 14)), (1, .int x1), (4, .int x4), (5, .int x5), (6, .int x6)] [] G := by
  unfold f_C_readSymbol_79 at hf
  refine zr_aload_n h d_C_readSymbol_79 rfl rfl 0 rfl ?_
  refine zr_iload h d_C_readSymbol_80 rfl 3 rfl ?_
  refine zr_iload h d_C_readSymbol_82 rfl 4 rfl ?_
  obtain ⟨r_2, G_1, hq_3, hf⟩ := zx_bd_some hf
  refine zr_callVV (As := [.int x5, .int x6]) (b := 14) h (c_C_narrow _ _ _ _ _ x5 x6 G r_2 G_1 hq_3) cc_C_64 d_C_readSymbol_84 rfl rfl rfl sh_14 ⟨rfl, rfl, by decide, by decide⟩ (Nat.le_of_ble_eq_true rfl) ?_
  refine zr_aload_n h d_C_readSymbol_87 rfl rfl 0 rfl ?_
  refine zr_getI h d_C_readSymbol_88 rfl fl_C_35 sh_14 rfl ?_
  rcases zx_if_some hf with ⟨hc_4, hf⟩ | ⟨hc_4, hf⟩
  · refine zr_if_ne_t (tgt := 101) h d_C_readSymbol_91 rfl hc_4 ?_
    refine zr_sub [2] rfl ?_
    exact z_C_readSymbol_101 h hE x4 G_1 hf
  · refine zr_if_ne_f h 101 d_C_readSymbol_91 rfl rfl hc_4 ?_
    refine zr_aload_n h d_C_readSymbol_94 rfl rfl 0 rfl ?_
    refine zr_iload_n h d_C_readSymbol_95 rfl rfl 1 rfl ?_
    refine zr_iload h d_C_readSymbol_96 rfl 2 rfl ?_
    obtain ⟨r_6, G_5, hq_7, hf⟩ := zx_bd_some hf
    refine zr_callVV (As := [.int x1, .int x4]) (b := 14) h (c_C_adapt _ _ _ _ _ x1 x4 G_1 r_6 G_5 hq_7) cc_C_68 d_C_readSymbol_98 rfl rfl rfl sh_14 ⟨rfl, rfl, by decide, by decide⟩ (Nat.le_of_ble_eq_true rfl) ?_
    refine zr_sub [2] rfl ?_
    exact z_C_readSymbol_101 h hE x4 G_5 hf
set_option maxRecDepth 100000 in
set_option maxHeartbeats 4000000 in
theorem z_C_readSymbol_35 {κ : zx_K} {ad : Nat → Nat} {r : Int32} {G1 : zx_G} (h : zx_C M_C_readSymbol κ ad) (hE : zx_E M_C_readSymbol κ ad r G1) : ∀ (n : Nat) (x1 x2 x3 x4 x5 x6 : Int32) (G : zx_G), f_C_readSymbol_35 n x1 x2 x3 x4 x5 x6 G = some (r, G1) → zx_Z κ ad 35 [(0, .ref (ad 14)), (1, .int x1), (2, .int x2), (3, .int x3), (4, .int x4), (5, .int x5), (6, .int x6)] [] G := by
  intro n
  induction n with
  | zero => intro x1 x2 x3 x4 x5 x6 G hf; cases hf
  | succ n ih =>
    intro x1 x2 x3 x4 x5 x6 G hf
    unfold f_C_readSymbol_35 at hf
    refine zr_iload h d_C_readSymbol_35 rfl 4 rfl ?_
    refine zr_iload_n h d_C_readSymbol_37 rfl rfl 3 rfl ?_
    rcases zx_if_some hf with ⟨hc_1, hf⟩ | ⟨hc_1, hf⟩
    · refine zr_icmp_ge_t (tgt := 79) h d_C_readSymbol_38 rfl hc_1 ?_
      refine zr_sub [0, 1, 4, 5, 6] rfl ?_
      exact z_C_readSymbol_79 h hE x1 x4 x5 x6 G hf
    · refine zr_icmp_ge_f h 79 d_C_readSymbol_38 rfl rfl hc_1 ?_
      refine zr_aload_n h d_C_readSymbol_41 rfl rfl 0 rfl ?_
      refine zr_getI h d_C_readSymbol_42 rfl fl_C_55 sh_14 rfl ?_
      refine zr_iload h d_C_readSymbol_45 rfl 6 rfl ?_
      rcases zx_if_some hf with ⟨hc_2, hf⟩ | ⟨hc_2, hf⟩
      · refine zr_icmp_lt_t (tgt := 79) h d_C_readSymbol_47 rfl hc_2 ?_
        refine zr_sub [0, 1, 4, 5, 6] rfl ?_
        exact z_C_readSymbol_79 h hE x1 x4 x5 x6 G hf
      · refine zr_icmp_lt_f h 79 d_C_readSymbol_47 rfl rfl hc_2 ?_
        obtain ⟨x4_3, ex4_3, hf⟩ := zx_lt_some hf
        refine zr_iinc (j := 4) h d_C_readSymbol_50 rfl rfl (by decide) ex4_3 (by decide) rfl ?_
        refine zr_iload h d_C_readSymbol_53 rfl 6 rfl ?_
        obtain ⟨x5_4, ex5_4, hf⟩ := zx_lt_some hf
        refine zr_istore h d_C_readSymbol_55 rfl (by decide) ex5_4 rfl ?_
        refine zr_aload_n h d_C_readSymbol_57 rfl rfl 2 rfl ?_
        refine zr_getI h d_C_readSymbol_58 rfl fl_C_52 sh_14 rfl ?_
        refine zr_aload_n h d_C_readSymbol_61 rfl rfl 2 rfl ?_
        refine zr_getR h d_C_readSymbol_62 rfl fl_C_9 sh_14 rfl ?_
        refine zr_iload_n h d_C_readSymbol_65 rfl rfl 4 rfl ?_
        refine zr_iload h d_C_readSymbol_66 rfl 1 rfl ?_
        refine zr_iadd h d_C_readSymbol_68 rfl ?_
        obtain ⟨hb_5, hf⟩ := zx_gd_some hf
        refine zr_iald h d_C_readSymbol_69 rfl sh_15 hb_5 ?_
        refine zr_imul h d_C_readSymbol_70 rfl ?_
        refine zr_bipush (v := (15 : Int32)) h d_C_readSymbol_71 rfl (by decide) ?_
        refine zr_ishr h d_C_readSymbol_73 rfl ?_
        obtain ⟨x6_6, ex6_6, hf⟩ := zx_lt_some hf
        refine zr_istore h d_C_readSymbol_74 rfl (by decide) ex6_6 rfl ?_
        refine zr_goto (tgt := 35) h d_C_readSymbol_76 rfl ?_
        refine zr_sub [3, 4, 5, 6, 2, 1, 0] rfl ?_
        exact ih x1 x2 x3 x4_3 x5_4 x6_6 G hf
set_option maxRecDepth 100000 in
set_option maxHeartbeats 4000000 in
theorem z_C_readSymbol_0 {κ : zx_K} {ad : Nat → Nat} {r : Int32} {G1 : zx_G} (h : zx_C M_C_readSymbol κ ad) (hE : zx_E M_C_readSymbol κ ad r G1) (x1 : Int32) (G : zx_G) (hf : f_C_readSymbol x1 G = some (r, G1)) : zx_Z κ ad 0 [(0, .ref (ad 14)), (1, .int x1)] [] G := by
  unfold f_C_readSymbol at hf
  refine zr_iload_n h d_C_readSymbol_0 rfl rfl 1 rfl ?_
  refine zr_bipush (v := (16 : Int32)) h d_C_readSymbol_1 rfl (by decide) ?_
  refine zr_imul h d_C_readSymbol_3 rfl ?_
  obtain ⟨x2_1, ex2_1, hf⟩ := zx_lt_some hf
  refine zr_istore_n h d_C_readSymbol_4 rfl rfl (by decide) ex2_1 rfl ?_
  refine zr_gets0 h d_C_readSymbol_5 rfl sl_C_48 ?_
  refine zr_iload_n h d_C_readSymbol_8 rfl rfl 2 rfl ?_
  obtain ⟨hb_2, hf⟩ := zx_gd_some hf
  refine zr_tald0 h d_C_readSymbol_9 rfl hb_2 ?_
  refine zr_iconst (v := (1 : Int32)) h d_C_readSymbol_10 rfl (by decide) ?_
  refine zr_isub h d_C_readSymbol_11 rfl ?_
  obtain ⟨x3_3, ex3_3, hf⟩ := zx_lt_some hf
  refine zr_istore_n h d_C_readSymbol_12 rfl rfl (by decide) ex3_3 rfl ?_
  refine zr_iconst (v := (0 : Int32)) h d_C_readSymbol_13 rfl (by decide) ?_
  obtain ⟨x4_4, ex4_4, hf⟩ := zx_lt_some hf
  refine zr_istore h d_C_readSymbol_14 rfl (by decide) ex4_4 rfl ?_
  refine zr_iconst (v := (0 : Int32)) h d_C_readSymbol_16 rfl (by decide) ?_
  obtain ⟨x5_5, ex5_5, hf⟩ := zx_lt_some hf
  refine zr_istore h d_C_readSymbol_17 rfl (by decide) ex5_5 rfl ?_
  refine zr_aload_n h d_C_readSymbol_19 rfl rfl 4 rfl ?_
  refine zr_getI h d_C_readSymbol_20 rfl fl_C_52 sh_14 rfl ?_
  refine zr_aload_n h d_C_readSymbol_23 rfl rfl 4 rfl ?_
  refine zr_getR h d_C_readSymbol_24 rfl fl_C_9 sh_14 rfl ?_
  refine zr_iload_n h d_C_readSymbol_27 rfl rfl 3 rfl ?_
  obtain ⟨hb_6, hf⟩ := zx_gd_some hf
  refine zr_iald h d_C_readSymbol_28 rfl sh_15 hb_6 ?_
  refine zr_imul h d_C_readSymbol_29 rfl ?_
  refine zr_bipush (v := (15 : Int32)) h d_C_readSymbol_30 rfl (by decide) ?_
  refine zr_ishr h d_C_readSymbol_32 rfl ?_
  obtain ⟨x6_7, ex6_7, hf⟩ := zx_lt_some hf
  refine zr_istore h d_C_readSymbol_33 rfl (by decide) ex6_7 rfl ?_
  refine zr_sub [5, 6, 4, 3, 2, 1, 0] rfl ?_
  exact z_C_readSymbol_35 h hE 2048 x1 x2_1 x3_3 x4_4 x5_5 x6_7 G hf
theorem c_C_readSymbol (l : Launch) (D : va_G) (cA : ClassId) (ad : Nat → Nat) (A : Nat → Prop) (x1 : Int32) (G : zx_G) (r : Int32) (G1 : zx_G) (hf : f_C_readSymbol x1 G = some (r, G1)) : zx_met l y_C_readSymbol M_C_readSymbol [.ref (ad 14), .int x1] D cA ad A G r G1 :=
  zx_toMet (by decide) rfl (Nat.le_of_ble_eq_true rfl) (fun κ h hE => by exact z_C_readSymbol_0 h hE x1 G hf)

def f_D_transformLine_109 (k36 : Int32 → Int32 → Int32 → Int32 → zx_G → Option (Int32 × zx_G)) (x1 x2 x3 x4 x5 : Int32) (G : zx_G) : Option (Int32 × zx_G) :=
  zx_gd (zx_in (x1 + (x4 * x2)) 16) <|
  zx_lt (zx_up G 24 (Int32.toNatClampNeg (x1 + (x4 * x2))) (x5 >>> ((12 : Int32) &&& 31))) fun G_2 =>
  zx_lt (x4 + (1 : Int32)) fun x4_3 =>
  k36 x1 x2 x3 x4_3 G_2
def f_D_transformLine_73 (k36 : Int32 → Int32 → Int32 → Int32 → zx_G → Option (Int32 × zx_G)) : Nat → Int32 → Int32 → Int32 → Int32 → Int32 → Int32 → zx_G → Option (Int32 × zx_G)
  | 0, _, _, _, _, _, _, _ => none
  | n + 1, x1, x2, x3, x4, x5, x6, G =>
    zx_if ((4 : Int32) ≤ x6)
      (f_D_transformLine_109 k36 x1 x2 x3 x4 x5 G)
      (zx_gd (zx_in (((4 : Int32) * x4) + x6) 16) <|
      zx_gd (zx_in x6 4) <|
      zx_lt (x5 + ((zx_tab2 (Int32.toNatClampNeg (((4 : Int32) * x4) + x6))) * (G 25 (Int32.toNatClampNeg x6)))) fun x5_4 =>
      zx_lt (x6 + (1 : Int32)) fun x6_5 =>
      f_D_transformLine_73 k36 n x1 x2 x3 x4 x5_4 x6_5 G)
def f_D_transformLine_36 : Nat → Int32 → Int32 → Int32 → Int32 → zx_G → Option (Int32 × zx_G)
  | 0, _, _, _, _, _ => none
  | n + 1, x1, x2, x3, x4, G =>
    zx_if ((4 : Int32) ≤ x4)
      (some ((0 : Int32), G))
      (zx_lt (2048 : Int32) fun x5_2 =>
      zx_if (x3 = 0)
        (zx_lt (0 : Int32) fun x6_4 =>
        f_D_transformLine_73 (f_D_transformLine_36 n) 2048 x1 x2 x3 x4 x5_2 x6_4 G)
        (zx_gd (zx_in x4 4) <|
        zx_lt (x5_2 + ((5793 : Int32) * (G 25 (Int32.toNatClampNeg x4)))) fun x5_6 =>
        f_D_transformLine_109 (f_D_transformLine_36 n) x1 x2 x3 x4 x5_6 G))
def f_D_transformLine_3 : Nat → Int32 → Int32 → Int32 → Int32 → zx_G → Option (Int32 × zx_G)
  | 0, _, _, _, _, _ => none
  | n + 1, x1, x2, x3, x4, G =>
    zx_if ((4 : Int32) ≤ x4)
      (zx_lt (0 : Int32) fun x4_2 =>
      f_D_transformLine_36 2048 x1 x2 x3 x4_2 G)
      (zx_gd (zx_in (x1 + (x4 * x2)) 16) <|
      zx_gd (zx_in x4 4) <|
      zx_lt (zx_up G 25 (Int32.toNatClampNeg x4) (G 24 (Int32.toNatClampNeg (x1 + (x4 * x2))))) fun G_5 =>
      zx_lt (x4 + (1 : Int32)) fun x4_6 =>
      f_D_transformLine_3 n x1 x2 x3 x4_6 G_5)
def f_D_transformLine (x1 x2 x3 : Int32) (G : zx_G) : Option (Int32 × zx_G) :=
  zx_lt (0 : Int32) fun x4_1 =>
  f_D_transformLine_3 2048 x1 x2 x3 x4_1 G
set_option maxRecDepth 100000 in
set_option maxHeartbeats 4000000 in
theorem z_D_transformLine_109 {κ : zx_K} {ad : Nat → Nat} {r : Int32} {G1 : zx_G} (h : zx_C M_D_transformLine κ ad) (hE : zx_E M_D_transformLine κ ad r G1) {k36 : Int32 → Int32 → Int32 → Int32 → zx_G → Option (Int32 × zx_G)} (hk36 : ∀ (x1 x2 x3 x4 : Int32) (G : zx_G), k36 x1 x2 x3 x4 G = some (r, G1) → zx_Z κ ad 36 [(0, .ref (ad 23)), (1, .int x1), (2, .int x2), (3, .int x3), (4, .int x4)] [] G) (x1 x2 x3 x4 x5 : Int32) (G : zx_G) (hf : f_D_transformLine_109 k36 x1 x2 x3 x4 x5 G = some (r, G1)) : zx_Z κ ad 109 [(0, .ref (ad 23)), (1, .int x1), (2, .int x2), (3, .int x3), (4, .int x4), (5, .int x5)] [] G := by
  unfold f_D_transformLine_109 at hf
  refine zr_aload_n h d_D_transformLine_109 rfl rfl 0 rfl ?_
  refine zr_getR h d_D_transformLine_110 rfl fl_D_7 sh_23 rfl ?_
  refine zr_iload_n h d_D_transformLine_113 rfl rfl 1 rfl ?_
  refine zr_iload h d_D_transformLine_114 rfl 4 rfl ?_
  refine zr_iload_n h d_D_transformLine_116 rfl rfl 2 rfl ?_
  refine zr_imul h d_D_transformLine_117 rfl ?_
  refine zr_iadd h d_D_transformLine_118 rfl ?_
  refine zr_iload h d_D_transformLine_119 rfl 5 rfl ?_
  refine zr_bipush (v := (12 : Int32)) h d_D_transformLine_121 rfl (by decide) ?_
  refine zr_ishr h d_D_transformLine_123 rfl ?_
  obtain ⟨hb_1, hf⟩ := zx_gd_some hf
  obtain ⟨G_2, eG_2, hf⟩ := zx_lt_some hf
  refine zr_iast h d_D_transformLine_124 rfl sh_24 hb_1 eG_2 ?_
  obtain ⟨x4_3, ex4_3, hf⟩ := zx_lt_some hf
  refine zr_iinc (j := 4) h d_D_transformLine_125 rfl rfl (by decide) ex4_3 (by decide) rfl ?_
  refine zr_goto (tgt := 36) h d_D_transformLine_128 rfl ?_
  refine zr_sub [1, 2, 3, 4, 0] rfl ?_
  exact hk36 x1 x2 x3 x4_3 G_2 hf
set_option maxRecDepth 100000 in
set_option maxHeartbeats 4000000 in
theorem z_D_transformLine_73 {κ : zx_K} {ad : Nat → Nat} {r : Int32} {G1 : zx_G} (h : zx_C M_D_transformLine κ ad) (hE : zx_E M_D_transformLine κ ad r G1) {k36 : Int32 → Int32 → Int32 → Int32 → zx_G → Option (Int32 × zx_G)} (hk36 : ∀ (x1 x2 x3 x4 : Int32) (G : zx_G), k36 x1 x2 x3 x4 G = some (r, G1) → zx_Z κ ad 36 [(0, .ref (ad 23)), (1, .int x1), (2, .int x2), (3, .int x3), (4, .int x4)] [] G) : ∀ (n : Nat) (x1 x2 x3 x4 x5 x6 : Int32) (G : zx_G), f_D_transformLine_73 k36 n x1 x2 x3 x4 x5 x6 G = some (r, G1) → zx_Z κ ad 73 [(0, .ref (ad 23)), (1, .int x1), (2, .int x2), (3, .int x3), (4, .int x4), (5, .int x5), (6, .int x6)] [] G := by
  intro n
  induction n with
  | zero => intro x1 x2 x3 x4 x5 x6 G hf; cases hf
  | succ n ih =>
    intro x1 x2 x3 x4 x5 x6 G hf
    unfold f_D_transformLine_73 at hf
    refine zr_iload h d_D_transformLine_73 rfl 6 rfl ?_
    refine zr_iconst (v := (4 : Int32)) h d_D_transformLine_75 rfl (by decide) ?_
    rcases zx_if_some hf with ⟨hc_1, hf⟩ | ⟨hc_1, hf⟩
    · refine zr_icmp_ge_t (tgt := 109) h d_D_transformLine_76 rfl hc_1 ?_
      refine zr_sub [0, 1, 2, 3, 4, 5] rfl ?_
      exact z_D_transformLine_109 h hE hk36 x1 x2 x3 x4 x5 G hf
    · refine zr_icmp_ge_f h 109 d_D_transformLine_76 rfl rfl hc_1 ?_
      refine zr_iload h d_D_transformLine_79 rfl 5 rfl ?_
      refine zr_gets2 h d_D_transformLine_81 rfl sl_D_68 ?_
      refine zr_iconst (v := (4 : Int32)) h d_D_transformLine_84 rfl (by decide) ?_
      refine zr_iload h d_D_transformLine_85 rfl 4 rfl ?_
      refine zr_imul h d_D_transformLine_87 rfl ?_
      refine zr_iload h d_D_transformLine_88 rfl 6 rfl ?_
      refine zr_iadd h d_D_transformLine_90 rfl ?_
      obtain ⟨hb_2, hf⟩ := zx_gd_some hf
      refine zr_tald2 h d_D_transformLine_91 rfl hb_2 ?_
      refine zr_aload_n h d_D_transformLine_92 rfl rfl 0 rfl ?_
      refine zr_getR h d_D_transformLine_93 rfl fl_D_13 sh_23 rfl ?_
      refine zr_iload h d_D_transformLine_96 rfl 6 rfl ?_
      obtain ⟨hb_3, hf⟩ := zx_gd_some hf
      refine zr_iald h d_D_transformLine_98 rfl sh_25 hb_3 ?_
      refine zr_imul h d_D_transformLine_99 rfl ?_
      refine zr_iadd h d_D_transformLine_100 rfl ?_
      obtain ⟨x5_4, ex5_4, hf⟩ := zx_lt_some hf
      refine zr_istore h d_D_transformLine_101 rfl (by decide) ex5_4 rfl ?_
      obtain ⟨x6_5, ex6_5, hf⟩ := zx_lt_some hf
      refine zr_iinc (j := 6) h d_D_transformLine_103 rfl rfl (by decide) ex6_5 (by decide) rfl ?_
      refine zr_goto (tgt := 73) h d_D_transformLine_106 rfl ?_
      refine zr_sub [2, 3, 4, 5, 6, 1, 0] rfl ?_
      exact ih x1 x2 x3 x4 x5_4 x6_5 G hf
set_option maxRecDepth 100000 in
set_option maxHeartbeats 4000000 in
theorem z_D_transformLine_36 {κ : zx_K} {ad : Nat → Nat} {r : Int32} {G1 : zx_G} (h : zx_C M_D_transformLine κ ad) (hE : zx_E M_D_transformLine κ ad r G1) : ∀ (n : Nat) (x1 x2 x3 x4 : Int32) (G : zx_G), f_D_transformLine_36 n x1 x2 x3 x4 G = some (r, G1) → zx_Z κ ad 36 [(0, .ref (ad 23)), (1, .int x1), (2, .int x2), (3, .int x3), (4, .int x4)] [] G := by
  intro n
  induction n with
  | zero => intro x1 x2 x3 x4 G hf; cases hf
  | succ n ih =>
    intro x1 x2 x3 x4 G hf
    unfold f_D_transformLine_36 at hf
    refine zr_iload h d_D_transformLine_36 rfl 4 rfl ?_
    refine zr_iconst (v := (4 : Int32)) h d_D_transformLine_38 rfl (by decide) ?_
    rcases zx_if_some hf with ⟨hc_1, hf⟩ | ⟨hc_1, hf⟩
    · refine zr_icmp_ge_t (tgt := 131) h d_D_transformLine_39 rfl hc_1 ?_
      exact zr_vret h hE d_D_transformLine_131 rfl hf
    · refine zr_icmp_ge_f h 131 d_D_transformLine_39 rfl rfl hc_1 ?_
      refine zr_sipush (v := (2048 : Int32)) h d_D_transformLine_42 rfl (by decide) ?_
      obtain ⟨x5_2, ex5_2, hf⟩ := zx_lt_some hf
      refine zr_istore h d_D_transformLine_45 rfl (by decide) ex5_2 rfl ?_
      refine zr_iload_n h d_D_transformLine_47 rfl rfl 4 rfl ?_
      rcases zx_if_some hf with ⟨hc_3, hf⟩ | ⟨hc_3, hf⟩
      · refine zr_if_eq_t (tgt := 70) h d_D_transformLine_48 rfl hc_3 ?_
        refine zr_iconst (v := (0 : Int32)) h d_D_transformLine_70 rfl (by decide) ?_
        obtain ⟨x6_4, ex6_4, hf⟩ := zx_lt_some hf
        refine zr_istore h d_D_transformLine_71 rfl (by decide) ex6_4 rfl ?_
        refine zr_sub [2, 3, 4, 5, 6, 1, 0] rfl ?_
        exact z_D_transformLine_73 h hE ih 2048 x1 x2 x3 x4 x5_2 x6_4 G hf
      · refine zr_if_eq_f h 70 d_D_transformLine_48 rfl rfl hc_3 ?_
        refine zr_iload h d_D_transformLine_51 rfl 0 rfl ?_
        refine zr_sipush (v := (5793 : Int32)) h d_D_transformLine_53 rfl (by decide) ?_
        refine zr_aload_n h d_D_transformLine_56 rfl rfl 1 rfl ?_
        refine zr_getR h d_D_transformLine_57 rfl fl_D_13 sh_23 rfl ?_
        refine zr_iload h d_D_transformLine_60 rfl 5 rfl ?_
        obtain ⟨hb_5, hf⟩ := zx_gd_some hf
        refine zr_iald h d_D_transformLine_62 rfl sh_25 hb_5 ?_
        refine zr_imul h d_D_transformLine_63 rfl ?_
        refine zr_iadd h d_D_transformLine_64 rfl ?_
        obtain ⟨x5_6, ex5_6, hf⟩ := zx_lt_some hf
        refine zr_istore h d_D_transformLine_65 rfl (by decide) ex5_6 rfl ?_
        refine zr_goto (tgt := 109) h d_D_transformLine_67 rfl ?_
        refine zr_sub [1, 2, 3, 4, 5, 0] rfl ?_
        exact z_D_transformLine_109 h hE ih x1 x2 x3 x4 x5_6 G hf
set_option maxRecDepth 100000 in
set_option maxHeartbeats 4000000 in
theorem z_D_transformLine_3 {κ : zx_K} {ad : Nat → Nat} {r : Int32} {G1 : zx_G} (h : zx_C M_D_transformLine κ ad) (hE : zx_E M_D_transformLine κ ad r G1) : ∀ (n : Nat) (x1 x2 x3 x4 : Int32) (G : zx_G), f_D_transformLine_3 n x1 x2 x3 x4 G = some (r, G1) → zx_Z κ ad 3 [(0, .ref (ad 23)), (1, .int x1), (2, .int x2), (3, .int x3), (4, .int x4)] [] G := by
  intro n
  induction n with
  | zero => intro x1 x2 x3 x4 G hf; cases hf
  | succ n ih =>
    intro x1 x2 x3 x4 G hf
    unfold f_D_transformLine_3 at hf
    refine zr_iload h d_D_transformLine_3 rfl 4 rfl ?_
    refine zr_iconst (v := (4 : Int32)) h d_D_transformLine_5 rfl (by decide) ?_
    rcases zx_if_some hf with ⟨hc_1, hf⟩ | ⟨hc_1, hf⟩
    · refine zr_icmp_ge_t (tgt := 33) h d_D_transformLine_6 rfl hc_1 ?_
      refine zr_iconst (v := (0 : Int32)) h d_D_transformLine_33 rfl (by decide) ?_
      obtain ⟨x4_2, ex4_2, hf⟩ := zx_lt_some hf
      refine zr_istore h d_D_transformLine_34 rfl (by decide) ex4_2 rfl ?_
      refine zr_sub [1, 2, 3, 4, 0] rfl ?_
      exact z_D_transformLine_36 h hE 2048 x1 x2 x3 x4_2 G hf
    · refine zr_icmp_ge_f h 33 d_D_transformLine_6 rfl rfl hc_1 ?_
      refine zr_aload_n h d_D_transformLine_9 rfl rfl 0 rfl ?_
      refine zr_getR h d_D_transformLine_10 rfl fl_D_13 sh_23 rfl ?_
      refine zr_iload h d_D_transformLine_13 rfl 4 rfl ?_
      refine zr_aload_n h d_D_transformLine_15 rfl rfl 0 rfl ?_
      refine zr_getR h d_D_transformLine_16 rfl fl_D_7 sh_23 rfl ?_
      refine zr_iload_n h d_D_transformLine_19 rfl rfl 1 rfl ?_
      refine zr_iload h d_D_transformLine_20 rfl 4 rfl ?_
      refine zr_iload_n h d_D_transformLine_22 rfl rfl 2 rfl ?_
      refine zr_imul h d_D_transformLine_23 rfl ?_
      refine zr_iadd h d_D_transformLine_24 rfl ?_
      obtain ⟨hb_3, hf⟩ := zx_gd_some hf
      refine zr_iald h d_D_transformLine_25 rfl sh_24 hb_3 ?_
      obtain ⟨hb_4, hf⟩ := zx_gd_some hf
      obtain ⟨G_5, eG_5, hf⟩ := zx_lt_some hf
      refine zr_iast h d_D_transformLine_26 rfl sh_25 hb_4 eG_5 ?_
      obtain ⟨x4_6, ex4_6, hf⟩ := zx_lt_some hf
      refine zr_iinc (j := 4) h d_D_transformLine_27 rfl rfl (by decide) ex4_6 (by decide) rfl ?_
      refine zr_goto (tgt := 3) h d_D_transformLine_30 rfl ?_
      refine zr_sub [1, 2, 3, 4, 0] rfl ?_
      exact ih x1 x2 x3 x4_6 G_5 hf
set_option maxRecDepth 100000 in
set_option maxHeartbeats 4000000 in
theorem z_D_transformLine_0 {κ : zx_K} {ad : Nat → Nat} {r : Int32} {G1 : zx_G} (h : zx_C M_D_transformLine κ ad) (hE : zx_E M_D_transformLine κ ad r G1) (x1 x2 x3 : Int32) (G : zx_G) (hf : f_D_transformLine x1 x2 x3 G = some (r, G1)) : zx_Z κ ad 0 [(0, .ref (ad 23)), (1, .int x1), (2, .int x2), (3, .int x3)] [] G := by
  unfold f_D_transformLine at hf
  refine zr_iconst (v := (0 : Int32)) h d_D_transformLine_0 rfl (by decide) ?_
  obtain ⟨x4_1, ex4_1, hf⟩ := zx_lt_some hf
  refine zr_istore h d_D_transformLine_1 rfl (by decide) ex4_1 rfl ?_
  refine zr_sub [1, 2, 3, 4, 0] rfl ?_
  exact z_D_transformLine_3 h hE 2048 x1 x2 x3 x4_1 G hf
theorem c_D_transformLine (l : Launch) (D : va_G) (cA : ClassId) (ad : Nat → Nat) (A : Nat → Prop) (x1 x2 x3 : Int32) (G : zx_G) (r : Int32) (G1 : zx_G) (hf : f_D_transformLine x1 x2 x3 G = some (r, G1)) : zx_met l y_D_transformLine M_D_transformLine [.ref (ad 23), .int x1, .int x2, .int x3] D cA ad A G r G1 :=
  zx_toMet (by decide) rfl (Nat.le_of_ble_eq_true rfl) (fun κ h hE => by exact z_D_transformLine_0 h hE x1 x2 x3 G hf)

def f_D_limitAll_2 : Nat → Int32 → zx_G → Option (Int32 × zx_G)
  | 0, _, _ => none
  | n + 1, x1, G =>
    zx_if ((16 : Int32) ≤ x1)
      (some ((0 : Int32), G))
      (zx_gd (zx_in x1 16) <|
      zx_gd (zx_in x1 16) <|
      zx_lt (zx_up G 24 (Int32.toNatClampNeg x1) (zx_mmax (-32767 : Int32) (zx_mmin (32767 : Int32) (G 24 (Int32.toNatClampNeg x1))))) fun G_4 =>
      zx_lt (x1 + (1 : Int32)) fun x1_5 =>
      f_D_limitAll_2 n x1_5 G_4)
def f_D_limitAll (G : zx_G) : Option (Int32 × zx_G) :=
  zx_lt (0 : Int32) fun x1_1 =>
  f_D_limitAll_2 2048 x1_1 G
set_option maxRecDepth 100000 in
set_option maxHeartbeats 4000000 in
theorem z_D_limitAll_2 {κ : zx_K} {ad : Nat → Nat} {r : Int32} {G1 : zx_G} (h : zx_C M_D_limitAll κ ad) (hE : zx_E M_D_limitAll κ ad r G1) : ∀ (n : Nat) (x1 : Int32) (G : zx_G), f_D_limitAll_2 n x1 G = some (r, G1) → zx_Z κ ad 2 [(0, .ref (ad 23)), (1, .int x1)] [] G := by
  intro n
  induction n with
  | zero => intro x1 G hf; cases hf
  | succ n ih =>
    intro x1 G hf
    unfold f_D_limitAll_2 at hf
    refine zr_iload_n h d_D_limitAll_2 rfl rfl 1 rfl ?_
    refine zr_bipush (v := (16 : Int32)) h d_D_limitAll_3 rfl (by decide) ?_
    rcases zx_if_some hf with ⟨hc_1, hf⟩ | ⟨hc_1, hf⟩
    · refine zr_icmp_ge_t (tgt := 38) h d_D_limitAll_5 rfl hc_1 ?_
      exact zr_vret h hE d_D_limitAll_38 rfl hf
    · refine zr_icmp_ge_f h 38 d_D_limitAll_5 rfl rfl hc_1 ?_
      refine zr_aload_n h d_D_limitAll_8 rfl rfl 0 rfl ?_
      refine zr_getR h d_D_limitAll_9 rfl fl_D_7 sh_23 rfl ?_
      refine zr_iload_n h d_D_limitAll_12 rfl rfl 1 rfl ?_
      refine zr_sipush (v := (-32767 : Int32)) h d_D_limitAll_13 rfl (by decide) ?_
      refine zr_sipush (v := (32767 : Int32)) h d_D_limitAll_16 rfl (by decide) ?_
      refine zr_aload_n h d_D_limitAll_19 rfl rfl 0 rfl ?_
      refine zr_getR h d_D_limitAll_20 rfl fl_D_7 sh_23 rfl ?_
      refine zr_iload_n h d_D_limitAll_23 rfl rfl 1 rfl ?_
      obtain ⟨hb_2, hf⟩ := zx_gd_some hf
      refine zr_iald h d_D_limitAll_24 rfl sh_24 hb_2 ?_
      refine zr_mmin h d_D_limitAll_25 rfl cc_D_59 (by decide) (Nat.le_of_ble_eq_true rfl) ?_
      refine zr_mmax h d_D_limitAll_28 rfl cc_D_65 (by decide) (Nat.le_of_ble_eq_true rfl) ?_
      obtain ⟨hb_3, hf⟩ := zx_gd_some hf
      obtain ⟨G_4, eG_4, hf⟩ := zx_lt_some hf
      refine zr_iast h d_D_limitAll_31 rfl sh_24 hb_3 eG_4 ?_
      obtain ⟨x1_5, ex1_5, hf⟩ := zx_lt_some hf
      refine zr_iinc (j := 1) h d_D_limitAll_32 rfl rfl (by decide) ex1_5 (by decide) rfl ?_
      refine zr_goto (tgt := 2) h d_D_limitAll_35 rfl ?_
      refine zr_sub [1, 0] rfl ?_
      exact ih x1_5 G_4 hf
set_option maxRecDepth 100000 in
set_option maxHeartbeats 4000000 in
theorem z_D_limitAll_0 {κ : zx_K} {ad : Nat → Nat} {r : Int32} {G1 : zx_G} (h : zx_C M_D_limitAll κ ad) (hE : zx_E M_D_limitAll κ ad r G1) (G : zx_G) (hf : f_D_limitAll G = some (r, G1)) : zx_Z κ ad 0 [(0, .ref (ad 23))] [] G := by
  unfold f_D_limitAll at hf
  refine zr_iconst (v := (0 : Int32)) h d_D_limitAll_0 rfl (by decide) ?_
  obtain ⟨x1_1, ex1_1, hf⟩ := zx_lt_some hf
  refine zr_istore_n h d_D_limitAll_1 rfl rfl (by decide) ex1_1 rfl ?_
  refine zr_sub [1, 0] rfl ?_
  exact z_D_limitAll_2 h hE 2048 x1_1 G hf
theorem c_D_limitAll (l : Launch) (D : va_G) (cA : ClassId) (ad : Nat → Nat) (A : Nat → Prop) (G : zx_G) (r : Int32) (G1 : zx_G) (hf : f_D_limitAll G = some (r, G1)) : zx_met l y_D_limitAll M_D_limitAll [.ref (ad 23)] D cA ad A G r G1 :=
  zx_toMet (by decide) rfl (Nat.le_of_ble_eq_true rfl) (fun κ h hE => by exact z_D_limitAll_0 h hE G hf)

def f_D_transform_32 (k2 : Int32 → Int32 → Int32 → zx_G → Option (Int32 × zx_G)) (x1 x2 x3 s1 s2 s3 : Int32) (G : zx_G) : Option (Int32 × zx_G) :=
  zx_gd (zx_in s1 16) <|
  zx_lt (zx_up G 24 (Int32.toNatClampNeg s1) (s2 * s3)) fun G_2 =>
  zx_lt (x3 + (1 : Int32)) fun x3_3 =>
  k2 x1 x2 x3_3 G_2
def f_D_transform_67 (k46 : Int32 → Int32 → zx_G → Option (Int32 × zx_G)) (x2 x3 s1 s2 s3 : Int32) (G : zx_G) : Option (Int32 × zx_G) :=
  zx_bd (f_D_transformLine s1 s2 s3 G) fun r_2 G_1 =>
  zx_lt (x3 + (1 : Int32)) fun x3_4 =>
  k46 x2 x3_4 G_1
def f_D_transform_101 (k82 : Int32 → Int32 → zx_G → Option (Int32 × zx_G)) (x2 x3 s1 s2 s3 : Int32) (G : zx_G) : Option (Int32 × zx_G) :=
  zx_bd (f_D_transformLine s1 s2 s3 G) fun r_2 G_1 =>
  zx_lt (x3 + (1 : Int32)) fun x3_4 =>
  k82 x2 x3_4 G_1
def f_D_transform_112 : Nat → Int32 → zx_G → Option (Int32 × zx_G)
  | 0, _, _ => none
  | n + 1, x3, G =>
    zx_if ((16 : Int32) ≤ x3)
      (some ((0 : Int32), G))
      (zx_gd (zx_in x3 16) <|
      zx_gd (zx_in x3 16) <|
      zx_lt (zx_up G 24 (Int32.toNatClampNeg x3) (((G 24 (Int32.toNatClampNeg x3)) + (8 : Int32)) >>> ((4 : Int32) &&& 31))) fun G_4 =>
      zx_lt (x3 + (1 : Int32)) fun x3_5 =>
      f_D_transform_112 n x3_5 G_4)
def f_D_transform_82 : Nat → Int32 → Int32 → zx_G → Option (Int32 × zx_G)
  | 0, _, _, _ => none
  | n + 1, x2, x3, G =>
    zx_if ((4 : Int32) ≤ x3)
      (zx_lt (0 : Int32) fun x3_2 =>
      f_D_transform_112 2048 x3_2 G)
      (zx_if ((x2 &&& (2 : Int32)) = 0)
        (f_D_transform_101 (f_D_transform_82 n) x2 x3 x3 (4 : Int32) (0 : Int32) G)
        (f_D_transform_101 (f_D_transform_82 n) x2 x3 x3 (4 : Int32) (1 : Int32) G))
def f_D_transform_46 : Nat → Int32 → Int32 → zx_G → Option (Int32 × zx_G)
  | 0, _, _, _ => none
  | n + 1, x2, x3, G =>
    zx_if ((4 : Int32) ≤ x3)
      (zx_bd (f_D_limitAll G) fun r_3 G_2 =>
      zx_lt (0 : Int32) fun x3_5 =>
      f_D_transform_82 2048 x2 x3_5 G_2)
      (zx_if ((x2 &&& (1 : Int32)) = 0)
        (f_D_transform_67 (f_D_transform_46 n) x2 x3 ((4 : Int32) * x3) (1 : Int32) (0 : Int32) G)
        (f_D_transform_67 (f_D_transform_46 n) x2 x3 ((4 : Int32) * x3) (1 : Int32) (1 : Int32) G))
def f_D_transform_2 : Nat → Int32 → Int32 → Int32 → zx_G → Option (Int32 × zx_G)
  | 0, _, _, _, _ => none
  | n + 1, x1, x2, x3, G =>
    zx_if ((16 : Int32) ≤ x3)
      (zx_bd (f_D_limitAll G) fun r_3 G_2 =>
      zx_lt (0 : Int32) fun x3_5 =>
      f_D_transform_46 2048 x2 x3_5 G_2)
      (zx_gd (zx_in x3 16) <|
      zx_if (¬ x3 = 0)
        (f_D_transform_32 (f_D_transform_2 n) x1 x2 x3 x3 (G 24 (Int32.toNatClampNeg x3)) ((4 : Int32) + ((3 : Int32) * x1)) G)
        (f_D_transform_32 (f_D_transform_2 n) x1 x2 x3 x3 (G 24 (Int32.toNatClampNeg x3)) ((4 : Int32) + ((2 : Int32) * x1)) G))
def f_D_transform (x1 x2 : Int32) (G : zx_G) : Option (Int32 × zx_G) :=
  zx_lt (0 : Int32) fun x3_1 =>
  f_D_transform_2 2048 x1 x2 x3_1 G
set_option maxRecDepth 100000 in
set_option maxHeartbeats 4000000 in
theorem z_D_transform_32 {κ : zx_K} {ad : Nat → Nat} {r : Int32} {G1 : zx_G} (h : zx_C M_D_transform κ ad) (hE : zx_E M_D_transform κ ad r G1) {k2 : Int32 → Int32 → Int32 → zx_G → Option (Int32 × zx_G)} (hk2 : ∀ (x1 x2 x3 : Int32) (G : zx_G), k2 x1 x2 x3 G = some (r, G1) → zx_Z κ ad 2 [(0, .ref (ad 23)), (1, .int x1), (2, .int x2), (3, .int x3)] [] G) (x1 x2 x3 s1 s2 s3 : Int32) (G : zx_G) (hf : f_D_transform_32 k2 x1 x2 x3 s1 s2 s3 G = some (r, G1)) : zx_Z κ ad 32 [(0, .ref (ad 23)), (1, .int x1), (2, .int x2), (3, .int x3)] [.int s3, .int s2, .int s1, .ref (ad 24)] G := by
  unfold f_D_transform_32 at hf
  refine zr_imul h d_D_transform_32 rfl ?_
  obtain ⟨hb_1, hf⟩ := zx_gd_some hf
  obtain ⟨G_2, eG_2, hf⟩ := zx_lt_some hf
  refine zr_iast h d_D_transform_33 rfl sh_24 hb_1 eG_2 ?_
  obtain ⟨x3_3, ex3_3, hf⟩ := zx_lt_some hf
  refine zr_iinc (j := 3) h d_D_transform_34 rfl rfl (by decide) ex3_3 (by decide) rfl ?_
  refine zr_goto (tgt := 2) h d_D_transform_37 rfl ?_
  refine zr_sub [1, 2, 3, 0] rfl ?_
  exact hk2 x1 x2 x3_3 G_2 hf
set_option maxRecDepth 100000 in
set_option maxHeartbeats 4000000 in
theorem z_D_transform_67 {κ : zx_K} {ad : Nat → Nat} {r : Int32} {G1 : zx_G} (h : zx_C M_D_transform κ ad) (hE : zx_E M_D_transform κ ad r G1) {k46 : Int32 → Int32 → zx_G → Option (Int32 × zx_G)} (hk46 : ∀ (x2 x3 : Int32) (G : zx_G), k46 x2 x3 G = some (r, G1) → zx_Z κ ad 46 [(0, .ref (ad 23)), (2, .int x2), (3, .int x3)] [] G) (x2 x3 s1 s2 s3 : Int32) (G : zx_G) (hf : f_D_transform_67 k46 x2 x3 s1 s2 s3 G = some (r, G1)) : zx_Z κ ad 67 [(0, .ref (ad 23)), (2, .int x2), (3, .int x3)] [.int s3, .int s2, .int s1, .ref (ad 23)] G := by
  unfold f_D_transform_67 at hf
  obtain ⟨r_2, G_1, hq_3, hf⟩ := zx_bd_some hf
  refine zr_callVV (As := [.int s1, .int s2, .int s3]) (b := 23) h (c_D_transformLine _ _ _ _ _ s1 s2 s3 G r_2 G_1 hq_3) cc_D_55 d_D_transform_67 rfl rfl rfl sh_23 ⟨rfl, rfl, by decide, by decide⟩ (Nat.le_of_ble_eq_true rfl) ?_
  obtain ⟨x3_4, ex3_4, hf⟩ := zx_lt_some hf
  refine zr_iinc (j := 2) h d_D_transform_70 rfl rfl (by decide) ex3_4 (by decide) rfl ?_
  refine zr_goto (tgt := 46) h d_D_transform_73 rfl ?_
  refine zr_sub [1, 2, 0] rfl ?_
  exact hk46 x2 x3_4 G_1 hf
set_option maxRecDepth 100000 in
set_option maxHeartbeats 4000000 in
theorem z_D_transform_101 {κ : zx_K} {ad : Nat → Nat} {r : Int32} {G1 : zx_G} (h : zx_C M_D_transform κ ad) (hE : zx_E M_D_transform κ ad r G1) {k82 : Int32 → Int32 → zx_G → Option (Int32 × zx_G)} (hk82 : ∀ (x2 x3 : Int32) (G : zx_G), k82 x2 x3 G = some (r, G1) → zx_Z κ ad 82 [(0, .ref (ad 23)), (2, .int x2), (3, .int x3)] [] G) (x2 x3 s1 s2 s3 : Int32) (G : zx_G) (hf : f_D_transform_101 k82 x2 x3 s1 s2 s3 G = some (r, G1)) : zx_Z κ ad 101 [(0, .ref (ad 23)), (2, .int x2), (3, .int x3)] [.int s3, .int s2, .int s1, .ref (ad 23)] G := by
  unfold f_D_transform_101 at hf
  obtain ⟨r_2, G_1, hq_3, hf⟩ := zx_bd_some hf
  refine zr_callVV (As := [.int s1, .int s2, .int s3]) (b := 23) h (c_D_transformLine _ _ _ _ _ s1 s2 s3 G r_2 G_1 hq_3) cc_D_55 d_D_transform_101 rfl rfl rfl sh_23 ⟨rfl, rfl, by decide, by decide⟩ (Nat.le_of_ble_eq_true rfl) ?_
  obtain ⟨x3_4, ex3_4, hf⟩ := zx_lt_some hf
  refine zr_iinc (j := 2) h d_D_transform_104 rfl rfl (by decide) ex3_4 (by decide) rfl ?_
  refine zr_goto (tgt := 82) h d_D_transform_107 rfl ?_
  refine zr_sub [1, 2, 0] rfl ?_
  exact hk82 x2 x3_4 G_1 hf
set_option maxRecDepth 100000 in
set_option maxHeartbeats 4000000 in
theorem z_D_transform_112 {κ : zx_K} {ad : Nat → Nat} {r : Int32} {G1 : zx_G} (h : zx_C M_D_transform κ ad) (hE : zx_E M_D_transform κ ad r G1) : ∀ (n : Nat) (x3 : Int32) (G : zx_G), f_D_transform_112 n x3 G = some (r, G1) → zx_Z κ ad 112 [(0, .ref (ad 23)), (3, .int x3)] [] G := by
  intro n
  induction n with
  | zero => intro x3 G hf; cases hf
  | succ n ih =>
    intro x3 G hf
    unfold f_D_transform_112 at hf
    refine zr_iload_n h d_D_transform_112 rfl rfl 1 rfl ?_
    refine zr_bipush (v := (16 : Int32)) h d_D_transform_113 rfl (by decide) ?_
    rcases zx_if_some hf with ⟨hc_1, hf⟩ | ⟨hc_1, hf⟩
    · refine zr_icmp_ge_t (tgt := 141) h d_D_transform_115 rfl hc_1 ?_
      exact zr_vret h hE d_D_transform_141 rfl hf
    · refine zr_icmp_ge_f h 141 d_D_transform_115 rfl rfl hc_1 ?_
      refine zr_aload_n h d_D_transform_118 rfl rfl 0 rfl ?_
      refine zr_getR h d_D_transform_119 rfl fl_D_7 sh_23 rfl ?_
      refine zr_iload_n h d_D_transform_122 rfl rfl 1 rfl ?_
      refine zr_aload_n h d_D_transform_123 rfl rfl 0 rfl ?_
      refine zr_getR h d_D_transform_124 rfl fl_D_7 sh_23 rfl ?_
      refine zr_iload_n h d_D_transform_127 rfl rfl 1 rfl ?_
      obtain ⟨hb_2, hf⟩ := zx_gd_some hf
      refine zr_iald h d_D_transform_128 rfl sh_24 hb_2 ?_
      refine zr_bipush (v := (8 : Int32)) h d_D_transform_129 rfl (by decide) ?_
      refine zr_iadd h d_D_transform_131 rfl ?_
      refine zr_iconst (v := (4 : Int32)) h d_D_transform_132 rfl (by decide) ?_
      refine zr_ishr h d_D_transform_133 rfl ?_
      obtain ⟨hb_3, hf⟩ := zx_gd_some hf
      obtain ⟨G_4, eG_4, hf⟩ := zx_lt_some hf
      refine zr_iast h d_D_transform_134 rfl sh_24 hb_3 eG_4 ?_
      obtain ⟨x3_5, ex3_5, hf⟩ := zx_lt_some hf
      refine zr_iinc (j := 1) h d_D_transform_135 rfl rfl (by decide) ex3_5 (by decide) rfl ?_
      refine zr_goto (tgt := 112) h d_D_transform_138 rfl ?_
      refine zr_sub [1, 0] rfl ?_
      exact ih x3_5 G_4 hf
set_option maxRecDepth 100000 in
set_option maxHeartbeats 4000000 in
theorem z_D_transform_82 {κ : zx_K} {ad : Nat → Nat} {r : Int32} {G1 : zx_G} (h : zx_C M_D_transform κ ad) (hE : zx_E M_D_transform κ ad r G1) : ∀ (n : Nat) (x2 x3 : Int32) (G : zx_G), f_D_transform_82 n x2 x3 G = some (r, G1) → zx_Z κ ad 82 [(0, .ref (ad 23)), (2, .int x2), (3, .int x3)] [] G := by
  intro n
  induction n with
  | zero => intro x2 x3 G hf; cases hf
  | succ n ih =>
    intro x2 x3 G hf
    unfold f_D_transform_82 at hf
    refine zr_iload_n h d_D_transform_82 rfl rfl 2 rfl ?_
    refine zr_iconst (v := (4 : Int32)) h d_D_transform_83 rfl (by decide) ?_
    rcases zx_if_some hf with ⟨hc_1, hf⟩ | ⟨hc_1, hf⟩
    · refine zr_icmp_ge_t (tgt := 110) h d_D_transform_84 rfl hc_1 ?_
      refine zr_iconst (v := (0 : Int32)) h d_D_transform_110 rfl (by decide) ?_
      obtain ⟨x3_2, ex3_2, hf⟩ := zx_lt_some hf
      refine zr_istore_n h d_D_transform_111 rfl rfl (by decide) ex3_2 rfl ?_
      refine zr_sub [1, 0] rfl ?_
      exact z_D_transform_112 h hE 2048 x3_2 G hf
    · refine zr_icmp_ge_f h 110 d_D_transform_84 rfl rfl hc_1 ?_
      refine zr_aload_n h d_D_transform_87 rfl rfl 0 rfl ?_
      refine zr_iload_n h d_D_transform_88 rfl rfl 2 rfl ?_
      refine zr_iconst (v := (4 : Int32)) h d_D_transform_89 rfl (by decide) ?_
      refine zr_iload_n h d_D_transform_90 rfl rfl 1 rfl ?_
      refine zr_iconst (v := (2 : Int32)) h d_D_transform_91 rfl (by decide) ?_
      refine zr_iand h d_D_transform_92 rfl ?_
      rcases zx_if_some hf with ⟨hc_3, hf⟩ | ⟨hc_3, hf⟩
      · refine zr_if_eq_t (tgt := 100) h d_D_transform_93 rfl hc_3 ?_
        refine zr_iconst (v := (0 : Int32)) h d_D_transform_100 rfl (by decide) ?_
        exact z_D_transform_101 h hE ih x2 x3 x3 (4 : Int32) (0 : Int32) G hf
      · refine zr_if_eq_f h 100 d_D_transform_93 rfl rfl hc_3 ?_
        refine zr_iconst (v := (1 : Int32)) h d_D_transform_96 rfl (by decide) ?_
        refine zr_goto (tgt := 101) h d_D_transform_97 rfl ?_
        exact z_D_transform_101 h hE ih x2 x3 x3 (4 : Int32) (1 : Int32) G hf
set_option maxRecDepth 100000 in
set_option maxHeartbeats 4000000 in
theorem z_D_transform_46 {κ : zx_K} {ad : Nat → Nat} {r : Int32} {G1 : zx_G} (h : zx_C M_D_transform κ ad) (hE : zx_E M_D_transform κ ad r G1) : ∀ (n : Nat) (x2 x3 : Int32) (G : zx_G), f_D_transform_46 n x2 x3 G = some (r, G1) → zx_Z κ ad 46 [(0, .ref (ad 23)), (2, .int x2), (3, .int x3)] [] G := by
  intro n
  induction n with
  | zero => intro x2 x3 G hf; cases hf
  | succ n ih =>
    intro x2 x3 G hf
    unfold f_D_transform_46 at hf
    refine zr_iload_n h d_D_transform_46 rfl rfl 2 rfl ?_
    refine zr_iconst (v := (4 : Int32)) h d_D_transform_47 rfl (by decide) ?_
    rcases zx_if_some hf with ⟨hc_1, hf⟩ | ⟨hc_1, hf⟩
    · refine zr_icmp_ge_t (tgt := 76) h d_D_transform_48 rfl hc_1 ?_
      refine zr_aload_n h d_D_transform_76 rfl rfl 0 rfl ?_
      obtain ⟨r_3, G_2, hq_4, hf⟩ := zx_bd_some hf
      refine zr_callVV (As := []) (b := 23) h (c_D_limitAll _ _ _ _ _ G r_3 G_2 hq_4) cc_D_52 d_D_transform_77 rfl rfl rfl sh_23 ⟨rfl, rfl, by decide, by decide⟩ (Nat.le_of_ble_eq_true rfl) ?_
      refine zr_iconst (v := (0 : Int32)) h d_D_transform_80 rfl (by decide) ?_
      obtain ⟨x3_5, ex3_5, hf⟩ := zx_lt_some hf
      refine zr_istore_n h d_D_transform_81 rfl rfl (by decide) ex3_5 rfl ?_
      refine zr_sub [1, 2, 0] rfl ?_
      exact z_D_transform_82 h hE 2048 x2 x3_5 G_2 hf
    · refine zr_icmp_ge_f h 76 d_D_transform_48 rfl rfl hc_1 ?_
      refine zr_aload_n h d_D_transform_51 rfl rfl 0 rfl ?_
      refine zr_iconst (v := (4 : Int32)) h d_D_transform_52 rfl (by decide) ?_
      refine zr_iload_n h d_D_transform_53 rfl rfl 2 rfl ?_
      refine zr_imul h d_D_transform_54 rfl ?_
      refine zr_iconst (v := (1 : Int32)) h d_D_transform_55 rfl (by decide) ?_
      refine zr_iload_n h d_D_transform_56 rfl rfl 1 rfl ?_
      refine zr_iconst (v := (1 : Int32)) h d_D_transform_57 rfl (by decide) ?_
      refine zr_iand h d_D_transform_58 rfl ?_
      rcases zx_if_some hf with ⟨hc_6, hf⟩ | ⟨hc_6, hf⟩
      · refine zr_if_eq_t (tgt := 66) h d_D_transform_59 rfl hc_6 ?_
        refine zr_iconst (v := (0 : Int32)) h d_D_transform_66 rfl (by decide) ?_
        exact z_D_transform_67 h hE ih x2 x3 ((4 : Int32) * x3) (1 : Int32) (0 : Int32) G hf
      · refine zr_if_eq_f h 66 d_D_transform_59 rfl rfl hc_6 ?_
        refine zr_iconst (v := (1 : Int32)) h d_D_transform_62 rfl (by decide) ?_
        refine zr_goto (tgt := 67) h d_D_transform_63 rfl ?_
        exact z_D_transform_67 h hE ih x2 x3 ((4 : Int32) * x3) (1 : Int32) (1 : Int32) G hf
set_option maxRecDepth 100000 in
set_option maxHeartbeats 4000000 in
theorem z_D_transform_2 {κ : zx_K} {ad : Nat → Nat} {r : Int32} {G1 : zx_G} (h : zx_C M_D_transform κ ad) (hE : zx_E M_D_transform κ ad r G1) : ∀ (n : Nat) (x1 x2 x3 : Int32) (G : zx_G), f_D_transform_2 n x1 x2 x3 G = some (r, G1) → zx_Z κ ad 2 [(0, .ref (ad 23)), (1, .int x1), (2, .int x2), (3, .int x3)] [] G := by
  intro n
  induction n with
  | zero => intro x1 x2 x3 G hf; cases hf
  | succ n ih =>
    intro x1 x2 x3 G hf
    unfold f_D_transform_2 at hf
    refine zr_iload_n h d_D_transform_2 rfl rfl 3 rfl ?_
    refine zr_bipush (v := (16 : Int32)) h d_D_transform_3 rfl (by decide) ?_
    rcases zx_if_some hf with ⟨hc_1, hf⟩ | ⟨hc_1, hf⟩
    · refine zr_icmp_ge_t (tgt := 40) h d_D_transform_5 rfl hc_1 ?_
      refine zr_aload_n h d_D_transform_40 rfl rfl 0 rfl ?_
      obtain ⟨r_3, G_2, hq_4, hf⟩ := zx_bd_some hf
      refine zr_callVV (As := []) (b := 23) h (c_D_limitAll _ _ _ _ _ G r_3 G_2 hq_4) cc_D_52 d_D_transform_41 rfl rfl rfl sh_23 ⟨rfl, rfl, by decide, by decide⟩ (Nat.le_of_ble_eq_true rfl) ?_
      refine zr_iconst (v := (0 : Int32)) h d_D_transform_44 rfl (by decide) ?_
      obtain ⟨x3_5, ex3_5, hf⟩ := zx_lt_some hf
      refine zr_istore_n h d_D_transform_45 rfl rfl (by decide) ex3_5 rfl ?_
      refine zr_sub [1, 3, 0] rfl ?_
      exact z_D_transform_46 h hE 2048 x2 x3_5 G_2 hf
    · refine zr_icmp_ge_f h 40 d_D_transform_5 rfl rfl hc_1 ?_
      refine zr_aload_n h d_D_transform_8 rfl rfl 0 rfl ?_
      refine zr_getR h d_D_transform_9 rfl fl_D_7 sh_23 rfl ?_
      refine zr_iload_n h d_D_transform_12 rfl rfl 3 rfl ?_
      refine zr_dup2 h d_D_transform_13 rfl rfl rfl ?_
      obtain ⟨hb_6, hf⟩ := zx_gd_some hf
      refine zr_iald h d_D_transform_14 rfl sh_24 hb_6 ?_
      refine zr_iload_n h d_D_transform_15 rfl rfl 3 rfl ?_
      rcases zx_if_some hf with ⟨hc_7, hf⟩ | ⟨hc_7, hf⟩
      · refine zr_if_ne_t (tgt := 27) h d_D_transform_16 rfl hc_7 ?_
        refine zr_iconst (v := (4 : Int32)) h d_D_transform_27 rfl (by decide) ?_
        refine zr_iconst (v := (3 : Int32)) h d_D_transform_28 rfl (by decide) ?_
        refine zr_iload_n h d_D_transform_29 rfl rfl 1 rfl ?_
        refine zr_imul h d_D_transform_30 rfl ?_
        refine zr_iadd h d_D_transform_31 rfl ?_
        exact z_D_transform_32 h hE ih x1 x2 x3 x3 (G 24 (Int32.toNatClampNeg x3)) ((4 : Int32) + ((3 : Int32) * x1)) G hf
      · refine zr_if_ne_f h 27 d_D_transform_16 rfl rfl hc_7 ?_
        refine zr_iconst (v := (4 : Int32)) h d_D_transform_19 rfl (by decide) ?_
        refine zr_iconst (v := (2 : Int32)) h d_D_transform_20 rfl (by decide) ?_
        refine zr_iload_n h d_D_transform_21 rfl rfl 1 rfl ?_
        refine zr_imul h d_D_transform_22 rfl ?_
        refine zr_iadd h d_D_transform_23 rfl ?_
        refine zr_goto (tgt := 32) h d_D_transform_24 rfl ?_
        exact z_D_transform_32 h hE ih x1 x2 x3 x3 (G 24 (Int32.toNatClampNeg x3)) ((4 : Int32) + ((2 : Int32) * x1)) G hf
set_option maxRecDepth 100000 in
set_option maxHeartbeats 4000000 in
theorem z_D_transform_0 {κ : zx_K} {ad : Nat → Nat} {r : Int32} {G1 : zx_G} (h : zx_C M_D_transform κ ad) (hE : zx_E M_D_transform κ ad r G1) (x1 x2 : Int32) (G : zx_G) (hf : f_D_transform x1 x2 G = some (r, G1)) : zx_Z κ ad 0 [(0, .ref (ad 23)), (1, .int x1), (2, .int x2)] [] G := by
  unfold f_D_transform at hf
  refine zr_iconst (v := (0 : Int32)) h d_D_transform_0 rfl (by decide) ?_
  obtain ⟨x3_1, ex3_1, hf⟩ := zx_lt_some hf
  refine zr_istore_n h d_D_transform_1 rfl rfl (by decide) ex3_1 rfl ?_
  refine zr_sub [1, 2, 3, 0] rfl ?_
  exact z_D_transform_2 h hE 2048 x1 x2 x3_1 G hf
theorem c_D_transform (l : Launch) (D : va_G) (cA : ClassId) (ad : Nat → Nat) (A : Nat → Prop) (x1 x2 : Int32) (G : zx_G) (r : Int32) (G1 : zx_G) (hf : f_D_transform x1 x2 G = some (r, G1)) : zx_met l y_D_transform M_D_transform [.ref (ad 23), .int x1, .int x2] D cA ad A G r G1 :=
  zx_toMet (by decide) rfl (Nat.le_of_ble_eq_true rfl) (fun κ h hE => by exact z_D_transform_0 h hE x1 x2 G hf)

def f_D_mixLine (x1 x2 : Int32) (G : zx_G) : Option (Int32 × zx_G) :=
  zx_gd (zx_in x1 16) <|
  zx_lt (G 24 (Int32.toNatClampNeg x1)) fun x3_2 =>
  zx_gd (zx_in (x1 + x2) 16) <|
  zx_lt (G 24 (Int32.toNatClampNeg (x1 + x2))) fun x4_4 =>
  zx_gd (zx_in (x1 + ((2 : Int32) * x2)) 16) <|
  zx_lt (G 24 (Int32.toNatClampNeg (x1 + ((2 : Int32) * x2)))) fun x5_6 =>
  zx_gd (zx_in (x1 + ((3 : Int32) * x2)) 16) <|
  zx_lt (G 24 (Int32.toNatClampNeg (x1 + ((3 : Int32) * x2)))) fun x6_8 =>
  zx_gd (zx_in x1 16) <|
  zx_lt (zx_up G 24 (Int32.toNatClampNeg x1) (((x3_2 + x4_4) + x5_6) + x6_8)) fun G_10 =>
  zx_gd (zx_in (x1 + x2) 16) <|
  zx_lt (zx_up G_10 24 (Int32.toNatClampNeg (x1 + x2)) (((x3_2 + x4_4) - x5_6) - x6_8)) fun G_12 =>
  zx_gd (zx_in (x1 + ((2 : Int32) * x2)) 16) <|
  zx_lt (zx_up G_12 24 (Int32.toNatClampNeg (x1 + ((2 : Int32) * x2))) (((x3_2 - x4_4) - x5_6) + x6_8)) fun G_14 =>
  zx_gd (zx_in (x1 + ((3 : Int32) * x2)) 16) <|
  zx_lt (zx_up G_14 24 (Int32.toNatClampNeg (x1 + ((3 : Int32) * x2))) (((x3_2 - x4_4) + x5_6) - x6_8)) fun G_16 =>
  some ((0 : Int32), G_16)
set_option maxRecDepth 100000 in
set_option maxHeartbeats 4000000 in
theorem z_D_mixLine_0 {κ : zx_K} {ad : Nat → Nat} {r : Int32} {G1 : zx_G} (h : zx_C M_D_mixLine κ ad) (hE : zx_E M_D_mixLine κ ad r G1) (x1 x2 : Int32) (G : zx_G) (hf : f_D_mixLine x1 x2 G = some (r, G1)) : zx_Z κ ad 0 [(0, .ref (ad 23)), (1, .int x1), (2, .int x2)] [] G := by
  unfold f_D_mixLine at hf
  refine zr_aload_n h d_D_mixLine_0 rfl rfl 0 rfl ?_
  refine zr_getR h d_D_mixLine_1 rfl fl_D_7 sh_23 rfl ?_
  refine zr_iload_n h d_D_mixLine_4 rfl rfl 1 rfl ?_
  obtain ⟨hb_1, hf⟩ := zx_gd_some hf
  refine zr_iald h d_D_mixLine_5 rfl sh_24 hb_1 ?_
  obtain ⟨x3_2, ex3_2, hf⟩ := zx_lt_some hf
  refine zr_istore_n h d_D_mixLine_6 rfl rfl (by decide) ex3_2 rfl ?_
  refine zr_aload_n h d_D_mixLine_7 rfl rfl 1 rfl ?_
  refine zr_getR h d_D_mixLine_8 rfl fl_D_7 sh_23 rfl ?_
  refine zr_iload_n h d_D_mixLine_11 rfl rfl 2 rfl ?_
  refine zr_iload_n h d_D_mixLine_12 rfl rfl 3 rfl ?_
  refine zr_iadd h d_D_mixLine_13 rfl ?_
  obtain ⟨hb_3, hf⟩ := zx_gd_some hf
  refine zr_iald h d_D_mixLine_14 rfl sh_24 hb_3 ?_
  obtain ⟨x4_4, ex4_4, hf⟩ := zx_lt_some hf
  refine zr_istore h d_D_mixLine_15 rfl (by decide) ex4_4 rfl ?_
  refine zr_aload_n h d_D_mixLine_17 rfl rfl 2 rfl ?_
  refine zr_getR h d_D_mixLine_18 rfl fl_D_7 sh_23 rfl ?_
  refine zr_iload_n h d_D_mixLine_21 rfl rfl 3 rfl ?_
  refine zr_iconst (v := (2 : Int32)) h d_D_mixLine_22 rfl (by decide) ?_
  refine zr_iload_n h d_D_mixLine_23 rfl rfl 4 rfl ?_
  refine zr_imul h d_D_mixLine_24 rfl ?_
  refine zr_iadd h d_D_mixLine_25 rfl ?_
  obtain ⟨hb_5, hf⟩ := zx_gd_some hf
  refine zr_iald h d_D_mixLine_26 rfl sh_24 hb_5 ?_
  obtain ⟨x5_6, ex5_6, hf⟩ := zx_lt_some hf
  refine zr_istore h d_D_mixLine_27 rfl (by decide) ex5_6 rfl ?_
  refine zr_aload_n h d_D_mixLine_29 rfl rfl 3 rfl ?_
  refine zr_getR h d_D_mixLine_30 rfl fl_D_7 sh_23 rfl ?_
  refine zr_iload_n h d_D_mixLine_33 rfl rfl 4 rfl ?_
  refine zr_iconst (v := (3 : Int32)) h d_D_mixLine_34 rfl (by decide) ?_
  refine zr_iload_n h d_D_mixLine_35 rfl rfl 5 rfl ?_
  refine zr_imul h d_D_mixLine_36 rfl ?_
  refine zr_iadd h d_D_mixLine_37 rfl ?_
  obtain ⟨hb_7, hf⟩ := zx_gd_some hf
  refine zr_iald h d_D_mixLine_38 rfl sh_24 hb_7 ?_
  obtain ⟨x6_8, ex6_8, hf⟩ := zx_lt_some hf
  refine zr_istore h d_D_mixLine_39 rfl (by decide) ex6_8 rfl ?_
  refine zr_aload_n h d_D_mixLine_41 rfl rfl 4 rfl ?_
  refine zr_getR h d_D_mixLine_42 rfl fl_D_7 sh_23 rfl ?_
  refine zr_iload_n h d_D_mixLine_45 rfl rfl 5 rfl ?_
  refine zr_iload_n h d_D_mixLine_46 rfl rfl 3 rfl ?_
  refine zr_iload h d_D_mixLine_47 rfl 2 rfl ?_
  refine zr_iadd h d_D_mixLine_49 rfl ?_
  refine zr_iload h d_D_mixLine_50 rfl 1 rfl ?_
  refine zr_iadd h d_D_mixLine_52 rfl ?_
  refine zr_iload h d_D_mixLine_53 rfl 0 rfl ?_
  refine zr_iadd h d_D_mixLine_55 rfl ?_
  obtain ⟨hb_9, hf⟩ := zx_gd_some hf
  obtain ⟨G_10, eG_10, hf⟩ := zx_lt_some hf
  refine zr_iast h d_D_mixLine_56 rfl sh_24 hb_9 eG_10 ?_
  refine zr_aload_n h d_D_mixLine_57 rfl rfl 4 rfl ?_
  refine zr_getR h d_D_mixLine_58 rfl fl_D_7 sh_23 rfl ?_
  refine zr_iload_n h d_D_mixLine_61 rfl rfl 5 rfl ?_
  refine zr_iload_n h d_D_mixLine_62 rfl rfl 6 rfl ?_
  refine zr_iadd h d_D_mixLine_63 rfl ?_
  refine zr_iload_n h d_D_mixLine_64 rfl rfl 3 rfl ?_
  refine zr_iload h d_D_mixLine_65 rfl 2 rfl ?_
  refine zr_iadd h d_D_mixLine_67 rfl ?_
  refine zr_iload h d_D_mixLine_68 rfl 1 rfl ?_
  refine zr_isub h d_D_mixLine_70 rfl ?_
  refine zr_iload h d_D_mixLine_71 rfl 0 rfl ?_
  refine zr_isub h d_D_mixLine_73 rfl ?_
  obtain ⟨hb_11, hf⟩ := zx_gd_some hf
  obtain ⟨G_12, eG_12, hf⟩ := zx_lt_some hf
  refine zr_iast h d_D_mixLine_74 rfl sh_24 hb_11 eG_12 ?_
  refine zr_aload_n h d_D_mixLine_75 rfl rfl 4 rfl ?_
  refine zr_getR h d_D_mixLine_76 rfl fl_D_7 sh_23 rfl ?_
  refine zr_iload_n h d_D_mixLine_79 rfl rfl 5 rfl ?_
  refine zr_iconst (v := (2 : Int32)) h d_D_mixLine_80 rfl (by decide) ?_
  refine zr_iload_n h d_D_mixLine_81 rfl rfl 6 rfl ?_
  refine zr_imul h d_D_mixLine_82 rfl ?_
  refine zr_iadd h d_D_mixLine_83 rfl ?_
  refine zr_iload_n h d_D_mixLine_84 rfl rfl 3 rfl ?_
  refine zr_iload h d_D_mixLine_85 rfl 2 rfl ?_
  refine zr_isub h d_D_mixLine_87 rfl ?_
  refine zr_iload h d_D_mixLine_88 rfl 1 rfl ?_
  refine zr_isub h d_D_mixLine_90 rfl ?_
  refine zr_iload h d_D_mixLine_91 rfl 0 rfl ?_
  refine zr_iadd h d_D_mixLine_93 rfl ?_
  obtain ⟨hb_13, hf⟩ := zx_gd_some hf
  obtain ⟨G_14, eG_14, hf⟩ := zx_lt_some hf
  refine zr_iast h d_D_mixLine_94 rfl sh_24 hb_13 eG_14 ?_
  refine zr_aload_n h d_D_mixLine_95 rfl rfl 4 rfl ?_
  refine zr_getR h d_D_mixLine_96 rfl fl_D_7 sh_23 rfl ?_
  refine zr_iload_n h d_D_mixLine_99 rfl rfl 5 rfl ?_
  refine zr_iconst (v := (3 : Int32)) h d_D_mixLine_100 rfl (by decide) ?_
  refine zr_iload_n h d_D_mixLine_101 rfl rfl 6 rfl ?_
  refine zr_imul h d_D_mixLine_102 rfl ?_
  refine zr_iadd h d_D_mixLine_103 rfl ?_
  refine zr_iload_n h d_D_mixLine_104 rfl rfl 3 rfl ?_
  refine zr_iload h d_D_mixLine_105 rfl 2 rfl ?_
  refine zr_isub h d_D_mixLine_107 rfl ?_
  refine zr_iload h d_D_mixLine_108 rfl 1 rfl ?_
  refine zr_iadd h d_D_mixLine_110 rfl ?_
  refine zr_iload h d_D_mixLine_111 rfl 0 rfl ?_
  refine zr_isub h d_D_mixLine_113 rfl ?_
  obtain ⟨hb_15, hf⟩ := zx_gd_some hf
  obtain ⟨G_16, eG_16, hf⟩ := zx_lt_some hf
  refine zr_iast h d_D_mixLine_114 rfl sh_24 hb_15 eG_16 ?_
  exact zr_vret h hE d_D_mixLine_115 rfl hf
theorem c_D_mixLine (l : Launch) (D : va_G) (cA : ClassId) (ad : Nat → Nat) (A : Nat → Prop) (x1 x2 : Int32) (G : zx_G) (r : Int32) (G1 : zx_G) (hf : f_D_mixLine x1 x2 G = some (r, G1)) : zx_met l y_D_mixLine M_D_mixLine [.ref (ad 23), .int x1, .int x2] D cA ad A G r G1 :=
  zx_toMet (by decide) rfl (Nat.le_of_ble_eq_true rfl) (fun κ h hE => by exact z_D_mixLine_0 h hE x1 x2 G hf)

def f_D_mix_42 : Nat → Int32 → zx_G → Option (Int32 × zx_G)
  | 0, _, _ => none
  | n + 1, x1, G =>
    zx_if ((16 : Int32) ≤ x1)
      (some ((0 : Int32), G))
      (zx_gd (zx_in x1 16) <|
      zx_gd (zx_in x1 16) <|
      zx_lt (zx_up G 24 (Int32.toNatClampNeg x1) ((G 24 (Int32.toNatClampNeg x1)) >>> ((2 : Int32) &&& 31))) fun G_4 =>
      zx_lt (x1 + (1 : Int32)) fun x1_5 =>
      f_D_mix_42 n x1_5 G_4)
def f_D_mix_23 : Nat → Int32 → zx_G → Option (Int32 × zx_G)
  | 0, _, _ => none
  | n + 1, x1, G =>
    zx_if ((4 : Int32) ≤ x1)
      (zx_lt (0 : Int32) fun x1_2 =>
      f_D_mix_42 2048 x1_2 G)
      (zx_bd (f_D_mixLine x1 (4 : Int32) G) fun r_4 G_3 =>
      zx_lt (x1 + (1 : Int32)) fun x1_6 =>
      f_D_mix_23 n x1_6 G_3)
def f_D_mix_2 : Nat → Int32 → zx_G → Option (Int32 × zx_G)
  | 0, _, _ => none
  | n + 1, x1, G =>
    zx_if ((4 : Int32) ≤ x1)
      (zx_lt (0 : Int32) fun x1_2 =>
      f_D_mix_23 2048 x1_2 G)
      (zx_bd (f_D_mixLine ((4 : Int32) * x1) (1 : Int32) G) fun r_4 G_3 =>
      zx_lt (x1 + (1 : Int32)) fun x1_6 =>
      f_D_mix_2 n x1_6 G_3)
def f_D_mix (G : zx_G) : Option (Int32 × zx_G) :=
  zx_lt (0 : Int32) fun x1_1 =>
  f_D_mix_2 2048 x1_1 G
set_option maxRecDepth 100000 in
set_option maxHeartbeats 4000000 in
theorem z_D_mix_42 {κ : zx_K} {ad : Nat → Nat} {r : Int32} {G1 : zx_G} (h : zx_C M_D_mix κ ad) (hE : zx_E M_D_mix κ ad r G1) : ∀ (n : Nat) (x1 : Int32) (G : zx_G), f_D_mix_42 n x1 G = some (r, G1) → zx_Z κ ad 42 [(0, .ref (ad 23)), (1, .int x1)] [] G := by
  intro n
  induction n with
  | zero => intro x1 G hf; cases hf
  | succ n ih =>
    intro x1 G hf
    unfold f_D_mix_42 at hf
    refine zr_iload_n h d_D_mix_42 rfl rfl 1 rfl ?_
    refine zr_bipush (v := (16 : Int32)) h d_D_mix_43 rfl (by decide) ?_
    rcases zx_if_some hf with ⟨hc_1, hf⟩ | ⟨hc_1, hf⟩
    · refine zr_icmp_ge_t (tgt := 64) h d_D_mix_45 rfl hc_1 ?_
      exact zr_vret h hE d_D_mix_64 rfl hf
    · refine zr_icmp_ge_f h 64 d_D_mix_45 rfl rfl hc_1 ?_
      refine zr_aload_n h d_D_mix_48 rfl rfl 0 rfl ?_
      refine zr_getR h d_D_mix_49 rfl fl_D_7 sh_23 rfl ?_
      refine zr_iload_n h d_D_mix_52 rfl rfl 1 rfl ?_
      refine zr_dup2 h d_D_mix_53 rfl rfl rfl ?_
      obtain ⟨hb_2, hf⟩ := zx_gd_some hf
      refine zr_iald h d_D_mix_54 rfl sh_24 hb_2 ?_
      refine zr_iconst (v := (2 : Int32)) h d_D_mix_55 rfl (by decide) ?_
      refine zr_ishr h d_D_mix_56 rfl ?_
      obtain ⟨hb_3, hf⟩ := zx_gd_some hf
      obtain ⟨G_4, eG_4, hf⟩ := zx_lt_some hf
      refine zr_iast h d_D_mix_57 rfl sh_24 hb_3 eG_4 ?_
      obtain ⟨x1_5, ex1_5, hf⟩ := zx_lt_some hf
      refine zr_iinc (j := 1) h d_D_mix_58 rfl rfl (by decide) ex1_5 (by decide) rfl ?_
      refine zr_goto (tgt := 42) h d_D_mix_61 rfl ?_
      refine zr_sub [1, 0] rfl ?_
      exact ih x1_5 G_4 hf
set_option maxRecDepth 100000 in
set_option maxHeartbeats 4000000 in
theorem z_D_mix_23 {κ : zx_K} {ad : Nat → Nat} {r : Int32} {G1 : zx_G} (h : zx_C M_D_mix κ ad) (hE : zx_E M_D_mix κ ad r G1) : ∀ (n : Nat) (x1 : Int32) (G : zx_G), f_D_mix_23 n x1 G = some (r, G1) → zx_Z κ ad 23 [(0, .ref (ad 23)), (1, .int x1)] [] G := by
  intro n
  induction n with
  | zero => intro x1 G hf; cases hf
  | succ n ih =>
    intro x1 G hf
    unfold f_D_mix_23 at hf
    refine zr_iload_n h d_D_mix_23 rfl rfl 1 rfl ?_
    refine zr_iconst (v := (4 : Int32)) h d_D_mix_24 rfl (by decide) ?_
    rcases zx_if_some hf with ⟨hc_1, hf⟩ | ⟨hc_1, hf⟩
    · refine zr_icmp_ge_t (tgt := 40) h d_D_mix_25 rfl hc_1 ?_
      refine zr_iconst (v := (0 : Int32)) h d_D_mix_40 rfl (by decide) ?_
      obtain ⟨x1_2, ex1_2, hf⟩ := zx_lt_some hf
      refine zr_istore_n h d_D_mix_41 rfl rfl (by decide) ex1_2 rfl ?_
      refine zr_sub [1, 0] rfl ?_
      exact z_D_mix_42 h hE 2048 x1_2 G hf
    · refine zr_icmp_ge_f h 40 d_D_mix_25 rfl rfl hc_1 ?_
      refine zr_aload_n h d_D_mix_28 rfl rfl 0 rfl ?_
      refine zr_iload_n h d_D_mix_29 rfl rfl 1 rfl ?_
      refine zr_iconst (v := (4 : Int32)) h d_D_mix_30 rfl (by decide) ?_
      obtain ⟨r_4, G_3, hq_5, hf⟩ := zx_bd_some hf
      refine zr_callVV (As := [.int x1, .int (4 : Int32)]) (b := 23) h (c_D_mixLine _ _ _ _ _ x1 (4 : Int32) G r_4 G_3 hq_5) cc_D_49 d_D_mix_31 rfl rfl rfl sh_23 ⟨rfl, rfl, by decide, by decide⟩ (Nat.le_of_ble_eq_true rfl) ?_
      obtain ⟨x1_6, ex1_6, hf⟩ := zx_lt_some hf
      refine zr_iinc (j := 1) h d_D_mix_34 rfl rfl (by decide) ex1_6 (by decide) rfl ?_
      refine zr_goto (tgt := 23) h d_D_mix_37 rfl ?_
      refine zr_sub [1, 0] rfl ?_
      exact ih x1_6 G_3 hf
set_option maxRecDepth 100000 in
set_option maxHeartbeats 4000000 in
theorem z_D_mix_2 {κ : zx_K} {ad : Nat → Nat} {r : Int32} {G1 : zx_G} (h : zx_C M_D_mix κ ad) (hE : zx_E M_D_mix κ ad r G1) : ∀ (n : Nat) (x1 : Int32) (G : zx_G), f_D_mix_2 n x1 G = some (r, G1) → zx_Z κ ad 2 [(0, .ref (ad 23)), (1, .int x1)] [] G := by
  intro n
  induction n with
  | zero => intro x1 G hf; cases hf
  | succ n ih =>
    intro x1 G hf
    unfold f_D_mix_2 at hf
    refine zr_iload_n h d_D_mix_2 rfl rfl 1 rfl ?_
    refine zr_iconst (v := (4 : Int32)) h d_D_mix_3 rfl (by decide) ?_
    rcases zx_if_some hf with ⟨hc_1, hf⟩ | ⟨hc_1, hf⟩
    · refine zr_icmp_ge_t (tgt := 21) h d_D_mix_4 rfl hc_1 ?_
      refine zr_iconst (v := (0 : Int32)) h d_D_mix_21 rfl (by decide) ?_
      obtain ⟨x1_2, ex1_2, hf⟩ := zx_lt_some hf
      refine zr_istore_n h d_D_mix_22 rfl rfl (by decide) ex1_2 rfl ?_
      refine zr_sub [1, 0] rfl ?_
      exact z_D_mix_23 h hE 2048 x1_2 G hf
    · refine zr_icmp_ge_f h 21 d_D_mix_4 rfl rfl hc_1 ?_
      refine zr_aload_n h d_D_mix_7 rfl rfl 0 rfl ?_
      refine zr_iconst (v := (4 : Int32)) h d_D_mix_8 rfl (by decide) ?_
      refine zr_iload_n h d_D_mix_9 rfl rfl 1 rfl ?_
      refine zr_imul h d_D_mix_10 rfl ?_
      refine zr_iconst (v := (1 : Int32)) h d_D_mix_11 rfl (by decide) ?_
      obtain ⟨r_4, G_3, hq_5, hf⟩ := zx_bd_some hf
      refine zr_callVV (As := [.int ((4 : Int32) * x1), .int (1 : Int32)]) (b := 23) h (c_D_mixLine _ _ _ _ _ ((4 : Int32) * x1) (1 : Int32) G r_4 G_3 hq_5) cc_D_49 d_D_mix_12 rfl rfl rfl sh_23 ⟨rfl, rfl, by decide, by decide⟩ (Nat.le_of_ble_eq_true rfl) ?_
      obtain ⟨x1_6, ex1_6, hf⟩ := zx_lt_some hf
      refine zr_iinc (j := 1) h d_D_mix_15 rfl rfl (by decide) ex1_6 (by decide) rfl ?_
      refine zr_goto (tgt := 2) h d_D_mix_18 rfl ?_
      refine zr_sub [1, 0] rfl ?_
      exact ih x1_6 G_3 hf
set_option maxRecDepth 100000 in
set_option maxHeartbeats 4000000 in
theorem z_D_mix_0 {κ : zx_K} {ad : Nat → Nat} {r : Int32} {G1 : zx_G} (h : zx_C M_D_mix κ ad) (hE : zx_E M_D_mix κ ad r G1) (G : zx_G) (hf : f_D_mix G = some (r, G1)) : zx_Z κ ad 0 [(0, .ref (ad 23))] [] G := by
  unfold f_D_mix at hf
  refine zr_iconst (v := (0 : Int32)) h d_D_mix_0 rfl (by decide) ?_
  obtain ⟨x1_1, ex1_1, hf⟩ := zx_lt_some hf
  refine zr_istore_n h d_D_mix_1 rfl rfl (by decide) ex1_1 rfl ?_
  refine zr_sub [1, 0] rfl ?_
  exact z_D_mix_2 h hE 2048 x1_1 G hf
theorem c_D_mix (l : Launch) (D : va_G) (cA : ClassId) (ad : Nat → Nat) (A : Nat → Prop) (G : zx_G) (r : Int32) (G1 : zx_G) (hf : f_D_mix G = some (r, G1)) : zx_met l y_D_mix M_D_mix [.ref (ad 23)] D cA ad A G r G1 :=
  zx_toMet (by decide) rfl (Nat.le_of_ble_eq_true rfl) (fun κ h hE => by exact z_D_mix_0 h hE G hf)

def f_A_fill_24_5 : Nat → Int32 → Int32 → Int32 → zx_G → Option (Int32 × zx_G)
  | 0, _, _, _, _ => none
  | n + 1, x1, x2, x3, G =>
    zx_if (x3 ≤ x2)
      (some ((0 : Int32), G))
      (zx_gd (zx_in x2 16) <|
      zx_lt (zx_up G 24 (Int32.toNatClampNeg x2) x1) fun G_3 =>
      zx_lt (x2 + (1 : Int32)) fun x2_4 =>
      f_A_fill_24_5 n x1 x2_4 x3 G_3)
def f_A_fill_24 (x1 : Int32) (G : zx_G) : Option (Int32 × zx_G) :=
  zx_lt (0 : Int32) fun x2_1 =>
  zx_lt (16 : Int32) fun x3_2 =>
  f_A_fill_24_5 2048 x1 x2_1 x3_2 G
set_option maxRecDepth 100000 in
set_option maxHeartbeats 4000000 in
theorem z_A_fill_24_5 {κ : zx_K} {ad : Nat → Nat} {r : Int32} {G1 : zx_G} (h : zx_C M_A_fill κ ad) (hE : zx_E M_A_fill κ ad r G1) : ∀ (n : Nat) (x1 x2 x3 : Int32) (G : zx_G), f_A_fill_24_5 n x1 x2 x3 G = some (r, G1) → zx_Z κ ad 5 [(0, .ref (ad 24)), (1, .int x1), (2, .int x2), (3, .int x3)] [] G := by
  intro n
  induction n with
  | zero => intro x1 x2 x3 G hf; cases hf
  | succ n ih =>
    intro x1 x2 x3 G hf
    unfold f_A_fill_24_5 at hf
    refine zr_iload_n h d_A_fill_5 rfl rfl 2 rfl ?_
    refine zr_iload_n h d_A_fill_6 rfl rfl 3 rfl ?_
    rcases zx_if_some hf with ⟨hc_1, hf⟩ | ⟨hc_1, hf⟩
    · refine zr_icmp_ge_t (tgt := 20) h d_A_fill_7 rfl hc_1 ?_
      exact zr_vret h hE d_A_fill_20 rfl hf
    · refine zr_icmp_ge_f h 20 d_A_fill_7 rfl rfl hc_1 ?_
      refine zr_aload_n h d_A_fill_10 rfl rfl 0 rfl ?_
      refine zr_iload_n h d_A_fill_11 rfl rfl 2 rfl ?_
      refine zr_iload_n h d_A_fill_12 rfl rfl 1 rfl ?_
      obtain ⟨hb_2, hf⟩ := zx_gd_some hf
      obtain ⟨G_3, eG_3, hf⟩ := zx_lt_some hf
      refine zr_iast h d_A_fill_13 rfl sh_24 hb_2 eG_3 ?_
      obtain ⟨x2_4, ex2_4, hf⟩ := zx_lt_some hf
      refine zr_iinc (j := 2) h d_A_fill_14 rfl rfl (by decide) ex2_4 (by decide) rfl ?_
      refine zr_goto (tgt := 5) h d_A_fill_17 rfl ?_
      refine zr_sub [1, 2, 0, 3] rfl ?_
      exact ih x1 x2_4 x3 G_3 hf
set_option maxRecDepth 100000 in
set_option maxHeartbeats 4000000 in
theorem z_A_fill_24_0 {κ : zx_K} {ad : Nat → Nat} {r : Int32} {G1 : zx_G} (h : zx_C M_A_fill κ ad) (hE : zx_E M_A_fill κ ad r G1) (x1 : Int32) (G : zx_G) (hf : f_A_fill_24 x1 G = some (r, G1)) : zx_Z κ ad 0 [(0, .ref (ad 24)), (1, .int x1)] [] G := by
  unfold f_A_fill_24 at hf
  refine zr_iconst (v := (0 : Int32)) h d_A_fill_0 rfl (by decide) ?_
  obtain ⟨x2_1, ex2_1, hf⟩ := zx_lt_some hf
  refine zr_istore_n h d_A_fill_1 rfl rfl (by decide) ex2_1 rfl ?_
  refine zr_aload_n h d_A_fill_2 rfl rfl 1 rfl ?_
  refine zr_alen (v := (16 : Int32)) h d_A_fill_3 rfl sh_24 (by decide) ?_
  obtain ⟨x3_2, ex3_2, hf⟩ := zx_lt_some hf
  refine zr_istore_n h d_A_fill_4 rfl rfl (by decide) ex3_2 rfl ?_
  refine zr_sub [2, 3, 1, 0] rfl ?_
  exact z_A_fill_24_5 h hE 2048 x1 x2_1 x3_2 G hf
theorem c_A_fill_24 (l : Launch) (D : va_G) (cA : ClassId) (ad : Nat → Nat) (A : Nat → Prop) (x1 : Int32) (G : zx_G) (r : Int32) (G1 : zx_G) (hf : f_A_fill_24 x1 G = some (r, G1)) : zx_met l y_A_fill M_A_fill [.ref (ad 24), .int x1] D cA ad A G r G1 :=
  zx_toMet (by decide) rfl (Nat.le_of_ble_eq_true rfl) (fun κ h hE => by exact z_A_fill_24_0 h hE x1 G hf)

def f_D_read_194 (k55 : Int32 → Int32 → Int32 → Int32 → Int32 → zx_G → Option (Int32 × zx_G)) (x2 x3 x4 x5 x6 s1 s2 : Int32) (G : zx_G) : Option (Int32 × zx_G) :=
  zx_gd (zx_in s1 16) <|
  zx_lt (zx_up G 24 (Int32.toNatClampNeg s1) s2) fun G_2 =>
  zx_lt (x6 + (-1 : Int32)) fun x6_3 =>
  k55 x2 x3 x4 x5 x6_3 G_2
def f_D_read_169 (k55 : Int32 → Int32 → Int32 → Int32 → Int32 → zx_G → Option (Int32 × zx_G)) (x2 x3 x4 x5 x6 x9 s0 : Int32) (G : zx_G) : Option (Int32 × zx_G) :=
  zx_lt s0 fun x10_1 =>
  zx_gd (zx_in x6 16) <|
  zx_if (x10_1 = 0)
    (f_D_read_194 k55 x2 x3 x4 x5 x6 (zx_tab1 (Int32.toNatClampNeg x6)) x9 G)
    (f_D_read_194 k55 x2 x3 x4 x5 x6 (zx_tab1 (Int32.toNatClampNeg x6)) (-x9) G)
def f_D_read_168 (k55 : Int32 → Int32 → Int32 → Int32 → Int32 → zx_G → Option (Int32 × zx_G)) (x2 x3 x4 x5 x6 x9 : Int32) (G : zx_G) : Option (Int32 × zx_G) :=
  f_D_read_169 k55 x2 x3 x4 x5 x6 x9 (0 : Int32) G
def f_D_read_148 (k55 : Int32 → Int32 → Int32 → Int32 → Int32 → zx_G → Option (Int32 × zx_G)) (x2 x3 x4 x5 x6 x9 : Int32) (G : zx_G) : Option (Int32 × zx_G) :=
  zx_if (x9 = 0)
    (f_D_read_168 k55 x2 x3 x4 x5 x6 x9 G)
    (zx_bd (f_C_readBit G) fun r_3 G_2 =>
    zx_if (¬ r_3 = (1 : Int32))
      (f_D_read_168 k55 x2 x3 x4 x5 x6 x9 G_2)
      (f_D_read_169 k55 x2 x3 x4 x5 x6 x9 (1 : Int32) G_2))
def f_D_read_117 (k55 : Int32 → Int32 → Int32 → Int32 → Int32 → zx_G → Option (Int32 × zx_G)) (x2 x3 x4 x5 x6 x8 s0 : Int32) (G : zx_G) : Option (Int32 × zx_G) :=
  zx_lt s0 fun x9_1 =>
  zx_if (¬ x8 = (3 : Int32))
    (f_D_read_148 k55 x2 x3 x4 x5 x6 x9_1 G)
    (zx_bd (f_C_readExcess G) fun r_4 G_3 =>
    zx_lt r_4 fun x10_6 =>
    zx_if (0 ≤ x10_6)
      (zx_lt (x9_1 + x10_6) fun x9_8 =>
      f_D_read_148 k55 x2 x3 x4 x5 x6 x9_8 G_3)
      (zx_gd (zx_01 (0 : Int32)) <| some ((0 : Int32), G_3)))
def f_D_read_80 (k55 : Int32 → Int32 → Int32 → Int32 → Int32 → zx_G → Option (Int32 × zx_G)) (x2 x3 x4 x5 x6 s0 : Int32) (G : zx_G) : Option (Int32 × zx_G) :=
  zx_lt s0 fun x7_1 =>
  zx_bd (f_C_readSymbol (((13 : Int32) + ((3 : Int32) * x4)) + x7_1) G) fun r_3 G_2 =>
  zx_lt r_3 fun x8_5 =>
  zx_if (¬ x6 = x5)
    (f_D_read_117 k55 x2 x3 x4 x5 x6 x8_5 x8_5 G_2)
    (f_D_read_117 k55 x2 x3 x4 x5 x6 x8_5 (x8_5 + (1 : Int32)) G_2)
def f_D_read_218 (G : zx_G) : Option (Int32 × zx_G) :=
  zx_gd (zx_01 (1 : Int32)) <| some ((1 : Int32), G)
def f_D_read_55 : Nat → Int32 → Int32 → Int32 → Int32 → Int32 → zx_G → Option (Int32 × zx_G)
  | 0, _, _, _, _, _, _ => none
  | n + 1, x2, x3, x4, x5, x6, G =>
    zx_if (x6 < 0)
      (zx_if (¬ x2 = 0)
        (zx_bd (f_D_transform x2 x3 G) fun r_4 G_3 =>
        f_D_read_218 G_3)
        (zx_bd (f_D_mix G) fun r_7 G_6 =>
        f_D_read_218 G_6))
      (zx_if (¬ x6 = 0)
        (zx_if ((5 : Int32) < x6)
          (f_D_read_80 (f_D_read_55 n) x2 x3 x4 x5 x6 (2 : Int32) G)
          (f_D_read_80 (f_D_read_55 n) x2 x3 x4 x5 x6 (1 : Int32) G))
        (f_D_read_80 (f_D_read_55 n) x2 x3 x4 x5 x6 (0 : Int32) G))
def f_D_read_9 (x2 x3 s0 : Int32) (G : zx_G) : Option (Int32 × zx_G) :=
  zx_lt s0 fun x4_1 =>
  zx_bd (f_A_fill_24 (0 : Int32) G) fun r_3 G_2 =>
  zx_bd (f_C_readSymbol ((8 : Int32) + x4_1) G_2) fun r_6 G_5 =>
  zx_if (¬ r_6 = (1 : Int32))
    (zx_bd (f_C_readSymbol ((11 : Int32) + x4_1) G_5) fun r_10 G_9 =>
    zx_lt r_10 fun x5_12 =>
    zx_lt x5_12 fun x6_13 =>
    f_D_read_55 2048 x2 x3 x4_1 x5_12 x6_13 G_9)
    (zx_gd (zx_01 (1 : Int32)) <| some ((1 : Int32), G_5))
def f_D_read (x1 x2 x3 : Int32) (G : zx_G) : Option (Int32 × zx_G) :=
  zx_if (¬ x1 = 0)
    (f_D_read_9 x2 x3 (1 : Int32) G)
    (f_D_read_9 x2 x3 (0 : Int32) G)
set_option maxRecDepth 100000 in
set_option maxHeartbeats 4000000 in
theorem z_D_read_194 {κ : zx_K} {ad : Nat → Nat} {r : Int32} {G1 : zx_G} (h : zx_C M_D_read κ ad) (hE : zx_E M_D_read κ ad r G1) {k55 : Int32 → Int32 → Int32 → Int32 → Int32 → zx_G → Option (Int32 × zx_G)} (hk55 : ∀ (x2 x3 x4 x5 x6 : Int32) (G : zx_G), k55 x2 x3 x4 x5 x6 G = some (r, G1) → zx_Z κ ad 55 [(0, .ref (ad 23)), (2, .int x2), (3, .int x3), (4, .int x4), (5, .int x5), (6, .int x6)] [] G) (x2 x3 x4 x5 x6 s1 s2 : Int32) (G : zx_G) (hf : f_D_read_194 k55 x2 x3 x4 x5 x6 s1 s2 G = some (r, G1)) : zx_Z κ ad 194 [(0, .ref (ad 23)), (2, .int x2), (3, .int x3), (4, .int x4), (5, .int x5), (6, .int x6)] [.int s2, .int s1, .ref (ad 24)] G := by
  unfold f_D_read_194 at hf
  obtain ⟨hb_1, hf⟩ := zx_gd_some hf
  obtain ⟨G_2, eG_2, hf⟩ := zx_lt_some hf
  refine zr_iast h d_D_read_194 rfl sh_24 hb_1 eG_2 ?_
  obtain ⟨x6_3, ex6_3, hf⟩ := zx_lt_some hf
  refine zr_iinc (j := 5) h d_D_read_195 rfl rfl (by decide) ex6_3 (by decide) rfl ?_
  refine zr_goto (tgt := 55) h d_D_read_198 rfl ?_
  refine zr_sub [1, 2, 3, 4, 5, 0] rfl ?_
  exact hk55 x2 x3 x4 x5 x6_3 G_2 hf
set_option maxRecDepth 100000 in
set_option maxHeartbeats 4000000 in
theorem z_D_read_169 {κ : zx_K} {ad : Nat → Nat} {r : Int32} {G1 : zx_G} (h : zx_C M_D_read κ ad) (hE : zx_E M_D_read κ ad r G1) {k55 : Int32 → Int32 → Int32 → Int32 → Int32 → zx_G → Option (Int32 × zx_G)} (hk55 : ∀ (x2 x3 x4 x5 x6 : Int32) (G : zx_G), k55 x2 x3 x4 x5 x6 G = some (r, G1) → zx_Z κ ad 55 [(0, .ref (ad 23)), (2, .int x2), (3, .int x3), (4, .int x4), (5, .int x5), (6, .int x6)] [] G) (x2 x3 x4 x5 x6 x9 s0 : Int32) (G : zx_G) (hf : f_D_read_169 k55 x2 x3 x4 x5 x6 x9 s0 G = some (r, G1)) : zx_Z κ ad 169 [(0, .ref (ad 23)), (2, .int x2), (3, .int x3), (4, .int x4), (5, .int x5), (6, .int x6), (9, .int x9)] [.int s0] G := by
  unfold f_D_read_169 at hf
  obtain ⟨x10_1, ex10_1, hf⟩ := zx_lt_some hf
  refine zr_istore h d_D_read_169 rfl (by decide) ex10_1 rfl ?_
  refine zr_aload_n h d_D_read_171 rfl rfl 1 rfl ?_
  refine zr_getR h d_D_read_172 rfl fl_D_7 sh_23 rfl ?_
  refine zr_gets1 h d_D_read_175 rfl sl_D_39 ?_
  refine zr_iload h d_D_read_178 rfl 6 rfl ?_
  obtain ⟨hb_2, hf⟩ := zx_gd_some hf
  refine zr_tald1 h d_D_read_180 rfl hb_2 ?_
  refine zr_iload h d_D_read_181 rfl 0 rfl ?_
  rcases zx_if_some hf with ⟨hc_3, hf⟩ | ⟨hc_3, hf⟩
  · refine zr_if_eq_t (tgt := 192) h d_D_read_183 rfl hc_3 ?_
    refine zr_iload h d_D_read_192 rfl 7 rfl ?_
    refine zr_sub [1, 2, 3, 4, 5, 6] rfl ?_
    exact z_D_read_194 h hE hk55 x2 x3 x4 x5 x6 (zx_tab1 (Int32.toNatClampNeg x6)) x9 G hf
  · refine zr_if_eq_f h 192 d_D_read_183 rfl rfl hc_3 ?_
    refine zr_iload h d_D_read_186 rfl 7 rfl ?_
    refine zr_ineg h d_D_read_188 rfl ?_
    refine zr_goto (tgt := 194) h d_D_read_189 rfl ?_
    refine zr_sub [1, 2, 3, 4, 5, 6] rfl ?_
    exact z_D_read_194 h hE hk55 x2 x3 x4 x5 x6 (zx_tab1 (Int32.toNatClampNeg x6)) (-x9) G hf
set_option maxRecDepth 100000 in
set_option maxHeartbeats 4000000 in
theorem z_D_read_168 {κ : zx_K} {ad : Nat → Nat} {r : Int32} {G1 : zx_G} (h : zx_C M_D_read κ ad) (hE : zx_E M_D_read κ ad r G1) {k55 : Int32 → Int32 → Int32 → Int32 → Int32 → zx_G → Option (Int32 × zx_G)} (hk55 : ∀ (x2 x3 x4 x5 x6 : Int32) (G : zx_G), k55 x2 x3 x4 x5 x6 G = some (r, G1) → zx_Z κ ad 55 [(0, .ref (ad 23)), (2, .int x2), (3, .int x3), (4, .int x4), (5, .int x5), (6, .int x6)] [] G) (x2 x3 x4 x5 x6 x9 : Int32) (G : zx_G) (hf : f_D_read_168 k55 x2 x3 x4 x5 x6 x9 G = some (r, G1)) : zx_Z κ ad 168 [(0, .ref (ad 23)), (2, .int x2), (3, .int x3), (4, .int x4), (5, .int x5), (6, .int x6), (9, .int x9)] [] G := by
  unfold f_D_read_168 at hf
  refine zr_iconst (v := (0 : Int32)) h d_D_read_168 rfl (by decide) ?_
  exact z_D_read_169 h hE hk55 x2 x3 x4 x5 x6 x9 (0 : Int32) G hf
set_option maxRecDepth 100000 in
set_option maxHeartbeats 4000000 in
theorem z_D_read_148 {κ : zx_K} {ad : Nat → Nat} {r : Int32} {G1 : zx_G} (h : zx_C M_D_read κ ad) (hE : zx_E M_D_read κ ad r G1) {k55 : Int32 → Int32 → Int32 → Int32 → Int32 → zx_G → Option (Int32 × zx_G)} (hk55 : ∀ (x2 x3 x4 x5 x6 : Int32) (G : zx_G), k55 x2 x3 x4 x5 x6 G = some (r, G1) → zx_Z κ ad 55 [(0, .ref (ad 23)), (2, .int x2), (3, .int x3), (4, .int x4), (5, .int x5), (6, .int x6)] [] G) (x2 x3 x4 x5 x6 x9 : Int32) (G : zx_G) (hf : f_D_read_148 k55 x2 x3 x4 x5 x6 x9 G = some (r, G1)) : zx_Z κ ad 148 [(0, .ref (ad 23)), (2, .int x2), (3, .int x3), (4, .int x4), (5, .int x5), (6, .int x6), (9, .int x9)] [] G := by
  unfold f_D_read_148 at hf
  refine zr_iload h d_D_read_148 rfl 6 rfl ?_
  rcases zx_if_some hf with ⟨hc_1, hf⟩ | ⟨hc_1, hf⟩
  · refine zr_if_eq_t (tgt := 168) h d_D_read_150 rfl hc_1 ?_
    exact z_D_read_168 h hE hk55 x2 x3 x4 x5 x6 x9 G hf
  · refine zr_if_eq_f h 168 d_D_read_150 rfl rfl hc_1 ?_
    refine zr_aload_n h d_D_read_153 rfl rfl 0 rfl ?_
    refine zr_getR h d_D_read_154 rfl fl_D_16 sh_23 rfl ?_
    obtain ⟨r_3, G_2, hq_4, hf⟩ := zx_bd_some hf
    refine zr_callVI (As := []) (b := 14) h (c_C_readBit _ _ _ _ _ G r_3 G_2 hq_4) cc_D_36 d_D_read_157 rfl rfl rfl sh_14 ⟨rfl, rfl, by decide, by decide⟩ (Nat.le_of_ble_eq_true rfl) ?_
    refine zr_iconst (v := (1 : Int32)) h d_D_read_160 rfl (by decide) ?_
    rcases zx_if_some hf with ⟨hc_5, hf⟩ | ⟨hc_5, hf⟩
    · refine zr_icmp_ne_t (tgt := 168) h d_D_read_161 rfl hc_5 ?_
      exact z_D_read_168 h hE hk55 x2 x3 x4 x5 x6 x9 G_2 hf
    · refine zr_icmp_ne_f h 168 d_D_read_161 rfl rfl hc_5 ?_
      refine zr_iconst (v := (1 : Int32)) h d_D_read_164 rfl (by decide) ?_
      refine zr_goto (tgt := 169) h d_D_read_165 rfl ?_
      exact z_D_read_169 h hE hk55 x2 x3 x4 x5 x6 x9 (1 : Int32) G_2 hf
set_option maxRecDepth 100000 in
set_option maxHeartbeats 4000000 in
theorem z_D_read_117 {κ : zx_K} {ad : Nat → Nat} {r : Int32} {G1 : zx_G} (h : zx_C M_D_read κ ad) (hE : zx_E M_D_read κ ad r G1) {k55 : Int32 → Int32 → Int32 → Int32 → Int32 → zx_G → Option (Int32 × zx_G)} (hk55 : ∀ (x2 x3 x4 x5 x6 : Int32) (G : zx_G), k55 x2 x3 x4 x5 x6 G = some (r, G1) → zx_Z κ ad 55 [(0, .ref (ad 23)), (2, .int x2), (3, .int x3), (4, .int x4), (5, .int x5), (6, .int x6)] [] G) (x2 x3 x4 x5 x6 x8 s0 : Int32) (G : zx_G) (hf : f_D_read_117 k55 x2 x3 x4 x5 x6 x8 s0 G = some (r, G1)) : zx_Z κ ad 117 [(0, .ref (ad 23)), (2, .int x2), (3, .int x3), (4, .int x4), (5, .int x5), (6, .int x6), (8, .int x8)] [.int s0] G := by
  unfold f_D_read_117 at hf
  obtain ⟨x9_1, ex9_1, hf⟩ := zx_lt_some hf
  refine zr_istore h d_D_read_117 rfl (by decide) ex9_1 rfl ?_
  refine zr_iload h d_D_read_119 rfl 7 rfl ?_
  refine zr_iconst (v := (3 : Int32)) h d_D_read_121 rfl (by decide) ?_
  rcases zx_if_some hf with ⟨hc_2, hf⟩ | ⟨hc_2, hf⟩
  · refine zr_icmp_ne_t (tgt := 148) h d_D_read_122 rfl hc_2 ?_
    refine zr_sub [1, 2, 3, 4, 5, 6, 0] rfl ?_
    exact z_D_read_148 h hE hk55 x2 x3 x4 x5 x6 x9_1 G hf
  · refine zr_icmp_ne_f h 148 d_D_read_122 rfl rfl hc_2 ?_
    refine zr_aload_n h d_D_read_125 rfl rfl 1 rfl ?_
    refine zr_getR h d_D_read_126 rfl fl_D_16 sh_23 rfl ?_
    obtain ⟨r_4, G_3, hq_5, hf⟩ := zx_bd_some hf
    refine zr_callVI (As := []) (b := 14) h (c_C_readExcess _ _ _ _ _ G r_4 G_3 hq_5) cc_D_32 d_D_read_129 rfl rfl rfl sh_14 ⟨rfl, rfl, by decide, by decide⟩ (Nat.le_of_ble_eq_true rfl) ?_
    obtain ⟨x10_6, ex10_6, hf⟩ := zx_lt_some hf
    refine zr_istore h d_D_read_132 rfl (by decide) ex10_6 rfl ?_
    refine zr_iload h d_D_read_134 rfl 0 rfl ?_
    rcases zx_if_some hf with ⟨hc_7, hf⟩ | ⟨hc_7, hf⟩
    · refine zr_if_ge_t (tgt := 141) h d_D_read_136 rfl hc_7 ?_
      refine zr_iload h d_D_read_141 rfl 1 rfl ?_
      refine zr_iload h d_D_read_143 rfl 0 rfl ?_
      refine zr_iadd h d_D_read_145 rfl ?_
      obtain ⟨x9_8, ex9_8, hf⟩ := zx_lt_some hf
      refine zr_istore h d_D_read_146 rfl (by decide) ex9_8 rfl ?_
      refine zr_sub [2, 3, 4, 5, 6, 7, 0] rfl ?_
      exact z_D_read_148 h hE hk55 x2 x3 x4 x5 x6 x9_8 G_3 hf
    · refine zr_if_ge_f h 141 d_D_read_136 rfl rfl hc_7 ?_
      refine zr_iconst (v := (0 : Int32)) h d_D_read_139 rfl (by decide) ?_
      obtain ⟨hb_9, hf⟩ := zx_gd_some hf
      exact zr_zret h hE d_D_read_140 rfl hb_9 hf
set_option maxRecDepth 100000 in
set_option maxHeartbeats 4000000 in
theorem z_D_read_80 {κ : zx_K} {ad : Nat → Nat} {r : Int32} {G1 : zx_G} (h : zx_C M_D_read κ ad) (hE : zx_E M_D_read κ ad r G1) {k55 : Int32 → Int32 → Int32 → Int32 → Int32 → zx_G → Option (Int32 × zx_G)} (hk55 : ∀ (x2 x3 x4 x5 x6 : Int32) (G : zx_G), k55 x2 x3 x4 x5 x6 G = some (r, G1) → zx_Z κ ad 55 [(0, .ref (ad 23)), (2, .int x2), (3, .int x3), (4, .int x4), (5, .int x5), (6, .int x6)] [] G) (x2 x3 x4 x5 x6 s0 : Int32) (G : zx_G) (hf : f_D_read_80 k55 x2 x3 x4 x5 x6 s0 G = some (r, G1)) : zx_Z κ ad 80 [(0, .ref (ad 23)), (2, .int x2), (3, .int x3), (4, .int x4), (5, .int x5), (6, .int x6)] [.int s0] G := by
  unfold f_D_read_80 at hf
  obtain ⟨x7_1, ex7_1, hf⟩ := zx_lt_some hf
  refine zr_istore h d_D_read_80 rfl (by decide) ex7_1 rfl ?_
  refine zr_aload_n h d_D_read_82 rfl rfl 1 rfl ?_
  refine zr_getR h d_D_read_83 rfl fl_D_16 sh_23 rfl ?_
  refine zr_bipush (v := (13 : Int32)) h d_D_read_86 rfl (by decide) ?_
  refine zr_iconst (v := (3 : Int32)) h d_D_read_88 rfl (by decide) ?_
  refine zr_iload h d_D_read_89 rfl 4 rfl ?_
  refine zr_imul h d_D_read_91 rfl ?_
  refine zr_iadd h d_D_read_92 rfl ?_
  refine zr_iload h d_D_read_93 rfl 0 rfl ?_
  refine zr_iadd h d_D_read_95 rfl ?_
  obtain ⟨r_3, G_2, hq_4, hf⟩ := zx_bd_some hf
  refine zr_callVI (As := [.int (((13 : Int32) + ((3 : Int32) * x4)) + x7_1)]) (b := 14) h (c_C_readSymbol _ _ _ _ _ (((13 : Int32) + ((3 : Int32) * x4)) + x7_1) G r_3 G_2 hq_4) cc_D_26 d_D_read_96 rfl rfl rfl sh_14 ⟨rfl, rfl, by decide, by decide⟩ (Nat.le_of_ble_eq_true rfl) ?_
  obtain ⟨x8_5, ex8_5, hf⟩ := zx_lt_some hf
  refine zr_istore h d_D_read_99 rfl (by decide) ex8_5 rfl ?_
  refine zr_iload h d_D_read_101 rfl 7 rfl ?_
  refine zr_iload h d_D_read_103 rfl 6 rfl ?_
  rcases zx_if_some hf with ⟨hc_6, hf⟩ | ⟨hc_6, hf⟩
  · refine zr_icmp_ne_t (tgt := 115) h d_D_read_105 rfl hc_6 ?_
    refine zr_iload h d_D_read_115 rfl 0 rfl ?_
    refine zr_sub [2, 3, 4, 5, 6, 7, 0] rfl ?_
    exact z_D_read_117 h hE hk55 x2 x3 x4 x5 x6 x8_5 x8_5 G_2 hf
  · refine zr_icmp_ne_f h 115 d_D_read_105 rfl rfl hc_6 ?_
    refine zr_iload h d_D_read_108 rfl 0 rfl ?_
    refine zr_iconst (v := (1 : Int32)) h d_D_read_110 rfl (by decide) ?_
    refine zr_iadd h d_D_read_111 rfl ?_
    refine zr_goto (tgt := 117) h d_D_read_112 rfl ?_
    refine zr_sub [2, 3, 4, 5, 6, 7, 0] rfl ?_
    exact z_D_read_117 h hE hk55 x2 x3 x4 x5 x6 x8_5 (x8_5 + (1 : Int32)) G_2 hf
set_option maxRecDepth 100000 in
set_option maxHeartbeats 4000000 in
theorem z_D_read_218 {κ : zx_K} {ad : Nat → Nat} {r : Int32} {G1 : zx_G} (h : zx_C M_D_read κ ad) (hE : zx_E M_D_read κ ad r G1) (G : zx_G) (hf : f_D_read_218 G = some (r, G1)) : zx_Z κ ad 218 [] [] G := by
  unfold f_D_read_218 at hf
  refine zr_iconst (v := (1 : Int32)) h d_D_read_218 rfl (by decide) ?_
  obtain ⟨hb_1, hf⟩ := zx_gd_some hf
  exact zr_zret h hE d_D_read_219 rfl hb_1 hf
set_option maxRecDepth 100000 in
set_option maxHeartbeats 4000000 in
theorem z_D_read_55 {κ : zx_K} {ad : Nat → Nat} {r : Int32} {G1 : zx_G} (h : zx_C M_D_read κ ad) (hE : zx_E M_D_read κ ad r G1) : ∀ (n : Nat) (x2 x3 x4 x5 x6 : Int32) (G : zx_G), f_D_read_55 n x2 x3 x4 x5 x6 G = some (r, G1) → zx_Z κ ad 55 [(0, .ref (ad 23)), (2, .int x2), (3, .int x3), (4, .int x4), (5, .int x5), (6, .int x6)] [] G := by
  intro n
  induction n with
  | zero => intro x2 x3 x4 x5 x6 G hf; cases hf
  | succ n ih =>
    intro x2 x3 x4 x5 x6 G hf
    unfold f_D_read_55 at hf
    refine zr_iload h d_D_read_55 rfl 5 rfl ?_
    rcases zx_if_some hf with ⟨hc_1, hf⟩ | ⟨hc_1, hf⟩
    · refine zr_if_lt_t (tgt := 201) h d_D_read_57 rfl hc_1 ?_
      refine zr_iload_n h d_D_read_201 rfl rfl 1 rfl ?_
      rcases zx_if_some hf with ⟨hc_2, hf⟩ | ⟨hc_2, hf⟩
      · refine zr_if_ne_t (tgt := 212) h d_D_read_202 rfl hc_2 ?_
        refine zr_aload_n h d_D_read_212 rfl rfl 0 rfl ?_
        refine zr_iload_n h d_D_read_213 rfl rfl 1 rfl ?_
        refine zr_iload_n h d_D_read_214 rfl rfl 2 rfl ?_
        obtain ⟨r_4, G_3, hq_5, hf⟩ := zx_bd_some hf
        refine zr_callVV (As := [.int x2, .int x3]) (b := 23) h (c_D_transform _ _ _ _ _ x2 x3 G r_4 G_3 hq_5) cc_D_45 d_D_read_215 rfl rfl rfl sh_23 ⟨rfl, rfl, by decide, by decide⟩ (Nat.le_of_ble_eq_true rfl) ?_
        refine zr_sub [] rfl ?_
        exact z_D_read_218 h hE G_3 hf
      · refine zr_if_ne_f h 212 d_D_read_202 rfl rfl hc_2 ?_
        refine zr_aload_n h d_D_read_205 rfl rfl 0 rfl ?_
        obtain ⟨r_7, G_6, hq_8, hf⟩ := zx_bd_some hf
        refine zr_callVV (As := []) (b := 23) h (c_D_mix _ _ _ _ _ G r_7 G_6 hq_8) cc_D_42 d_D_read_206 rfl rfl rfl sh_23 ⟨rfl, rfl, by decide, by decide⟩ (Nat.le_of_ble_eq_true rfl) ?_
        refine zr_goto (tgt := 218) h d_D_read_209 rfl ?_
        refine zr_sub [] rfl ?_
        exact z_D_read_218 h hE G_6 hf
    · refine zr_if_lt_f h 201 d_D_read_57 rfl rfl hc_1 ?_
      refine zr_iload h d_D_read_60 rfl 5 rfl ?_
      rcases zx_if_some hf with ⟨hc_9, hf⟩ | ⟨hc_9, hf⟩
      · refine zr_if_ne_t (tgt := 69) h d_D_read_62 rfl hc_9 ?_
        refine zr_iload h d_D_read_69 rfl 5 rfl ?_
        refine zr_iconst (v := (5 : Int32)) h d_D_read_71 rfl (by decide) ?_
        rcases zx_if_some hf with ⟨hc_10, hf⟩ | ⟨hc_10, hf⟩
        · refine zr_icmp_gt_t (tgt := 79) h d_D_read_72 rfl hc_10 ?_
          refine zr_iconst (v := (2 : Int32)) h d_D_read_79 rfl (by decide) ?_
          exact z_D_read_80 h hE ih x2 x3 x4 x5 x6 (2 : Int32) G hf
        · refine zr_icmp_gt_f h 79 d_D_read_72 rfl rfl hc_10 ?_
          refine zr_iconst (v := (1 : Int32)) h d_D_read_75 rfl (by decide) ?_
          refine zr_goto (tgt := 80) h d_D_read_76 rfl ?_
          exact z_D_read_80 h hE ih x2 x3 x4 x5 x6 (1 : Int32) G hf
      · refine zr_if_ne_f h 69 d_D_read_62 rfl rfl hc_9 ?_
        refine zr_iconst (v := (0 : Int32)) h d_D_read_65 rfl (by decide) ?_
        refine zr_goto (tgt := 80) h d_D_read_66 rfl ?_
        exact z_D_read_80 h hE ih x2 x3 x4 x5 x6 (0 : Int32) G hf
set_option maxRecDepth 100000 in
set_option maxHeartbeats 4000000 in
theorem z_D_read_9 {κ : zx_K} {ad : Nat → Nat} {r : Int32} {G1 : zx_G} (h : zx_C M_D_read κ ad) (hE : zx_E M_D_read κ ad r G1) (x2 x3 s0 : Int32) (G : zx_G) (hf : f_D_read_9 x2 x3 s0 G = some (r, G1)) : zx_Z κ ad 9 [(0, .ref (ad 23)), (2, .int x2), (3, .int x3)] [.int s0] G := by
  unfold f_D_read_9 at hf
  obtain ⟨x4_1, ex4_1, hf⟩ := zx_lt_some hf
  refine zr_istore h d_D_read_9 rfl (by decide) ex4_1 rfl ?_
  refine zr_aload_n h d_D_read_11 rfl rfl 1 rfl ?_
  refine zr_getR h d_D_read_12 rfl fl_D_7 sh_23 rfl ?_
  refine zr_iconst (v := (0 : Int32)) h d_D_read_15 rfl (by decide) ?_
  obtain ⟨r_3, G_2, hq_4, hf⟩ := zx_bd_some hf
  refine zr_callSV (As := [.ref (ad 24), .int (0 : Int32)]) h (c_A_fill_24 _ _ _ _ _ (0 : Int32) G r_3 G_2 hq_4) cc_D_20 d_D_read_16 rfl rfl rfl ⟨rfl, by decide, by decide⟩ (Nat.le_of_ble_eq_true rfl) ?_
  refine zr_aload_n h d_D_read_19 rfl rfl 1 rfl ?_
  refine zr_getR h d_D_read_20 rfl fl_D_16 sh_23 rfl ?_
  refine zr_bipush (v := (8 : Int32)) h d_D_read_23 rfl (by decide) ?_
  refine zr_iload h d_D_read_25 rfl 0 rfl ?_
  refine zr_iadd h d_D_read_27 rfl ?_
  obtain ⟨r_6, G_5, hq_7, hf⟩ := zx_bd_some hf
  refine zr_callVI (As := [.int ((8 : Int32) + x4_1)]) (b := 14) h (c_C_readSymbol _ _ _ _ _ ((8 : Int32) + x4_1) G_2 r_6 G_5 hq_7) cc_D_26 d_D_read_28 rfl rfl rfl sh_14 ⟨rfl, rfl, by decide, by decide⟩ (Nat.le_of_ble_eq_true rfl) ?_
  refine zr_iconst (v := (1 : Int32)) h d_D_read_31 rfl (by decide) ?_
  rcases zx_if_some hf with ⟨hc_8, hf⟩ | ⟨hc_8, hf⟩
  · refine zr_icmp_ne_t (tgt := 37) h d_D_read_32 rfl hc_8 ?_
    refine zr_aload_n h d_D_read_37 rfl rfl 1 rfl ?_
    refine zr_getR h d_D_read_38 rfl fl_D_16 sh_23 rfl ?_
    refine zr_bipush (v := (11 : Int32)) h d_D_read_41 rfl (by decide) ?_
    refine zr_iload h d_D_read_43 rfl 0 rfl ?_
    refine zr_iadd h d_D_read_45 rfl ?_
    obtain ⟨r_10, G_9, hq_11, hf⟩ := zx_bd_some hf
    refine zr_callVI (As := [.int ((11 : Int32) + x4_1)]) (b := 14) h (c_C_readSymbol _ _ _ _ _ ((11 : Int32) + x4_1) G_5 r_10 G_9 hq_11) cc_D_26 d_D_read_46 rfl rfl rfl sh_14 ⟨rfl, rfl, by decide, by decide⟩ (Nat.le_of_ble_eq_true rfl) ?_
    obtain ⟨x5_12, ex5_12, hf⟩ := zx_lt_some hf
    refine zr_istore h d_D_read_49 rfl (by decide) ex5_12 rfl ?_
    refine zr_iload h d_D_read_51 rfl 0 rfl ?_
    obtain ⟨x6_13, ex6_13, hf⟩ := zx_lt_some hf
    refine zr_istore h d_D_read_53 rfl (by decide) ex6_13 rfl ?_
    refine zr_sub [3, 4, 5, 2, 1, 0] rfl ?_
    exact z_D_read_55 h hE 2048 x2 x3 x4_1 x5_12 x6_13 G_9 hf
  · refine zr_icmp_ne_f h 37 d_D_read_32 rfl rfl hc_8 ?_
    refine zr_iconst (v := (1 : Int32)) h d_D_read_35 rfl (by decide) ?_
    obtain ⟨hb_14, hf⟩ := zx_gd_some hf
    exact zr_zret h hE d_D_read_36 rfl hb_14 hf
set_option maxRecDepth 100000 in
set_option maxHeartbeats 4000000 in
theorem z_D_read_0 {κ : zx_K} {ad : Nat → Nat} {r : Int32} {G1 : zx_G} (h : zx_C M_D_read κ ad) (hE : zx_E M_D_read κ ad r G1) (x1 x2 x3 : Int32) (G : zx_G) (hf : f_D_read x1 x2 x3 G = some (r, G1)) : zx_Z κ ad 0 [(0, .ref (ad 23)), (1, .int x1), (2, .int x2), (3, .int x3)] [] G := by
  unfold f_D_read at hf
  refine zr_iload_n h d_D_read_0 rfl rfl 1 rfl ?_
  rcases zx_if_some hf with ⟨hc_1, hf⟩ | ⟨hc_1, hf⟩
  · refine zr_if_ne_t (tgt := 8) h d_D_read_1 rfl hc_1 ?_
    refine zr_iconst (v := (1 : Int32)) h d_D_read_8 rfl (by decide) ?_
    refine zr_sub [0, 2, 3] rfl ?_
    exact z_D_read_9 h hE x2 x3 (1 : Int32) G hf
  · refine zr_if_ne_f h 8 d_D_read_1 rfl rfl hc_1 ?_
    refine zr_iconst (v := (0 : Int32)) h d_D_read_4 rfl (by decide) ?_
    refine zr_goto (tgt := 9) h d_D_read_5 rfl ?_
    refine zr_sub [0, 2, 3] rfl ?_
    exact z_D_read_9 h hE x2 x3 (0 : Int32) G hf
theorem c_D_read (l : Launch) (D : va_G) (cA : ClassId) (ad : Nat → Nat) (A : Nat → Prop) (x1 x2 x3 : Int32) (G : zx_G) (r : Int32) (G1 : zx_G) (hf : f_D_read x1 x2 x3 G = some (r, G1)) : zx_met l y_D_read M_D_read [.ref (ad 23), .int x1, .int x2, .int x3] D cA ad A G r G1 :=
  zx_toMet (by decide) rfl (Nat.le_of_ble_eq_true rfl) (fun κ h hE => by exact z_D_read_0 h hE x1 x2 x3 G hf)
