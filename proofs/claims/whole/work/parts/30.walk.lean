/-! the methods as functions, and the rows that tie them to the machine; written by a program -/
def f_M_child_43 (k10 : Int32 → Int32 → Int32 → Int32 → zx_G → Option (Int32 × zx_G)) (x1 x2 x4 s0 : Int32) (G : zx_G) : Option (Int32 × zx_G) :=
  zx_lt s0 fun x3_1 =>
  zx_lt (x4 + (-1 : Int32)) fun x4_2 =>
  k10 x1 x2 x3_1 x4_2 G
def f_M_child_42 (k10 : Int32 → Int32 → Int32 → Int32 → zx_G → Option (Int32 × zx_G)) (x1 x2 x3 x4 : Int32) (G : zx_G) : Option (Int32 × zx_G) :=
  f_M_child_43 k10 x1 x2 x4 x3 G
def f_M_child_10 : Nat → Int32 → Int32 → Int32 → Int32 → zx_G → Option (Int32 × zx_G)
  | 0, _, _, _, _, _ => none
  | n + 1, x1, x2, x3, x4, G =>
    zx_if (x4 < 0)
      (some (x3, G))
      (zx_gd (zx_in x4 16) <|
      zx_if (¬ (G 37 (Int32.toNatClampNeg x4)) = x1)
        (f_M_child_42 (f_M_child_10 n) x1 x2 x3 x4 G)
        (zx_gd (zx_in x4 16) <|
        zx_if (¬ (G 36 (Int32.toNatClampNeg x4)) = x2)
          (f_M_child_42 (f_M_child_10 n) x1 x2 x3 x4 G)
          (f_M_child_43 (f_M_child_10 n) x1 x2 x4 x4 G)))
def f_M_child (x1 x2 : Int32) (G : zx_G) : Option (Int32 × zx_G) :=
  zx_lt (-1 : Int32) fun x3_1 =>
  zx_lt ((G 32 2) - (1 : Int32)) fun x4_2 =>
  f_M_child_10 2048 x1 x2 x3_1 x4_2 G
set_option maxRecDepth 100000 in
set_option maxHeartbeats 4000000 in
theorem z_M_child_43 {κ : zx_K} {ad : Nat → Nat} {r : Int32} {G1 : zx_G} (h : zx_C M_M_child κ ad) (hE : zx_E M_M_child κ ad r G1) {k10 : Int32 → Int32 → Int32 → Int32 → zx_G → Option (Int32 × zx_G)} (hk10 : ∀ (x1 x2 x3 x4 : Int32) (G : zx_G), k10 x1 x2 x3 x4 G = some (r, G1) → zx_Z κ ad 10 [(0, .ref (ad 32)), (1, .int x1), (2, .int x2), (3, .int x3), (4, .int x4)] [] G) (x1 x2 x4 s0 : Int32) (G : zx_G) (hf : f_M_child_43 k10 x1 x2 x4 s0 G = some (r, G1)) : zx_Z κ ad 43 [(0, .ref (ad 32)), (1, .int x1), (2, .int x2), (4, .int x4)] [.int s0] G := by
  unfold f_M_child_43 at hf
  obtain ⟨x3_1, ex3_1, hf⟩ := zx_lt_some hf
  refine zr_istore_n h d_M_child_43 rfl rfl (by decide) ex3_1 rfl ?_
  obtain ⟨x4_2, ex4_2, hf⟩ := zx_lt_some hf
  refine zr_iinc (j := 4) h d_M_child_44 rfl rfl (by decide) ex4_2 (by decide) rfl ?_
  refine zr_goto (tgt := 10) h d_M_child_47 rfl ?_
  refine zr_sub [2, 3, 4, 1, 0] rfl ?_
  exact hk10 x1 x2 x3_1 x4_2 G hf
set_option maxRecDepth 100000 in
set_option maxHeartbeats 4000000 in
theorem z_M_child_42 {κ : zx_K} {ad : Nat → Nat} {r : Int32} {G1 : zx_G} (h : zx_C M_M_child κ ad) (hE : zx_E M_M_child κ ad r G1) {k10 : Int32 → Int32 → Int32 → Int32 → zx_G → Option (Int32 × zx_G)} (hk10 : ∀ (x1 x2 x3 x4 : Int32) (G : zx_G), k10 x1 x2 x3 x4 G = some (r, G1) → zx_Z κ ad 10 [(0, .ref (ad 32)), (1, .int x1), (2, .int x2), (3, .int x3), (4, .int x4)] [] G) (x1 x2 x3 x4 : Int32) (G : zx_G) (hf : f_M_child_42 k10 x1 x2 x3 x4 G = some (r, G1)) : zx_Z κ ad 42 [(0, .ref (ad 32)), (1, .int x1), (2, .int x2), (3, .int x3), (4, .int x4)] [] G := by
  unfold f_M_child_42 at hf
  refine zr_iload_n h d_M_child_42 rfl rfl 3 rfl ?_
  refine zr_sub [0, 1, 2, 4] rfl ?_
  exact z_M_child_43 h hE hk10 x1 x2 x4 x3 G hf
set_option maxRecDepth 100000 in
set_option maxHeartbeats 4000000 in
theorem z_M_child_10 {κ : zx_K} {ad : Nat → Nat} {r : Int32} {G1 : zx_G} (h : zx_C M_M_child κ ad) (hE : zx_E M_M_child κ ad r G1) : ∀ (n : Nat) (x1 x2 x3 x4 : Int32) (G : zx_G), f_M_child_10 n x1 x2 x3 x4 G = some (r, G1) → zx_Z κ ad 10 [(0, .ref (ad 32)), (1, .int x1), (2, .int x2), (3, .int x3), (4, .int x4)] [] G := by
  intro n
  induction n with
  | zero => intro x1 x2 x3 x4 G hf; cases hf
  | succ n ih =>
    intro x1 x2 x3 x4 G hf
    unfold f_M_child_10 at hf
    refine zr_iload h d_M_child_10 rfl 4 rfl ?_
    rcases zx_if_some hf with ⟨hc_1, hf⟩ | ⟨hc_1, hf⟩
    · refine zr_if_lt_t (tgt := 50) h d_M_child_12 rfl hc_1 ?_
      refine zr_iload_n h d_M_child_50 rfl rfl 3 rfl ?_
      exact zr_iret h hE d_M_child_51 rfl hf
    · refine zr_if_lt_f h 50 d_M_child_12 rfl rfl hc_1 ?_
      refine zr_aload_n h d_M_child_15 rfl rfl 0 rfl ?_
      refine zr_getR h d_M_child_16 rfl fl_M_22 sh_32 rfl ?_
      refine zr_iload h d_M_child_19 rfl 4 rfl ?_
      obtain ⟨hb_2, hf⟩ := zx_gd_some hf
      refine zr_iald h d_M_child_21 rfl sh_37 hb_2 ?_
      refine zr_iload_n h d_M_child_22 rfl rfl 1 rfl ?_
      rcases zx_if_some hf with ⟨hc_3, hf⟩ | ⟨hc_3, hf⟩
      · refine zr_icmp_ne_t (tgt := 42) h d_M_child_23 rfl hc_3 ?_
        exact z_M_child_42 h hE ih x1 x2 x3 x4 G hf
      · refine zr_icmp_ne_f h 42 d_M_child_23 rfl rfl hc_3 ?_
        refine zr_aload_n h d_M_child_26 rfl rfl 0 rfl ?_
        refine zr_getR h d_M_child_27 rfl fl_M_19 sh_32 rfl ?_
        refine zr_iload h d_M_child_30 rfl 4 rfl ?_
        obtain ⟨hb_4, hf⟩ := zx_gd_some hf
        refine zr_iald h d_M_child_32 rfl sh_36 hb_4 ?_
        refine zr_iload_n h d_M_child_33 rfl rfl 2 rfl ?_
        rcases zx_if_some hf with ⟨hc_5, hf⟩ | ⟨hc_5, hf⟩
        · refine zr_icmp_ne_t (tgt := 42) h d_M_child_34 rfl hc_5 ?_
          exact z_M_child_42 h hE ih x1 x2 x3 x4 G hf
        · refine zr_icmp_ne_f h 42 d_M_child_34 rfl rfl hc_5 ?_
          refine zr_iload h d_M_child_37 rfl 4 rfl ?_
          refine zr_goto (tgt := 43) h d_M_child_39 rfl ?_
          refine zr_sub [0, 1, 2, 4] rfl ?_
          exact z_M_child_43 h hE ih x1 x2 x4 x4 G hf
set_option maxRecDepth 100000 in
set_option maxHeartbeats 4000000 in
theorem z_M_child_0 {κ : zx_K} {ad : Nat → Nat} {r : Int32} {G1 : zx_G} (h : zx_C M_M_child κ ad) (hE : zx_E M_M_child κ ad r G1) (x1 x2 : Int32) (G : zx_G) (hf : f_M_child x1 x2 G = some (r, G1)) : zx_Z κ ad 0 [(0, .ref (ad 32)), (1, .int x1), (2, .int x2)] [] G := by
  unfold f_M_child at hf
  refine zr_iconst (v := (-1 : Int32)) h d_M_child_0 rfl (by decide) ?_
  obtain ⟨x3_1, ex3_1, hf⟩ := zx_lt_some hf
  refine zr_istore_n h d_M_child_1 rfl rfl (by decide) ex3_1 rfl ?_
  refine zr_aload_n h d_M_child_2 rfl rfl 1 rfl ?_
  refine zr_getI h d_M_child_3 rfl fl_M_112 sh_32 rfl ?_
  refine zr_iconst (v := (1 : Int32)) h d_M_child_6 rfl (by decide) ?_
  refine zr_isub h d_M_child_7 rfl ?_
  obtain ⟨x4_2, ex4_2, hf⟩ := zx_lt_some hf
  refine zr_istore h d_M_child_8 rfl (by decide) ex4_2 rfl ?_
  refine zr_sub [2, 3, 4, 1, 0] rfl ?_
  exact z_M_child_10 h hE 2048 x1 x2 x3_1 x4_2 G hf
theorem c_M_child (l : Launch) (D : va_G) (cA : ClassId) (ad : Nat → Nat) (A : Nat → Prop) (x1 x2 : Int32) (G : zx_G) (r : Int32) (G1 : zx_G) (hf : f_M_child x1 x2 G = some (r, G1)) : zx_met l y_M_child M_M_child [.ref (ad 32), .int x1, .int x2] D cA ad A G r G1 :=
  zx_toMet (by decide) rfl (Nat.le_of_ble_eq_true rfl) (fun κ h hE => by exact z_M_child_0 h hE x1 x2 G hf)

def f_M_associate_116 (s1 : Int32) (G : zx_G) : Option (Int32 × zx_G) :=
  zx_lt (zx_up G 32 15 s1) fun G_1 =>
  some ((0 : Int32), G_1)
def f_M_associate_112 (G : zx_G) : Option (Int32 × zx_G) :=
  f_M_associate_116 (G 32 15) G
def f_M_associate_91 (x1 x3 s1 : Int32) (G : zx_G) : Option (Int32 × zx_G) :=
  zx_lt (zx_up G 32 14 s1) fun G_1 =>
  zx_if (¬ x3 = (120 : Int32))
    (f_M_associate_112 G_1)
    (zx_if (0 ≤ (G_1 32 15))
      (f_M_associate_112 G_1)
      (f_M_associate_116 x1 G_1))
def f_M_associate_87 (x1 x3 : Int32) (G : zx_G) : Option (Int32 × zx_G) :=
  f_M_associate_91 x1 x3 (G 32 14) G
def f_M_associate_66 (x1 x3 s1 : Int32) (G : zx_G) : Option (Int32 × zx_G) :=
  zx_lt (zx_up G 32 13 s1) fun G_1 =>
  zx_if (¬ x3 = (99 : Int32))
    (f_M_associate_87 x1 x3 G_1)
    (zx_if (0 ≤ (G_1 32 14))
      (f_M_associate_87 x1 x3 G_1)
      (f_M_associate_91 x1 x3 x1 G_1))
def f_M_associate_62 (x1 x3 : Int32) (G : zx_G) : Option (Int32 × zx_G) :=
  f_M_associate_66 x1 x3 (G 32 13) G
def f_M_associate_44 (x1 x3 : Int32) (G : zx_G) : Option (Int32 × zx_G) :=
  zx_if (¬ x3 = (115 : Int32))
    (f_M_associate_62 x1 x3 G)
    (zx_if (0 ≤ (G 32 13))
      (f_M_associate_62 x1 x3 G)
      (f_M_associate_66 x1 x3 x1 G))
def f_M_associate (x1 x2 : Int32) (G : zx_G) : Option (Int32 × zx_G) :=
  zx_if (0 ≤ x1)
    (zx_gd (zx_in x1 16) <|
    zx_lt (G 36 (Int32.toNatClampNeg x1)) fun x3_3 =>
    zx_if (x2 = 0)
      (f_M_associate_44 x1 x3_3 G)
      (zx_if (x3_3 = (115 : Int32))
        (f_M_associate_44 x1 x3_3 G)
        (zx_if (x3_3 = (120 : Int32))
          (f_M_associate_44 x1 x3_3 G)
          (zx_if (x3_3 = (99 : Int32))
            (f_M_associate_44 x1 x3_3 G)
            (zx_bd (f_M_fail (5 : Int32) G) fun r_9 G_8 =>
            f_M_associate_44 x1 x3_3 G_8)))))
    (zx_bd (f_M_fail (3 : Int32) G) fun r_12 G_11 =>
    some ((0 : Int32), G_11))
set_option maxRecDepth 100000 in
set_option maxHeartbeats 4000000 in
theorem z_M_associate_116 {κ : zx_K} {ad : Nat → Nat} {r : Int32} {G1 : zx_G} (h : zx_C M_M_associate κ ad) (hE : zx_E M_M_associate κ ad r G1) (s1 : Int32) (G : zx_G) (hf : f_M_associate_116 s1 G = some (r, G1)) : zx_Z κ ad 116 [] [.int s1, .ref (ad 32)] G := by
  unfold f_M_associate_116 at hf
  obtain ⟨G_1, eG_1, hf⟩ := zx_lt_some hf
  refine zr_putI h d_M_associate_116 rfl fl_M_145 pl_M_15 sh_32 rfl rfl rfl eG_1 ?_
  exact zr_vret h hE d_M_associate_119 rfl hf
set_option maxRecDepth 100000 in
set_option maxHeartbeats 4000000 in
theorem z_M_associate_112 {κ : zx_K} {ad : Nat → Nat} {r : Int32} {G1 : zx_G} (h : zx_C M_M_associate κ ad) (hE : zx_E M_M_associate κ ad r G1) (G : zx_G) (hf : f_M_associate_112 G = some (r, G1)) : zx_Z κ ad 112 [(0, .ref (ad 32))] [.ref (ad 32)] G := by
  unfold f_M_associate_112 at hf
  refine zr_aload_n h d_M_associate_112 rfl rfl 0 rfl ?_
  refine zr_getI h d_M_associate_113 rfl fl_M_145 sh_32 rfl ?_
  refine zr_sub [] rfl ?_
  exact z_M_associate_116 h hE (G 32 15) G hf
set_option maxRecDepth 100000 in
set_option maxHeartbeats 4000000 in
theorem z_M_associate_91 {κ : zx_K} {ad : Nat → Nat} {r : Int32} {G1 : zx_G} (h : zx_C M_M_associate κ ad) (hE : zx_E M_M_associate κ ad r G1) (x1 x3 s1 : Int32) (G : zx_G) (hf : f_M_associate_91 x1 x3 s1 G = some (r, G1)) : zx_Z κ ad 91 [(0, .ref (ad 32)), (1, .int x1), (3, .int x3)] [.int s1, .ref (ad 32)] G := by
  unfold f_M_associate_91 at hf
  obtain ⟨G_1, eG_1, hf⟩ := zx_lt_some hf
  refine zr_putI h d_M_associate_91 rfl fl_M_142 pl_M_14 sh_32 rfl rfl rfl eG_1 ?_
  refine zr_aload_n h d_M_associate_94 rfl rfl 0 rfl ?_
  refine zr_iload_n h d_M_associate_95 rfl rfl 2 rfl ?_
  refine zr_bipush (v := (120 : Int32)) h d_M_associate_96 rfl (by decide) ?_
  rcases zx_if_some hf with ⟨hc_2, hf⟩ | ⟨hc_2, hf⟩
  · refine zr_icmp_ne_t (tgt := 112) h d_M_associate_98 rfl hc_2 ?_
    refine zr_sub [0] rfl ?_
    exact z_M_associate_112 h hE G_1 hf
  · refine zr_icmp_ne_f h 112 d_M_associate_98 rfl rfl hc_2 ?_
    refine zr_aload_n h d_M_associate_101 rfl rfl 0 rfl ?_
    refine zr_getI h d_M_associate_102 rfl fl_M_145 sh_32 rfl ?_
    rcases zx_if_some hf with ⟨hc_3, hf⟩ | ⟨hc_3, hf⟩
    · refine zr_if_ge_t (tgt := 112) h d_M_associate_105 rfl hc_3 ?_
      refine zr_sub [0] rfl ?_
      exact z_M_associate_112 h hE G_1 hf
    · refine zr_if_ge_f h 112 d_M_associate_105 rfl rfl hc_3 ?_
      refine zr_iload_n h d_M_associate_108 rfl rfl 1 rfl ?_
      refine zr_goto (tgt := 116) h d_M_associate_109 rfl ?_
      refine zr_sub [] rfl ?_
      exact z_M_associate_116 h hE x1 G_1 hf
set_option maxRecDepth 100000 in
set_option maxHeartbeats 4000000 in
theorem z_M_associate_87 {κ : zx_K} {ad : Nat → Nat} {r : Int32} {G1 : zx_G} (h : zx_C M_M_associate κ ad) (hE : zx_E M_M_associate κ ad r G1) (x1 x3 : Int32) (G : zx_G) (hf : f_M_associate_87 x1 x3 G = some (r, G1)) : zx_Z κ ad 87 [(0, .ref (ad 32)), (1, .int x1), (3, .int x3)] [.ref (ad 32)] G := by
  unfold f_M_associate_87 at hf
  refine zr_aload_n h d_M_associate_87 rfl rfl 0 rfl ?_
  refine zr_getI h d_M_associate_88 rfl fl_M_142 sh_32 rfl ?_
  exact z_M_associate_91 h hE x1 x3 (G 32 14) G hf
set_option maxRecDepth 100000 in
set_option maxHeartbeats 4000000 in
theorem z_M_associate_66 {κ : zx_K} {ad : Nat → Nat} {r : Int32} {G1 : zx_G} (h : zx_C M_M_associate κ ad) (hE : zx_E M_M_associate κ ad r G1) (x1 x3 s1 : Int32) (G : zx_G) (hf : f_M_associate_66 x1 x3 s1 G = some (r, G1)) : zx_Z κ ad 66 [(0, .ref (ad 32)), (1, .int x1), (3, .int x3)] [.int s1, .ref (ad 32)] G := by
  unfold f_M_associate_66 at hf
  obtain ⟨G_1, eG_1, hf⟩ := zx_lt_some hf
  refine zr_putI h d_M_associate_66 rfl fl_M_139 pl_M_13 sh_32 rfl rfl rfl eG_1 ?_
  refine zr_aload_n h d_M_associate_69 rfl rfl 0 rfl ?_
  refine zr_iload_n h d_M_associate_70 rfl rfl 2 rfl ?_
  refine zr_bipush (v := (99 : Int32)) h d_M_associate_71 rfl (by decide) ?_
  rcases zx_if_some hf with ⟨hc_2, hf⟩ | ⟨hc_2, hf⟩
  · refine zr_icmp_ne_t (tgt := 87) h d_M_associate_73 rfl hc_2 ?_
    exact z_M_associate_87 h hE x1 x3 G_1 hf
  · refine zr_icmp_ne_f h 87 d_M_associate_73 rfl rfl hc_2 ?_
    refine zr_aload_n h d_M_associate_76 rfl rfl 0 rfl ?_
    refine zr_getI h d_M_associate_77 rfl fl_M_142 sh_32 rfl ?_
    rcases zx_if_some hf with ⟨hc_3, hf⟩ | ⟨hc_3, hf⟩
    · refine zr_if_ge_t (tgt := 87) h d_M_associate_80 rfl hc_3 ?_
      exact z_M_associate_87 h hE x1 x3 G_1 hf
    · refine zr_if_ge_f h 87 d_M_associate_80 rfl rfl hc_3 ?_
      refine zr_iload_n h d_M_associate_83 rfl rfl 1 rfl ?_
      refine zr_goto (tgt := 91) h d_M_associate_84 rfl ?_
      exact z_M_associate_91 h hE x1 x3 x1 G_1 hf
set_option maxRecDepth 100000 in
set_option maxHeartbeats 4000000 in
theorem z_M_associate_62 {κ : zx_K} {ad : Nat → Nat} {r : Int32} {G1 : zx_G} (h : zx_C M_M_associate κ ad) (hE : zx_E M_M_associate κ ad r G1) (x1 x3 : Int32) (G : zx_G) (hf : f_M_associate_62 x1 x3 G = some (r, G1)) : zx_Z κ ad 62 [(0, .ref (ad 32)), (1, .int x1), (3, .int x3)] [.ref (ad 32)] G := by
  unfold f_M_associate_62 at hf
  refine zr_aload_n h d_M_associate_62 rfl rfl 0 rfl ?_
  refine zr_getI h d_M_associate_63 rfl fl_M_139 sh_32 rfl ?_
  exact z_M_associate_66 h hE x1 x3 (G 32 13) G hf
set_option maxRecDepth 100000 in
set_option maxHeartbeats 4000000 in
theorem z_M_associate_44 {κ : zx_K} {ad : Nat → Nat} {r : Int32} {G1 : zx_G} (h : zx_C M_M_associate κ ad) (hE : zx_E M_M_associate κ ad r G1) (x1 x3 : Int32) (G : zx_G) (hf : f_M_associate_44 x1 x3 G = some (r, G1)) : zx_Z κ ad 44 [(0, .ref (ad 32)), (1, .int x1), (3, .int x3)] [] G := by
  unfold f_M_associate_44 at hf
  refine zr_aload_n h d_M_associate_44 rfl rfl 0 rfl ?_
  refine zr_iload_n h d_M_associate_45 rfl rfl 2 rfl ?_
  refine zr_bipush (v := (115 : Int32)) h d_M_associate_46 rfl (by decide) ?_
  rcases zx_if_some hf with ⟨hc_1, hf⟩ | ⟨hc_1, hf⟩
  · refine zr_icmp_ne_t (tgt := 62) h d_M_associate_48 rfl hc_1 ?_
    exact z_M_associate_62 h hE x1 x3 G hf
  · refine zr_icmp_ne_f h 62 d_M_associate_48 rfl rfl hc_1 ?_
    refine zr_aload_n h d_M_associate_51 rfl rfl 0 rfl ?_
    refine zr_getI h d_M_associate_52 rfl fl_M_139 sh_32 rfl ?_
    rcases zx_if_some hf with ⟨hc_2, hf⟩ | ⟨hc_2, hf⟩
    · refine zr_if_ge_t (tgt := 62) h d_M_associate_55 rfl hc_2 ?_
      exact z_M_associate_62 h hE x1 x3 G hf
    · refine zr_if_ge_f h 62 d_M_associate_55 rfl rfl hc_2 ?_
      refine zr_iload_n h d_M_associate_58 rfl rfl 1 rfl ?_
      refine zr_goto (tgt := 66) h d_M_associate_59 rfl ?_
      exact z_M_associate_66 h hE x1 x3 x1 G hf
set_option maxRecDepth 100000 in
set_option maxHeartbeats 4000000 in
theorem z_M_associate_0 {κ : zx_K} {ad : Nat → Nat} {r : Int32} {G1 : zx_G} (h : zx_C M_M_associate κ ad) (hE : zx_E M_M_associate κ ad r G1) (x1 x2 : Int32) (G : zx_G) (hf : f_M_associate x1 x2 G = some (r, G1)) : zx_Z κ ad 0 [(0, .ref (ad 32)), (1, .int x1), (2, .int x2)] [] G := by
  unfold f_M_associate at hf
  refine zr_iload_n h d_M_associate_0 rfl rfl 1 rfl ?_
  rcases zx_if_some hf with ⟨hc_1, hf⟩ | ⟨hc_1, hf⟩
  · refine zr_if_ge_t (tgt := 10) h d_M_associate_1 rfl hc_1 ?_
    refine zr_aload_n h d_M_associate_10 rfl rfl 0 rfl ?_
    refine zr_getR h d_M_associate_11 rfl fl_M_19 sh_32 rfl ?_
    refine zr_iload_n h d_M_associate_14 rfl rfl 1 rfl ?_
    obtain ⟨hb_2, hf⟩ := zx_gd_some hf
    refine zr_iald h d_M_associate_15 rfl sh_36 hb_2 ?_
    obtain ⟨x3_3, ex3_3, hf⟩ := zx_lt_some hf
    refine zr_istore_n h d_M_associate_16 rfl rfl (by decide) ex3_3 rfl ?_
    refine zr_iload_n h d_M_associate_17 rfl rfl 3 rfl ?_
    rcases zx_if_some hf with ⟨hc_4, hf⟩ | ⟨hc_4, hf⟩
    · refine zr_if_eq_t (tgt := 44) h d_M_associate_18 rfl hc_4 ?_
      refine zr_sub [1, 2, 0] rfl ?_
      exact z_M_associate_44 h hE x1 x3_3 G hf
    · refine zr_if_eq_f h 44 d_M_associate_18 rfl rfl hc_4 ?_
      refine zr_iload_n h d_M_associate_21 rfl rfl 0 rfl ?_
      refine zr_bipush (v := (115 : Int32)) h d_M_associate_22 rfl (by decide) ?_
      rcases zx_if_some hf with ⟨hc_5, hf⟩ | ⟨hc_5, hf⟩
      · refine zr_icmp_eq_t (tgt := 44) h d_M_associate_24 rfl hc_5 ?_
        refine zr_sub [1, 2, 0] rfl ?_
        exact z_M_associate_44 h hE x1 x3_3 G hf
      · refine zr_icmp_eq_f h 44 d_M_associate_24 rfl rfl hc_5 ?_
        refine zr_iload_n h d_M_associate_27 rfl rfl 0 rfl ?_
        refine zr_bipush (v := (120 : Int32)) h d_M_associate_28 rfl (by decide) ?_
        rcases zx_if_some hf with ⟨hc_6, hf⟩ | ⟨hc_6, hf⟩
        · refine zr_icmp_eq_t (tgt := 44) h d_M_associate_30 rfl hc_6 ?_
          refine zr_sub [1, 2, 0] rfl ?_
          exact z_M_associate_44 h hE x1 x3_3 G hf
        · refine zr_icmp_eq_f h 44 d_M_associate_30 rfl rfl hc_6 ?_
          refine zr_iload_n h d_M_associate_33 rfl rfl 0 rfl ?_
          refine zr_bipush (v := (99 : Int32)) h d_M_associate_34 rfl (by decide) ?_
          rcases zx_if_some hf with ⟨hc_7, hf⟩ | ⟨hc_7, hf⟩
          · refine zr_icmp_eq_t (tgt := 44) h d_M_associate_36 rfl hc_7 ?_
            refine zr_sub [1, 2, 0] rfl ?_
            exact z_M_associate_44 h hE x1 x3_3 G hf
          · refine zr_icmp_eq_f h 44 d_M_associate_36 rfl rfl hc_7 ?_
            refine zr_aload_n h d_M_associate_39 rfl rfl 1 rfl ?_
            refine zr_iconst (v := (5 : Int32)) h d_M_associate_40 rfl (by decide) ?_
            obtain ⟨r_9, G_8, hq_10, hf⟩ := zx_bd_some hf
            refine zr_callVV (As := [.int (5 : Int32)]) (b := 32) h (c_M_fail _ _ _ _ _ (5 : Int32) G r_9 G_8 hq_10) cc_M_119 d_M_associate_41 rfl rfl rfl sh_32 ⟨rfl, rfl, by decide, by decide⟩ (Nat.le_of_ble_eq_true rfl) ?_
            refine zr_sub [1, 2, 0] rfl ?_
            exact z_M_associate_44 h hE x1 x3_3 G_8 hf
  · refine zr_if_ge_f h 10 d_M_associate_1 rfl rfl hc_1 ?_
    refine zr_aload_n h d_M_associate_4 rfl rfl 0 rfl ?_
    refine zr_iconst (v := (3 : Int32)) h d_M_associate_5 rfl (by decide) ?_
    obtain ⟨r_12, G_11, hq_13, hf⟩ := zx_bd_some hf
    refine zr_callVV (As := [.int (3 : Int32)]) (b := 32) h (c_M_fail _ _ _ _ _ (3 : Int32) G r_12 G_11 hq_13) cc_M_119 d_M_associate_6 rfl rfl rfl sh_32 ⟨rfl, rfl, by decide, by decide⟩ (Nat.le_of_ble_eq_true rfl) ?_
    exact zr_vret h hE d_M_associate_9 rfl hf
theorem c_M_associate (l : Launch) (D : va_G) (cA : ClassId) (ad : Nat → Nat) (A : Nat → Prop) (x1 x2 : Int32) (G : zx_G) (r : Int32) (G1 : zx_G) (hf : f_M_associate x1 x2 G = some (r, G1)) : zx_met l y_M_associate M_M_associate [.ref (ad 32), .int x1, .int x2] D cA ad A G r G1 :=
  zx_toMet (by decide) rfl (Nat.le_of_ble_eq_true rfl) (fun κ h hE => by exact z_M_associate_0 h hE x1 x2 G hf)

def f_M_take (G : zx_G) : Option (Int32 × zx_G) :=
  zx_if ((G 32 11) < (G 32 12))
    (zx_lt (zx_up G 32 11 ((G 32 11) + (1 : Int32))) fun G_2 =>
    zx_gd (zx_in ((G_2 32 11) - (1 : Int32)) 240) <|
    some ((G_2 33 (Int32.toNatClampNeg ((G_2 32 11) - (1 : Int32)))), G_2))
    (zx_bd (f_M_fail (3 : Int32) G) fun r_5 G_4 =>
    some ((0 : Int32), G_4))
set_option maxRecDepth 100000 in
set_option maxHeartbeats 4000000 in
theorem z_M_take_0 {κ : zx_K} {ad : Nat → Nat} {r : Int32} {G1 : zx_G} (h : zx_C M_M_take κ ad) (hE : zx_E M_M_take κ ad r G1) (G : zx_G) (hf : f_M_take G = some (r, G1)) : zx_Z κ ad 0 [(0, .ref (ad 32))] [] G := by
  unfold f_M_take at hf
  refine zr_aload_n h d_M_take_0 rfl rfl 0 rfl ?_
  refine zr_getI h d_M_take_1 rfl fl_M_123 sh_32 rfl ?_
  refine zr_aload_n h d_M_take_4 rfl rfl 0 rfl ?_
  refine zr_getI h d_M_take_5 rfl fl_M_126 sh_32 rfl ?_
  rcases zx_if_some hf with ⟨hc_1, hf⟩ | ⟨hc_1, hf⟩
  · refine zr_icmp_lt_t (tgt := 18) h d_M_take_8 rfl hc_1 ?_
    refine zr_aload_n h d_M_take_18 rfl rfl 0 rfl ?_
    refine zr_dup h d_M_take_19 rfl rfl ?_
    refine zr_getI h d_M_take_20 rfl fl_M_123 sh_32 rfl ?_
    refine zr_iconst (v := (1 : Int32)) h d_M_take_23 rfl (by decide) ?_
    refine zr_iadd h d_M_take_24 rfl ?_
    obtain ⟨G_2, eG_2, hf⟩ := zx_lt_some hf
    refine zr_putI h d_M_take_25 rfl fl_M_123 pl_M_11 sh_32 rfl rfl rfl eG_2 ?_
    refine zr_aload_n h d_M_take_28 rfl rfl 0 rfl ?_
    refine zr_getR h d_M_take_29 rfl fl_M_7 sh_32 rfl ?_
    refine zr_aload_n h d_M_take_32 rfl rfl 0 rfl ?_
    refine zr_getI h d_M_take_33 rfl fl_M_123 sh_32 rfl ?_
    refine zr_iconst (v := (1 : Int32)) h d_M_take_36 rfl (by decide) ?_
    refine zr_isub h d_M_take_37 rfl ?_
    obtain ⟨hb_3, hf⟩ := zx_gd_some hf
    refine zr_iald h d_M_take_38 rfl sh_33 hb_3 ?_
    exact zr_iret h hE d_M_take_39 rfl hf
  · refine zr_icmp_lt_f h 18 d_M_take_8 rfl rfl hc_1 ?_
    refine zr_aload_n h d_M_take_11 rfl rfl 0 rfl ?_
    refine zr_iconst (v := (3 : Int32)) h d_M_take_12 rfl (by decide) ?_
    obtain ⟨r_5, G_4, hq_6, hf⟩ := zx_bd_some hf
    refine zr_callVV (As := [.int (3 : Int32)]) (b := 32) h (c_M_fail _ _ _ _ _ (3 : Int32) G r_5 G_4 hq_6) cc_M_119 d_M_take_13 rfl rfl rfl sh_32 ⟨rfl, rfl, by decide, by decide⟩ (Nat.le_of_ble_eq_true rfl) ?_
    refine zr_iconst (v := (0 : Int32)) h d_M_take_16 rfl (by decide) ?_
    exact zr_iret h hE d_M_take_17 rfl hf
theorem c_M_take (l : Launch) (D : va_G) (cA : ClassId) (ad : Nat → Nat) (A : Nat → Prop) (G : zx_G) (r : Int32) (G1 : zx_G) (hf : f_M_take G = some (r, G1)) : zx_met l y_M_take M_M_take [.ref (ad 32)] D cA ad A G r G1 :=
  zx_toMet (by decide) rfl (Nat.le_of_ble_eq_true rfl) (fun κ h hE => by exact z_M_take_0 h hE G hf)

def f_M_property_48 (k5 : Int32 → Int32 → Int32 → Int32 → zx_G → Option (Int32 × zx_G)) (x1 x2 x3 x4 : Int32) (G : zx_G) : Option (Int32 × zx_G) :=
  zx_lt (x4 + (1 : Int32)) fun x4_1 =>
  k5 x1 x2 x3 x4_1 G
def f_M_property_5 : Nat → Int32 → Int32 → Int32 → Int32 → zx_G → Option (Int32 × zx_G)
  | 0, _, _, _, _, _ => none
  | n + 1, x1, x2, x3, x4, G =>
    zx_if ((G 32 2) ≤ x4)
      (some ((-1 : Int32), G))
      (zx_gd (zx_in x4 16) <|
      zx_if (¬ (G 37 (Int32.toNatClampNeg x4)) = x1)
        (f_M_property_48 (f_M_property_5 n) x1 x2 x3 x4 G)
        (zx_gd (zx_in x4 16) <|
        zx_if ((G 36 (Int32.toNatClampNeg x4)) = (97 : Int32))
          (f_M_property_48 (f_M_property_5 n) x1 x2 x3 x4 G)
          (zx_lt (x3 + (1 : Int32)) fun x3_6 =>
          zx_if (¬ x3_6 = x2)
            (f_M_property_48 (f_M_property_5 n) x1 x2 x3_6 x4 G)
            (some (x4, G)))))
def f_M_property (x1 x2 : Int32) (G : zx_G) : Option (Int32 × zx_G) :=
  zx_lt (0 : Int32) fun x3_1 =>
  zx_lt (0 : Int32) fun x4_2 =>
  f_M_property_5 2048 x1 x2 x3_1 x4_2 G
set_option maxRecDepth 100000 in
set_option maxHeartbeats 4000000 in
theorem z_M_property_48 {κ : zx_K} {ad : Nat → Nat} {r : Int32} {G1 : zx_G} (h : zx_C M_M_property κ ad) (hE : zx_E M_M_property κ ad r G1) {k5 : Int32 → Int32 → Int32 → Int32 → zx_G → Option (Int32 × zx_G)} (hk5 : ∀ (x1 x2 x3 x4 : Int32) (G : zx_G), k5 x1 x2 x3 x4 G = some (r, G1) → zx_Z κ ad 5 [(0, .ref (ad 32)), (1, .int x1), (2, .int x2), (3, .int x3), (4, .int x4)] [] G) (x1 x2 x3 x4 : Int32) (G : zx_G) (hf : f_M_property_48 k5 x1 x2 x3 x4 G = some (r, G1)) : zx_Z κ ad 48 [(0, .ref (ad 32)), (1, .int x1), (2, .int x2), (3, .int x3), (4, .int x4)] [] G := by
  unfold f_M_property_48 at hf
  obtain ⟨x4_1, ex4_1, hf⟩ := zx_lt_some hf
  refine zr_iinc (j := 4) h d_M_property_48 rfl rfl (by decide) ex4_1 (by decide) rfl ?_
  refine zr_goto (tgt := 5) h d_M_property_51 rfl ?_
  refine zr_sub [1, 2, 3, 4, 0] rfl ?_
  exact hk5 x1 x2 x3 x4_1 G hf
set_option maxRecDepth 100000 in
set_option maxHeartbeats 4000000 in
theorem z_M_property_5 {κ : zx_K} {ad : Nat → Nat} {r : Int32} {G1 : zx_G} (h : zx_C M_M_property κ ad) (hE : zx_E M_M_property κ ad r G1) : ∀ (n : Nat) (x1 x2 x3 x4 : Int32) (G : zx_G), f_M_property_5 n x1 x2 x3 x4 G = some (r, G1) → zx_Z κ ad 5 [(0, .ref (ad 32)), (1, .int x1), (2, .int x2), (3, .int x3), (4, .int x4)] [] G := by
  intro n
  induction n with
  | zero => intro x1 x2 x3 x4 G hf; cases hf
  | succ n ih =>
    intro x1 x2 x3 x4 G hf
    unfold f_M_property_5 at hf
    refine zr_iload h d_M_property_5 rfl 4 rfl ?_
    refine zr_aload_n h d_M_property_7 rfl rfl 0 rfl ?_
    refine zr_getI h d_M_property_8 rfl fl_M_112 sh_32 rfl ?_
    rcases zx_if_some hf with ⟨hc_1, hf⟩ | ⟨hc_1, hf⟩
    · refine zr_icmp_ge_t (tgt := 54) h d_M_property_11 rfl hc_1 ?_
      refine zr_iconst (v := (-1 : Int32)) h d_M_property_54 rfl (by decide) ?_
      exact zr_iret h hE d_M_property_55 rfl hf
    · refine zr_icmp_ge_f h 54 d_M_property_11 rfl rfl hc_1 ?_
      refine zr_aload_n h d_M_property_14 rfl rfl 0 rfl ?_
      refine zr_getR h d_M_property_15 rfl fl_M_22 sh_32 rfl ?_
      refine zr_iload h d_M_property_18 rfl 4 rfl ?_
      obtain ⟨hb_2, hf⟩ := zx_gd_some hf
      refine zr_iald h d_M_property_20 rfl sh_37 hb_2 ?_
      refine zr_iload_n h d_M_property_21 rfl rfl 1 rfl ?_
      rcases zx_if_some hf with ⟨hc_3, hf⟩ | ⟨hc_3, hf⟩
      · refine zr_icmp_ne_t (tgt := 48) h d_M_property_22 rfl hc_3 ?_
        exact z_M_property_48 h hE ih x1 x2 x3 x4 G hf
      · refine zr_icmp_ne_f h 48 d_M_property_22 rfl rfl hc_3 ?_
        refine zr_aload_n h d_M_property_25 rfl rfl 0 rfl ?_
        refine zr_getR h d_M_property_26 rfl fl_M_19 sh_32 rfl ?_
        refine zr_iload h d_M_property_29 rfl 4 rfl ?_
        obtain ⟨hb_4, hf⟩ := zx_gd_some hf
        refine zr_iald h d_M_property_31 rfl sh_36 hb_4 ?_
        refine zr_bipush (v := (97 : Int32)) h d_M_property_32 rfl (by decide) ?_
        rcases zx_if_some hf with ⟨hc_5, hf⟩ | ⟨hc_5, hf⟩
        · refine zr_icmp_eq_t (tgt := 48) h d_M_property_34 rfl hc_5 ?_
          exact z_M_property_48 h hE ih x1 x2 x3 x4 G hf
        · refine zr_icmp_eq_f h 48 d_M_property_34 rfl rfl hc_5 ?_
          obtain ⟨x3_6, ex3_6, hf⟩ := zx_lt_some hf
          refine zr_iinc (j := 3) h d_M_property_37 rfl rfl (by decide) ex3_6 (by decide) rfl ?_
          refine zr_iload_n h d_M_property_40 rfl rfl 0 rfl ?_
          refine zr_iload_n h d_M_property_41 rfl rfl 3 rfl ?_
          rcases zx_if_some hf with ⟨hc_7, hf⟩ | ⟨hc_7, hf⟩
          · refine zr_icmp_ne_t (tgt := 48) h d_M_property_42 rfl hc_7 ?_
            refine zr_sub [1, 2, 3, 0, 4] rfl ?_
            exact z_M_property_48 h hE ih x1 x2 x3_6 x4 G hf
          · refine zr_icmp_ne_f h 48 d_M_property_42 rfl rfl hc_7 ?_
            refine zr_iload h d_M_property_45 rfl 4 rfl ?_
            exact zr_iret h hE d_M_property_47 rfl hf
set_option maxRecDepth 100000 in
set_option maxHeartbeats 4000000 in
theorem z_M_property_0 {κ : zx_K} {ad : Nat → Nat} {r : Int32} {G1 : zx_G} (h : zx_C M_M_property κ ad) (hE : zx_E M_M_property κ ad r G1) (x1 x2 : Int32) (G : zx_G) (hf : f_M_property x1 x2 G = some (r, G1)) : zx_Z κ ad 0 [(0, .ref (ad 32)), (1, .int x1), (2, .int x2)] [] G := by
  unfold f_M_property at hf
  refine zr_iconst (v := (0 : Int32)) h d_M_property_0 rfl (by decide) ?_
  obtain ⟨x3_1, ex3_1, hf⟩ := zx_lt_some hf
  refine zr_istore_n h d_M_property_1 rfl rfl (by decide) ex3_1 rfl ?_
  refine zr_iconst (v := (0 : Int32)) h d_M_property_2 rfl (by decide) ?_
  obtain ⟨x4_2, ex4_2, hf⟩ := zx_lt_some hf
  refine zr_istore h d_M_property_3 rfl (by decide) ex4_2 rfl ?_
  refine zr_sub [2, 3, 4, 1, 0] rfl ?_
  exact z_M_property_5 h hE 2048 x1 x2 x3_1 x4_2 G hf
theorem c_M_property (l : Launch) (D : va_G) (cA : ClassId) (ad : Nat → Nat) (A : Nat → Prop) (x1 x2 : Int32) (G : zx_G) (r : Int32) (G1 : zx_G) (hf : f_M_property x1 x2 G = some (r, G1)) : zx_met l y_M_property M_M_property [.ref (ad 32), .int x1, .int x2] D cA ad A G r G1 :=
  zx_toMet (by decide) rfl (Nat.le_of_ble_eq_true rfl) (fun κ h hE => by exact z_M_property_0 h hE x1 x2 G hf)

def f_M_properties_144 (k35 : Int32 → Int32 → zx_G → Option (Int32 × zx_G)) (k77 : Int32 → Int32 → Int32 → Int32 → Int32 → zx_G → Option (Int32 × zx_G)) (x1 x3 x4 x5 x6 : Int32) (G : zx_G) : Option (Int32 × zx_G) :=
  zx_lt (x6 + (1 : Int32)) fun x6_1 =>
  k77 x1 x3 x4 x5 x6_1 G
def f_M_properties_141 (k35 : Int32 → Int32 → zx_G → Option (Int32 × zx_G)) (k77 : Int32 → Int32 → Int32 → Int32 → Int32 → zx_G → Option (Int32 × zx_G)) (x1 x3 x4 x5 x6 s1 s2 : Int32) (G : zx_G) : Option (Int32 × zx_G) :=
  zx_bd (f_M_associate s1 s2 G) fun r_2 G_1 =>
  f_M_properties_144 k35 k77 x1 x3 x4 x5 x6 G_1
def f_M_properties_150 (k35 : Int32 → Int32 → zx_G → Option (Int32 × zx_G)) (x1 x3 : Int32) (G : zx_G) : Option (Int32 × zx_G) :=
  k35 x1 x3 G
def f_M_properties_77 (k35 : Int32 → Int32 → zx_G → Option (Int32 × zx_G)) : Nat → Int32 → Int32 → Int32 → Int32 → Int32 → zx_G → Option (Int32 × zx_G)
  | 0, _, _, _, _, _, _ => none
  | n + 1, x1, x3, x4, x5, x6, G =>
    zx_if (x5 ≤ x6)
      (f_M_properties_150 k35 x1 x3 G)
      (zx_if (¬ (G 32 10) = 0)
        (f_M_properties_150 k35 x1 x3 G)
        (zx_bd (f_M_take G) fun r_4 G_3 =>
        zx_lt r_4 fun x7_6 =>
        zx_if (x4 = 0)
          (f_M_properties_144 k35 (f_M_properties_77 k35 n) x1 x3 x4 x5 x6 G_3)
          (zx_if (¬ (G_3 32 10) = 0)
            (f_M_properties_144 k35 (f_M_properties_77 k35 n) x1 x3 x4 x5 x6 G_3)
            (zx_if ((x7_6 &&& (127 : Int32)) = 0)
              (f_M_properties_144 k35 (f_M_properties_77 k35 n) x1 x3 x4 x5 x6 G_3)
              (zx_bd (f_M_property x1 (x7_6 &&& (127 : Int32)) G_3) fun r_11 G_10 =>
              zx_if (x7_6 < (128 : Int32))
                (f_M_properties_141 k35 (f_M_properties_77 k35 n) x1 x3 x4 x5 x6 r_11 (0 : Int32) G_10)
                (f_M_properties_141 k35 (f_M_properties_77 k35 n) x1 x3 x4 x5 x6 r_11 (1 : Int32) G_10))))))
def f_M_properties_66 (k35 : Int32 → Int32 → zx_G → Option (Int32 × zx_G)) (x1 x3 s0 : Int32) (G : zx_G) : Option (Int32 × zx_G) :=
  zx_lt s0 fun x4_1 =>
  zx_bd (f_M_take G) fun r_3 G_2 =>
  zx_lt r_3 fun x5_5 =>
  zx_lt (0 : Int32) fun x6_6 =>
  f_M_properties_77 k35 2048 x1 x3 x4_1 x5_5 x6_6 G_2
def f_M_properties_324 (G : zx_G) : Option (Int32 × zx_G) :=
  some ((0 : Int32), G)
def f_M_properties_314 (x4 : Int32) (G : zx_G) : Option (Int32 × zx_G) :=
  zx_if (¬ x4 = 0)
    (f_M_properties_324 G)
    (zx_bd (f_M_fail (3 : Int32) G) fun r_3 G_2 =>
    f_M_properties_324 G_2)
def f_M_properties_312 (s0 : Int32) (G : zx_G) : Option (Int32 × zx_G) :=
  zx_lt s0 fun x4_1 =>
  f_M_properties_314 x4_1 G
def f_M_properties_281 (s0 : Int32) (G : zx_G) : Option (Int32 × zx_G) :=
  zx_lt s0 fun x5_1 =>
  zx_gd (zx_in (G 32 15) 16) <|
  zx_gd (zx_in (G 32 15) 16) <|
  zx_if (((G 35 (Int32.toNatClampNeg (G 32 15))) - (G 34 (Int32.toNatClampNeg (G 32 15)))) ≤ x5_1)
    (f_M_properties_312 (0 : Int32) G)
    (f_M_properties_312 (1 : Int32) G)
def f_M_properties_226 (s0 : Int32) (G : zx_G) : Option (Int32 × zx_G) :=
  zx_lt s0 fun x4_1 =>
  zx_if (x4_1 = 0)
    (f_M_properties_314 x4_1 G)
    (zx_if ((G 32 15) < 0)
      (f_M_properties_314 x4_1 G)
      (zx_gd (zx_in (G 32 15) 16) <|
      zx_gd (zx_in (G 32 15) 16) <|
      zx_if ((G 35 (Int32.toNatClampNeg (G 32 15))) ≤ (G 34 (Int32.toNatClampNeg (G 32 15))))
        (f_M_properties_281 (999 : Int32) G)
        (zx_gd (zx_in (G 32 15) 16) <|
        zx_gd (zx_in (G 34 (Int32.toNatClampNeg (G 32 15))) 240) <|
        f_M_properties_281 (G 33 (Int32.toNatClampNeg (G 34 (Int32.toNatClampNeg (G 32 15))))) G)))
def f_M_properties_225 (G : zx_G) : Option (Int32 × zx_G) :=
  f_M_properties_226 (0 : Int32) G
def f_M_properties_153 (G : zx_G) : Option (Int32 × zx_G) :=
  zx_if ((G 32 10) = 0)
    (zx_if ((G 32 13) < 0)
      (f_M_properties_225 G)
      (zx_if ((G 32 14) < 0)
        (f_M_properties_225 G)
        (zx_gd (zx_in (G 32 13) 16) <|
        zx_gd (zx_in (G 32 13) 16) <|
        zx_if (((G 35 (Int32.toNatClampNeg (G 32 13))) - (G 34 (Int32.toNatClampNeg (G 32 13)))) < (2 : Int32))
          (f_M_properties_225 G)
          (zx_gd (zx_in (G 32 14) 16) <|
          zx_gd (zx_in (G 32 14) 16) <|
          zx_if (((G 35 (Int32.toNatClampNeg (G 32 14))) - (G 34 (Int32.toNatClampNeg (G 32 14)))) < (1 : Int32))
            (f_M_properties_225 G)
            (f_M_properties_226 (1 : Int32) G)))))
    (some ((0 : Int32), G))
def f_M_properties_35 : Nat → Int32 → Int32 → zx_G → Option (Int32 × zx_G)
  | 0, _, _, _ => none
  | n + 1, x1, x3, G =>
    zx_if ((G 32 12) ≤ (G 32 11))
      (f_M_properties_153 G)
      (zx_if (¬ (G 32 10) = 0)
        (f_M_properties_153 G)
        (zx_bd (f_M_take G) fun r_4 G_3 =>
        zx_if (¬ r_4 = x3)
          (f_M_properties_66 (f_M_properties_35 n) x1 x3 (0 : Int32) G_3)
          (f_M_properties_66 (f_M_properties_35 n) x1 x3 (1 : Int32) G_3)))
def f_M_properties (x1 x2 x3 : Int32) (G : zx_G) : Option (Int32 × zx_G) :=
  zx_lt (zx_up G 32 13 (-1 : Int32)) fun G_1 =>
  zx_lt (zx_up G_1 32 14 (-1 : Int32)) fun G_2 =>
  zx_lt (zx_up G_2 32 15 (-1 : Int32)) fun G_3 =>
  zx_gd (zx_in x2 16) <|
  zx_lt (zx_up G_3 32 11 (G_3 34 (Int32.toNatClampNeg x2))) fun G_5 =>
  zx_gd (zx_in x2 16) <|
  zx_lt (zx_up G_5 32 12 (G_5 35 (Int32.toNatClampNeg x2))) fun G_7 =>
  f_M_properties_35 2048 x1 x3 G_7
set_option maxRecDepth 100000 in
set_option maxHeartbeats 4000000 in
theorem z_M_properties_144 {κ : zx_K} {ad : Nat → Nat} {r : Int32} {G1 : zx_G} (h : zx_C M_M_properties κ ad) (hE : zx_E M_M_properties κ ad r G1) {k35 : Int32 → Int32 → zx_G → Option (Int32 × zx_G)} {k77 : Int32 → Int32 → Int32 → Int32 → Int32 → zx_G → Option (Int32 × zx_G)} (hk35 : ∀ (x1 x3 : Int32) (G : zx_G), k35 x1 x3 G = some (r, G1) → zx_Z κ ad 35 [(0, .ref (ad 32)), (1, .int x1), (3, .int x3)] [] G) (hk77 : ∀ (x1 x3 x4 x5 x6 : Int32) (G : zx_G), k77 x1 x3 x4 x5 x6 G = some (r, G1) → zx_Z κ ad 77 [(0, .ref (ad 32)), (1, .int x1), (3, .int x3), (4, .int x4), (5, .int x5), (6, .int x6)] [] G) (x1 x3 x4 x5 x6 : Int32) (G : zx_G) (hf : f_M_properties_144 k35 k77 x1 x3 x4 x5 x6 G = some (r, G1)) : zx_Z κ ad 144 [(0, .ref (ad 32)), (1, .int x1), (3, .int x3), (4, .int x4), (5, .int x5), (6, .int x6)] [] G := by
  unfold f_M_properties_144 at hf
  obtain ⟨x6_1, ex6_1, hf⟩ := zx_lt_some hf
  refine zr_iinc (j := 5) h d_M_properties_144 rfl rfl (by decide) ex6_1 (by decide) rfl ?_
  refine zr_goto (tgt := 77) h d_M_properties_147 rfl ?_
  refine zr_sub [1, 2, 3, 4, 5, 0] rfl ?_
  exact hk77 x1 x3 x4 x5 x6_1 G hf
set_option maxRecDepth 100000 in
set_option maxHeartbeats 4000000 in
theorem z_M_properties_141 {κ : zx_K} {ad : Nat → Nat} {r : Int32} {G1 : zx_G} (h : zx_C M_M_properties κ ad) (hE : zx_E M_M_properties κ ad r G1) {k35 : Int32 → Int32 → zx_G → Option (Int32 × zx_G)} {k77 : Int32 → Int32 → Int32 → Int32 → Int32 → zx_G → Option (Int32 × zx_G)} (hk35 : ∀ (x1 x3 : Int32) (G : zx_G), k35 x1 x3 G = some (r, G1) → zx_Z κ ad 35 [(0, .ref (ad 32)), (1, .int x1), (3, .int x3)] [] G) (hk77 : ∀ (x1 x3 x4 x5 x6 : Int32) (G : zx_G), k77 x1 x3 x4 x5 x6 G = some (r, G1) → zx_Z κ ad 77 [(0, .ref (ad 32)), (1, .int x1), (3, .int x3), (4, .int x4), (5, .int x5), (6, .int x6)] [] G) (x1 x3 x4 x5 x6 s1 s2 : Int32) (G : zx_G) (hf : f_M_properties_141 k35 k77 x1 x3 x4 x5 x6 s1 s2 G = some (r, G1)) : zx_Z κ ad 141 [(0, .ref (ad 32)), (1, .int x1), (3, .int x3), (4, .int x4), (5, .int x5), (6, .int x6)] [.int s2, .int s1, .ref (ad 32)] G := by
  unfold f_M_properties_141 at hf
  obtain ⟨r_2, G_1, hq_3, hf⟩ := zx_bd_some hf
  refine zr_callVV (As := [.int s1, .int s2]) (b := 32) h (c_M_associate _ _ _ _ _ s1 s2 G r_2 G_1 hq_3) cc_M_151 d_M_properties_141 rfl rfl rfl sh_32 ⟨rfl, rfl, by decide, by decide⟩ (Nat.le_of_ble_eq_true rfl) ?_
  exact z_M_properties_144 h hE hk35 hk77 x1 x3 x4 x5 x6 G_1 hf
set_option maxRecDepth 100000 in
set_option maxHeartbeats 4000000 in
theorem z_M_properties_150 {κ : zx_K} {ad : Nat → Nat} {r : Int32} {G1 : zx_G} (h : zx_C M_M_properties κ ad) (hE : zx_E M_M_properties κ ad r G1) {k35 : Int32 → Int32 → zx_G → Option (Int32 × zx_G)} (hk35 : ∀ (x1 x3 : Int32) (G : zx_G), k35 x1 x3 G = some (r, G1) → zx_Z κ ad 35 [(0, .ref (ad 32)), (1, .int x1), (3, .int x3)] [] G) (x1 x3 : Int32) (G : zx_G) (hf : f_M_properties_150 k35 x1 x3 G = some (r, G1)) : zx_Z κ ad 150 [(0, .ref (ad 32)), (1, .int x1), (3, .int x3)] [] G := by
  unfold f_M_properties_150 at hf
  refine zr_goto (tgt := 35) h d_M_properties_150 rfl ?_
  exact hk35 x1 x3 G hf
set_option maxRecDepth 100000 in
set_option maxHeartbeats 4000000 in
theorem z_M_properties_77 {κ : zx_K} {ad : Nat → Nat} {r : Int32} {G1 : zx_G} (h : zx_C M_M_properties κ ad) (hE : zx_E M_M_properties κ ad r G1) {k35 : Int32 → Int32 → zx_G → Option (Int32 × zx_G)} (hk35 : ∀ (x1 x3 : Int32) (G : zx_G), k35 x1 x3 G = some (r, G1) → zx_Z κ ad 35 [(0, .ref (ad 32)), (1, .int x1), (3, .int x3)] [] G) : ∀ (n : Nat) (x1 x3 x4 x5 x6 : Int32) (G : zx_G), f_M_properties_77 k35 n x1 x3 x4 x5 x6 G = some (r, G1) → zx_Z κ ad 77 [(0, .ref (ad 32)), (1, .int x1), (3, .int x3), (4, .int x4), (5, .int x5), (6, .int x6)] [] G := by
  intro n
  induction n with
  | zero => intro x1 x3 x4 x5 x6 G hf; cases hf
  | succ n ih =>
    intro x1 x3 x4 x5 x6 G hf
    unfold f_M_properties_77 at hf
    refine zr_iload h d_M_properties_77 rfl 5 rfl ?_
    refine zr_iload h d_M_properties_79 rfl 4 rfl ?_
    rcases zx_if_some hf with ⟨hc_1, hf⟩ | ⟨hc_1, hf⟩
    · refine zr_icmp_ge_t (tgt := 150) h d_M_properties_81 rfl hc_1 ?_
      refine zr_sub [0, 1, 2] rfl ?_
      exact z_M_properties_150 h hE hk35 x1 x3 G hf
    · refine zr_icmp_ge_f h 150 d_M_properties_81 rfl rfl hc_1 ?_
      refine zr_aload_n h d_M_properties_84 rfl rfl 0 rfl ?_
      refine zr_getI h d_M_properties_85 rfl fl_M_78 sh_32 rfl ?_
      rcases zx_if_some hf with ⟨hc_2, hf⟩ | ⟨hc_2, hf⟩
      · refine zr_if_ne_t (tgt := 150) h d_M_properties_88 rfl hc_2 ?_
        refine zr_sub [0, 1, 2] rfl ?_
        exact z_M_properties_150 h hE hk35 x1 x3 G hf
      · refine zr_if_ne_f h 150 d_M_properties_88 rfl rfl hc_2 ?_
        refine zr_aload_n h d_M_properties_91 rfl rfl 0 rfl ?_
        obtain ⟨r_4, G_3, hq_5, hf⟩ := zx_bd_some hf
        refine zr_callVI (As := []) (b := 32) h (c_M_take _ _ _ _ _ G r_4 G_3 hq_5) cc_M_132 d_M_properties_92 rfl rfl rfl sh_32 ⟨rfl, rfl, by decide, by decide⟩ (Nat.le_of_ble_eq_true rfl) ?_
        obtain ⟨x7_6, ex7_6, hf⟩ := zx_lt_some hf
        refine zr_istore h d_M_properties_95 rfl (by decide) ex7_6 rfl ?_
        refine zr_iload h d_M_properties_97 rfl 4 rfl ?_
        rcases zx_if_some hf with ⟨hc_7, hf⟩ | ⟨hc_7, hf⟩
        · refine zr_if_eq_t (tgt := 144) h d_M_properties_99 rfl hc_7 ?_
          refine zr_sub [1, 2, 3, 4, 5, 6] rfl ?_
          exact z_M_properties_144 h hE hk35 ih x1 x3 x4 x5 x6 G_3 hf
        · refine zr_if_eq_f h 144 d_M_properties_99 rfl rfl hc_7 ?_
          refine zr_aload_n h d_M_properties_102 rfl rfl 1 rfl ?_
          refine zr_getI h d_M_properties_103 rfl fl_M_78 sh_32 rfl ?_
          rcases zx_if_some hf with ⟨hc_8, hf⟩ | ⟨hc_8, hf⟩
          · refine zr_if_ne_t (tgt := 144) h d_M_properties_106 rfl hc_8 ?_
            refine zr_sub [1, 2, 3, 4, 5, 6] rfl ?_
            exact z_M_properties_144 h hE hk35 ih x1 x3 x4 x5 x6 G_3 hf
          · refine zr_if_ne_f h 144 d_M_properties_106 rfl rfl hc_8 ?_
            refine zr_iload h d_M_properties_109 rfl 0 rfl ?_
            refine zr_bipush (v := (127 : Int32)) h d_M_properties_111 rfl (by decide) ?_
            refine zr_iand h d_M_properties_113 rfl ?_
            rcases zx_if_some hf with ⟨hc_9, hf⟩ | ⟨hc_9, hf⟩
            · refine zr_if_eq_t (tgt := 144) h d_M_properties_114 rfl hc_9 ?_
              refine zr_sub [1, 2, 3, 4, 5, 6] rfl ?_
              exact z_M_properties_144 h hE hk35 ih x1 x3 x4 x5 x6 G_3 hf
            · refine zr_if_eq_f h 144 d_M_properties_114 rfl rfl hc_9 ?_
              refine zr_aload_n h d_M_properties_117 rfl rfl 1 rfl ?_
              refine zr_aload_n h d_M_properties_118 rfl rfl 1 rfl ?_
              refine zr_iload_n h d_M_properties_119 rfl rfl 2 rfl ?_
              refine zr_iload h d_M_properties_120 rfl 0 rfl ?_
              refine zr_bipush (v := (127 : Int32)) h d_M_properties_122 rfl (by decide) ?_
              refine zr_iand h d_M_properties_124 rfl ?_
              obtain ⟨r_11, G_10, hq_12, hf⟩ := zx_bd_some hf
              refine zr_callVI (As := [.int x1, .int (x7_6 &&& (127 : Int32))]) (b := 32) h (c_M_property _ _ _ _ _ x1 (x7_6 &&& (127 : Int32)) G_3 r_11 G_10 hq_12) cc_M_148 d_M_properties_125 rfl rfl rfl sh_32 ⟨rfl, rfl, by decide, by decide⟩ (Nat.le_of_ble_eq_true rfl) ?_
              refine zr_iload h d_M_properties_128 rfl 0 rfl ?_
              refine zr_sipush (v := (128 : Int32)) h d_M_properties_130 rfl (by decide) ?_
              rcases zx_if_some hf with ⟨hc_13, hf⟩ | ⟨hc_13, hf⟩
              · refine zr_icmp_lt_t (tgt := 140) h d_M_properties_133 rfl hc_13 ?_
                refine zr_iconst (v := (0 : Int32)) h d_M_properties_140 rfl (by decide) ?_
                refine zr_sub [1, 2, 3, 4, 5, 6] rfl ?_
                exact z_M_properties_141 h hE hk35 ih x1 x3 x4 x5 x6 r_11 (0 : Int32) G_10 hf
              · refine zr_icmp_lt_f h 140 d_M_properties_133 rfl rfl hc_13 ?_
                refine zr_iconst (v := (1 : Int32)) h d_M_properties_136 rfl (by decide) ?_
                refine zr_goto (tgt := 141) h d_M_properties_137 rfl ?_
                refine zr_sub [1, 2, 3, 4, 5, 6] rfl ?_
                exact z_M_properties_141 h hE hk35 ih x1 x3 x4 x5 x6 r_11 (1 : Int32) G_10 hf
set_option maxRecDepth 100000 in
set_option maxHeartbeats 4000000 in
theorem z_M_properties_66 {κ : zx_K} {ad : Nat → Nat} {r : Int32} {G1 : zx_G} (h : zx_C M_M_properties κ ad) (hE : zx_E M_M_properties κ ad r G1) {k35 : Int32 → Int32 → zx_G → Option (Int32 × zx_G)} (hk35 : ∀ (x1 x3 : Int32) (G : zx_G), k35 x1 x3 G = some (r, G1) → zx_Z κ ad 35 [(0, .ref (ad 32)), (1, .int x1), (3, .int x3)] [] G) (x1 x3 s0 : Int32) (G : zx_G) (hf : f_M_properties_66 k35 x1 x3 s0 G = some (r, G1)) : zx_Z κ ad 66 [(0, .ref (ad 32)), (1, .int x1), (3, .int x3)] [.int s0] G := by
  unfold f_M_properties_66 at hf
  obtain ⟨x4_1, ex4_1, hf⟩ := zx_lt_some hf
  refine zr_istore h d_M_properties_66 rfl (by decide) ex4_1 rfl ?_
  refine zr_aload_n h d_M_properties_68 rfl rfl 1 rfl ?_
  obtain ⟨r_3, G_2, hq_4, hf⟩ := zx_bd_some hf
  refine zr_callVI (As := []) (b := 32) h (c_M_take _ _ _ _ _ G r_3 G_2 hq_4) cc_M_132 d_M_properties_69 rfl rfl rfl sh_32 ⟨rfl, rfl, by decide, by decide⟩ (Nat.le_of_ble_eq_true rfl) ?_
  obtain ⟨x5_5, ex5_5, hf⟩ := zx_lt_some hf
  refine zr_istore h d_M_properties_72 rfl (by decide) ex5_5 rfl ?_
  refine zr_iconst (v := (0 : Int32)) h d_M_properties_74 rfl (by decide) ?_
  obtain ⟨x6_6, ex6_6, hf⟩ := zx_lt_some hf
  refine zr_istore h d_M_properties_75 rfl (by decide) ex6_6 rfl ?_
  refine zr_sub [3, 4, 5, 2, 1, 0] rfl ?_
  exact z_M_properties_77 h hE hk35 2048 x1 x3 x4_1 x5_5 x6_6 G_2 hf
set_option maxRecDepth 100000 in
set_option maxHeartbeats 4000000 in
theorem z_M_properties_324 {κ : zx_K} {ad : Nat → Nat} {r : Int32} {G1 : zx_G} (h : zx_C M_M_properties κ ad) (hE : zx_E M_M_properties κ ad r G1) (G : zx_G) (hf : f_M_properties_324 G = some (r, G1)) : zx_Z κ ad 324 [] [] G := by
  unfold f_M_properties_324 at hf
  exact zr_vret h hE d_M_properties_324 rfl hf
set_option maxRecDepth 100000 in
set_option maxHeartbeats 4000000 in
theorem z_M_properties_314 {κ : zx_K} {ad : Nat → Nat} {r : Int32} {G1 : zx_G} (h : zx_C M_M_properties κ ad) (hE : zx_E M_M_properties κ ad r G1) (x4 : Int32) (G : zx_G) (hf : f_M_properties_314 x4 G = some (r, G1)) : zx_Z κ ad 314 [(0, .ref (ad 32)), (4, .int x4)] [] G := by
  unfold f_M_properties_314 at hf
  refine zr_iload h d_M_properties_314 rfl 1 rfl ?_
  rcases zx_if_some hf with ⟨hc_1, hf⟩ | ⟨hc_1, hf⟩
  · refine zr_if_ne_t (tgt := 324) h d_M_properties_316 rfl hc_1 ?_
    refine zr_sub [] rfl ?_
    exact z_M_properties_324 h hE G hf
  · refine zr_if_ne_f h 324 d_M_properties_316 rfl rfl hc_1 ?_
    refine zr_aload_n h d_M_properties_319 rfl rfl 0 rfl ?_
    refine zr_iconst (v := (3 : Int32)) h d_M_properties_320 rfl (by decide) ?_
    obtain ⟨r_3, G_2, hq_4, hf⟩ := zx_bd_some hf
    refine zr_callVV (As := [.int (3 : Int32)]) (b := 32) h (c_M_fail _ _ _ _ _ (3 : Int32) G r_3 G_2 hq_4) cc_M_119 d_M_properties_321 rfl rfl rfl sh_32 ⟨rfl, rfl, by decide, by decide⟩ (Nat.le_of_ble_eq_true rfl) ?_
    refine zr_sub [] rfl ?_
    exact z_M_properties_324 h hE G_2 hf
set_option maxRecDepth 100000 in
set_option maxHeartbeats 4000000 in
theorem z_M_properties_312 {κ : zx_K} {ad : Nat → Nat} {r : Int32} {G1 : zx_G} (h : zx_C M_M_properties κ ad) (hE : zx_E M_M_properties κ ad r G1) (s0 : Int32) (G : zx_G) (hf : f_M_properties_312 s0 G = some (r, G1)) : zx_Z κ ad 312 [(0, .ref (ad 32))] [.int s0] G := by
  unfold f_M_properties_312 at hf
  obtain ⟨x4_1, ex4_1, hf⟩ := zx_lt_some hf
  refine zr_istore h d_M_properties_312 rfl (by decide) ex4_1 rfl ?_
  refine zr_sub [1, 0] rfl ?_
  exact z_M_properties_314 h hE x4_1 G hf
set_option maxRecDepth 100000 in
set_option maxHeartbeats 4000000 in
theorem z_M_properties_281 {κ : zx_K} {ad : Nat → Nat} {r : Int32} {G1 : zx_G} (h : zx_C M_M_properties κ ad) (hE : zx_E M_M_properties κ ad r G1) (s0 : Int32) (G : zx_G) (hf : f_M_properties_281 s0 G = some (r, G1)) : zx_Z κ ad 281 [(0, .ref (ad 32))] [.int s0] G := by
  unfold f_M_properties_281 at hf
  obtain ⟨x5_1, ex5_1, hf⟩ := zx_lt_some hf
  refine zr_istore h d_M_properties_281 rfl (by decide) ex5_1 rfl ?_
  refine zr_aload_n h d_M_properties_283 rfl rfl 1 rfl ?_
  refine zr_getR h d_M_properties_284 rfl fl_M_16 sh_32 rfl ?_
  refine zr_aload_n h d_M_properties_287 rfl rfl 1 rfl ?_
  refine zr_getI h d_M_properties_288 rfl fl_M_145 sh_32 rfl ?_
  obtain ⟨hb_2, hf⟩ := zx_gd_some hf
  refine zr_iald h d_M_properties_291 rfl sh_35 hb_2 ?_
  refine zr_aload_n h d_M_properties_292 rfl rfl 1 rfl ?_
  refine zr_getR h d_M_properties_293 rfl fl_M_13 sh_32 rfl ?_
  refine zr_aload_n h d_M_properties_296 rfl rfl 1 rfl ?_
  refine zr_getI h d_M_properties_297 rfl fl_M_145 sh_32 rfl ?_
  obtain ⟨hb_3, hf⟩ := zx_gd_some hf
  refine zr_iald h d_M_properties_300 rfl sh_34 hb_3 ?_
  refine zr_isub h d_M_properties_301 rfl ?_
  refine zr_iload h d_M_properties_302 rfl 0 rfl ?_
  rcases zx_if_some hf with ⟨hc_4, hf⟩ | ⟨hc_4, hf⟩
  · refine zr_icmp_le_t (tgt := 311) h d_M_properties_304 rfl hc_4 ?_
    refine zr_iconst (v := (0 : Int32)) h d_M_properties_311 rfl (by decide) ?_
    refine zr_sub [1] rfl ?_
    exact z_M_properties_312 h hE (0 : Int32) G hf
  · refine zr_icmp_le_f h 311 d_M_properties_304 rfl rfl hc_4 ?_
    refine zr_iconst (v := (1 : Int32)) h d_M_properties_307 rfl (by decide) ?_
    refine zr_goto (tgt := 312) h d_M_properties_308 rfl ?_
    refine zr_sub [1] rfl ?_
    exact z_M_properties_312 h hE (1 : Int32) G hf
set_option maxRecDepth 100000 in
set_option maxHeartbeats 4000000 in
theorem z_M_properties_226 {κ : zx_K} {ad : Nat → Nat} {r : Int32} {G1 : zx_G} (h : zx_C M_M_properties κ ad) (hE : zx_E M_M_properties κ ad r G1) (s0 : Int32) (G : zx_G) (hf : f_M_properties_226 s0 G = some (r, G1)) : zx_Z κ ad 226 [(0, .ref (ad 32))] [.int s0] G := by
  unfold f_M_properties_226 at hf
  obtain ⟨x4_1, ex4_1, hf⟩ := zx_lt_some hf
  refine zr_istore h d_M_properties_226 rfl (by decide) ex4_1 rfl ?_
  refine zr_iload h d_M_properties_228 rfl 0 rfl ?_
  rcases zx_if_some hf with ⟨hc_2, hf⟩ | ⟨hc_2, hf⟩
  · refine zr_if_eq_t (tgt := 314) h d_M_properties_230 rfl hc_2 ?_
    refine zr_sub [1, 0] rfl ?_
    exact z_M_properties_314 h hE x4_1 G hf
  · refine zr_if_eq_f h 314 d_M_properties_230 rfl rfl hc_2 ?_
    refine zr_aload_n h d_M_properties_233 rfl rfl 1 rfl ?_
    refine zr_getI h d_M_properties_234 rfl fl_M_145 sh_32 rfl ?_
    rcases zx_if_some hf with ⟨hc_3, hf⟩ | ⟨hc_3, hf⟩
    · refine zr_if_lt_t (tgt := 314) h d_M_properties_237 rfl hc_3 ?_
      refine zr_sub [1, 0] rfl ?_
      exact z_M_properties_314 h hE x4_1 G hf
    · refine zr_if_lt_f h 314 d_M_properties_237 rfl rfl hc_3 ?_
      refine zr_aload_n h d_M_properties_240 rfl rfl 1 rfl ?_
      refine zr_getR h d_M_properties_241 rfl fl_M_13 sh_32 rfl ?_
      refine zr_aload_n h d_M_properties_244 rfl rfl 1 rfl ?_
      refine zr_getI h d_M_properties_245 rfl fl_M_145 sh_32 rfl ?_
      obtain ⟨hb_4, hf⟩ := zx_gd_some hf
      refine zr_iald h d_M_properties_248 rfl sh_34 hb_4 ?_
      refine zr_aload_n h d_M_properties_249 rfl rfl 1 rfl ?_
      refine zr_getR h d_M_properties_250 rfl fl_M_16 sh_32 rfl ?_
      refine zr_aload_n h d_M_properties_253 rfl rfl 1 rfl ?_
      refine zr_getI h d_M_properties_254 rfl fl_M_145 sh_32 rfl ?_
      obtain ⟨hb_5, hf⟩ := zx_gd_some hf
      refine zr_iald h d_M_properties_257 rfl sh_35 hb_5 ?_
      rcases zx_if_some hf with ⟨hc_6, hf⟩ | ⟨hc_6, hf⟩
      · refine zr_icmp_ge_t (tgt := 278) h d_M_properties_258 rfl hc_6 ?_
        refine zr_sipush (v := (999 : Int32)) h d_M_properties_278 rfl (by decide) ?_
        refine zr_sub [1] rfl ?_
        exact z_M_properties_281 h hE (999 : Int32) G hf
      · refine zr_icmp_ge_f h 278 d_M_properties_258 rfl rfl hc_6 ?_
        refine zr_aload_n h d_M_properties_261 rfl rfl 1 rfl ?_
        refine zr_getR h d_M_properties_262 rfl fl_M_7 sh_32 rfl ?_
        refine zr_aload_n h d_M_properties_265 rfl rfl 1 rfl ?_
        refine zr_getR h d_M_properties_266 rfl fl_M_13 sh_32 rfl ?_
        refine zr_aload_n h d_M_properties_269 rfl rfl 1 rfl ?_
        refine zr_getI h d_M_properties_270 rfl fl_M_145 sh_32 rfl ?_
        obtain ⟨hb_7, hf⟩ := zx_gd_some hf
        refine zr_iald h d_M_properties_273 rfl sh_34 hb_7 ?_
        obtain ⟨hb_8, hf⟩ := zx_gd_some hf
        refine zr_iald h d_M_properties_274 rfl sh_33 hb_8 ?_
        refine zr_goto (tgt := 281) h d_M_properties_275 rfl ?_
        refine zr_sub [1] rfl ?_
        exact z_M_properties_281 h hE (G 33 (Int32.toNatClampNeg (G 34 (Int32.toNatClampNeg (G 32 15))))) G hf
set_option maxRecDepth 100000 in
set_option maxHeartbeats 4000000 in
theorem z_M_properties_225 {κ : zx_K} {ad : Nat → Nat} {r : Int32} {G1 : zx_G} (h : zx_C M_M_properties κ ad) (hE : zx_E M_M_properties κ ad r G1) (G : zx_G) (hf : f_M_properties_225 G = some (r, G1)) : zx_Z κ ad 225 [(0, .ref (ad 32))] [] G := by
  unfold f_M_properties_225 at hf
  refine zr_iconst (v := (0 : Int32)) h d_M_properties_225 rfl (by decide) ?_
  exact z_M_properties_226 h hE (0 : Int32) G hf
set_option maxRecDepth 100000 in
set_option maxHeartbeats 4000000 in
theorem z_M_properties_153 {κ : zx_K} {ad : Nat → Nat} {r : Int32} {G1 : zx_G} (h : zx_C M_M_properties κ ad) (hE : zx_E M_M_properties κ ad r G1) (G : zx_G) (hf : f_M_properties_153 G = some (r, G1)) : zx_Z κ ad 153 [(0, .ref (ad 32))] [] G := by
  unfold f_M_properties_153 at hf
  refine zr_aload_n h d_M_properties_153 rfl rfl 0 rfl ?_
  refine zr_getI h d_M_properties_154 rfl fl_M_78 sh_32 rfl ?_
  rcases zx_if_some hf with ⟨hc_1, hf⟩ | ⟨hc_1, hf⟩
  · refine zr_if_eq_t (tgt := 161) h d_M_properties_157 rfl hc_1 ?_
    refine zr_aload_n h d_M_properties_161 rfl rfl 0 rfl ?_
    refine zr_getI h d_M_properties_162 rfl fl_M_139 sh_32 rfl ?_
    rcases zx_if_some hf with ⟨hc_2, hf⟩ | ⟨hc_2, hf⟩
    · refine zr_if_lt_t (tgt := 225) h d_M_properties_165 rfl hc_2 ?_
      exact z_M_properties_225 h hE G hf
    · refine zr_if_lt_f h 225 d_M_properties_165 rfl rfl hc_2 ?_
      refine zr_aload_n h d_M_properties_168 rfl rfl 0 rfl ?_
      refine zr_getI h d_M_properties_169 rfl fl_M_142 sh_32 rfl ?_
      rcases zx_if_some hf with ⟨hc_3, hf⟩ | ⟨hc_3, hf⟩
      · refine zr_if_lt_t (tgt := 225) h d_M_properties_172 rfl hc_3 ?_
        exact z_M_properties_225 h hE G hf
      · refine zr_if_lt_f h 225 d_M_properties_172 rfl rfl hc_3 ?_
        refine zr_aload_n h d_M_properties_175 rfl rfl 0 rfl ?_
        refine zr_getR h d_M_properties_176 rfl fl_M_16 sh_32 rfl ?_
        refine zr_aload_n h d_M_properties_179 rfl rfl 0 rfl ?_
        refine zr_getI h d_M_properties_180 rfl fl_M_139 sh_32 rfl ?_
        obtain ⟨hb_4, hf⟩ := zx_gd_some hf
        refine zr_iald h d_M_properties_183 rfl sh_35 hb_4 ?_
        refine zr_aload_n h d_M_properties_184 rfl rfl 0 rfl ?_
        refine zr_getR h d_M_properties_185 rfl fl_M_13 sh_32 rfl ?_
        refine zr_aload_n h d_M_properties_188 rfl rfl 0 rfl ?_
        refine zr_getI h d_M_properties_189 rfl fl_M_139 sh_32 rfl ?_
        obtain ⟨hb_5, hf⟩ := zx_gd_some hf
        refine zr_iald h d_M_properties_192 rfl sh_34 hb_5 ?_
        refine zr_isub h d_M_properties_193 rfl ?_
        refine zr_iconst (v := (2 : Int32)) h d_M_properties_194 rfl (by decide) ?_
        rcases zx_if_some hf with ⟨hc_6, hf⟩ | ⟨hc_6, hf⟩
        · refine zr_icmp_lt_t (tgt := 225) h d_M_properties_195 rfl hc_6 ?_
          exact z_M_properties_225 h hE G hf
        · refine zr_icmp_lt_f h 225 d_M_properties_195 rfl rfl hc_6 ?_
          refine zr_aload_n h d_M_properties_198 rfl rfl 0 rfl ?_
          refine zr_getR h d_M_properties_199 rfl fl_M_16 sh_32 rfl ?_
          refine zr_aload_n h d_M_properties_202 rfl rfl 0 rfl ?_
          refine zr_getI h d_M_properties_203 rfl fl_M_142 sh_32 rfl ?_
          obtain ⟨hb_7, hf⟩ := zx_gd_some hf
          refine zr_iald h d_M_properties_206 rfl sh_35 hb_7 ?_
          refine zr_aload_n h d_M_properties_207 rfl rfl 0 rfl ?_
          refine zr_getR h d_M_properties_208 rfl fl_M_13 sh_32 rfl ?_
          refine zr_aload_n h d_M_properties_211 rfl rfl 0 rfl ?_
          refine zr_getI h d_M_properties_212 rfl fl_M_142 sh_32 rfl ?_
          obtain ⟨hb_8, hf⟩ := zx_gd_some hf
          refine zr_iald h d_M_properties_215 rfl sh_34 hb_8 ?_
          refine zr_isub h d_M_properties_216 rfl ?_
          refine zr_iconst (v := (1 : Int32)) h d_M_properties_217 rfl (by decide) ?_
          rcases zx_if_some hf with ⟨hc_9, hf⟩ | ⟨hc_9, hf⟩
          · refine zr_icmp_lt_t (tgt := 225) h d_M_properties_218 rfl hc_9 ?_
            exact z_M_properties_225 h hE G hf
          · refine zr_icmp_lt_f h 225 d_M_properties_218 rfl rfl hc_9 ?_
            refine zr_iconst (v := (1 : Int32)) h d_M_properties_221 rfl (by decide) ?_
            refine zr_goto (tgt := 226) h d_M_properties_222 rfl ?_
            exact z_M_properties_226 h hE (1 : Int32) G hf
  · refine zr_if_eq_f h 161 d_M_properties_157 rfl rfl hc_1 ?_
    exact zr_vret h hE d_M_properties_160 rfl hf
set_option maxRecDepth 100000 in
set_option maxHeartbeats 4000000 in
theorem z_M_properties_35 {κ : zx_K} {ad : Nat → Nat} {r : Int32} {G1 : zx_G} (h : zx_C M_M_properties κ ad) (hE : zx_E M_M_properties κ ad r G1) : ∀ (n : Nat) (x1 x3 : Int32) (G : zx_G), f_M_properties_35 n x1 x3 G = some (r, G1) → zx_Z κ ad 35 [(0, .ref (ad 32)), (1, .int x1), (3, .int x3)] [] G := by
  intro n
  induction n with
  | zero => intro x1 x3 G hf; cases hf
  | succ n ih =>
    intro x1 x3 G hf
    unfold f_M_properties_35 at hf
    refine zr_aload_n h d_M_properties_35 rfl rfl 0 rfl ?_
    refine zr_getI h d_M_properties_36 rfl fl_M_123 sh_32 rfl ?_
    refine zr_aload_n h d_M_properties_39 rfl rfl 0 rfl ?_
    refine zr_getI h d_M_properties_40 rfl fl_M_126 sh_32 rfl ?_
    rcases zx_if_some hf with ⟨hc_1, hf⟩ | ⟨hc_1, hf⟩
    · refine zr_icmp_ge_t (tgt := 153) h d_M_properties_43 rfl hc_1 ?_
      refine zr_sub [0] rfl ?_
      exact z_M_properties_153 h hE G hf
    · refine zr_icmp_ge_f h 153 d_M_properties_43 rfl rfl hc_1 ?_
      refine zr_aload_n h d_M_properties_46 rfl rfl 0 rfl ?_
      refine zr_getI h d_M_properties_47 rfl fl_M_78 sh_32 rfl ?_
      rcases zx_if_some hf with ⟨hc_2, hf⟩ | ⟨hc_2, hf⟩
      · refine zr_if_ne_t (tgt := 153) h d_M_properties_50 rfl hc_2 ?_
        refine zr_sub [0] rfl ?_
        exact z_M_properties_153 h hE G hf
      · refine zr_if_ne_f h 153 d_M_properties_50 rfl rfl hc_2 ?_
        refine zr_aload_n h d_M_properties_53 rfl rfl 0 rfl ?_
        obtain ⟨r_4, G_3, hq_5, hf⟩ := zx_bd_some hf
        refine zr_callVI (As := []) (b := 32) h (c_M_take _ _ _ _ _ G r_4 G_3 hq_5) cc_M_132 d_M_properties_54 rfl rfl rfl sh_32 ⟨rfl, rfl, by decide, by decide⟩ (Nat.le_of_ble_eq_true rfl) ?_
        refine zr_iload_n h d_M_properties_57 rfl rfl 2 rfl ?_
        rcases zx_if_some hf with ⟨hc_6, hf⟩ | ⟨hc_6, hf⟩
        · refine zr_icmp_ne_t (tgt := 65) h d_M_properties_58 rfl hc_6 ?_
          refine zr_iconst (v := (0 : Int32)) h d_M_properties_65 rfl (by decide) ?_
          exact z_M_properties_66 h hE ih x1 x3 (0 : Int32) G_3 hf
        · refine zr_icmp_ne_f h 65 d_M_properties_58 rfl rfl hc_6 ?_
          refine zr_iconst (v := (1 : Int32)) h d_M_properties_61 rfl (by decide) ?_
          refine zr_goto (tgt := 66) h d_M_properties_62 rfl ?_
          exact z_M_properties_66 h hE ih x1 x3 (1 : Int32) G_3 hf
set_option maxRecDepth 100000 in
set_option maxHeartbeats 4000000 in
theorem z_M_properties_0 {κ : zx_K} {ad : Nat → Nat} {r : Int32} {G1 : zx_G} (h : zx_C M_M_properties κ ad) (hE : zx_E M_M_properties κ ad r G1) (x1 x2 x3 : Int32) (G : zx_G) (hf : f_M_properties x1 x2 x3 G = some (r, G1)) : zx_Z κ ad 0 [(0, .ref (ad 32)), (1, .int x1), (2, .int x2), (3, .int x3)] [] G := by
  unfold f_M_properties at hf
  refine zr_aload_n h d_M_properties_0 rfl rfl 0 rfl ?_
  refine zr_iconst (v := (-1 : Int32)) h d_M_properties_1 rfl (by decide) ?_
  obtain ⟨G_1, eG_1, hf⟩ := zx_lt_some hf
  refine zr_putI h d_M_properties_2 rfl fl_M_139 pl_M_13 sh_32 rfl rfl rfl eG_1 ?_
  refine zr_aload_n h d_M_properties_5 rfl rfl 0 rfl ?_
  refine zr_iconst (v := (-1 : Int32)) h d_M_properties_6 rfl (by decide) ?_
  obtain ⟨G_2, eG_2, hf⟩ := zx_lt_some hf
  refine zr_putI h d_M_properties_7 rfl fl_M_142 pl_M_14 sh_32 rfl rfl rfl eG_2 ?_
  refine zr_aload_n h d_M_properties_10 rfl rfl 0 rfl ?_
  refine zr_iconst (v := (-1 : Int32)) h d_M_properties_11 rfl (by decide) ?_
  obtain ⟨G_3, eG_3, hf⟩ := zx_lt_some hf
  refine zr_putI h d_M_properties_12 rfl fl_M_145 pl_M_15 sh_32 rfl rfl rfl eG_3 ?_
  refine zr_aload_n h d_M_properties_15 rfl rfl 0 rfl ?_
  refine zr_aload_n h d_M_properties_16 rfl rfl 0 rfl ?_
  refine zr_getR h d_M_properties_17 rfl fl_M_13 sh_32 rfl ?_
  refine zr_iload_n h d_M_properties_20 rfl rfl 2 rfl ?_
  obtain ⟨hb_4, hf⟩ := zx_gd_some hf
  refine zr_iald h d_M_properties_21 rfl sh_34 hb_4 ?_
  obtain ⟨G_5, eG_5, hf⟩ := zx_lt_some hf
  refine zr_putI h d_M_properties_22 rfl fl_M_123 pl_M_11 sh_32 rfl rfl rfl eG_5 ?_
  refine zr_aload_n h d_M_properties_25 rfl rfl 0 rfl ?_
  refine zr_aload_n h d_M_properties_26 rfl rfl 0 rfl ?_
  refine zr_getR h d_M_properties_27 rfl fl_M_16 sh_32 rfl ?_
  refine zr_iload_n h d_M_properties_30 rfl rfl 2 rfl ?_
  obtain ⟨hb_6, hf⟩ := zx_gd_some hf
  refine zr_iald h d_M_properties_31 rfl sh_35 hb_6 ?_
  obtain ⟨G_7, eG_7, hf⟩ := zx_lt_some hf
  refine zr_putI h d_M_properties_32 rfl fl_M_126 pl_M_12 sh_32 rfl rfl rfl eG_7 ?_
  refine zr_sub [0, 1, 3] rfl ?_
  exact z_M_properties_35 h hE 2048 x1 x3 G_7 hf
theorem c_M_properties (l : Launch) (D : va_G) (cA : ClassId) (ad : Nat → Nat) (A : Nat → Prop) (x1 x2 x3 : Int32) (G : zx_G) (r : Int32) (G1 : zx_G) (hf : f_M_properties x1 x2 x3 G = some (r, G1)) : zx_met l y_M_properties M_M_properties [.ref (ad 32), .int x1, .int x2, .int x3] D cA ad A G r G1 :=
  zx_toMet (by decide) rfl (Nat.le_of_ble_eq_true rfl) (fun κ h hE => by exact z_M_properties_0 h hE x1 x2 x3 G hf)

def f_M_gather_22 (G : zx_G) : Option (Int32 × zx_G) :=
  zx_bd (f_M_fail (4 : Int32) G) fun r_2 G_1 =>
  some ((0 : Int32), G_1)
def f_M_gather_30 : Nat → Int32 → Int32 → Int32 → zx_G → Option (Int32 × zx_G)
  | 0, _, _, _, _ => none
  | n + 1, x1, x2, x3, G =>
    zx_if (x2 ≤ x3)
      (zx_lt (zx_up G 32 8 ((G 32 8) + x2)) fun G_2 =>
      some ((0 : Int32), G_2))
      (zx_gd (zx_in (x1 + x3) 240) <|
      zx_gd (zx_in ((G 32 8) + x3) 200) <|
      zx_lt (zx_up G 39 (Int32.toNatClampNeg ((G 32 8) + x3)) (G 33 (Int32.toNatClampNeg (x1 + x3)))) fun G_5 =>
      zx_lt (x3 + (1 : Int32)) fun x3_6 =>
      f_M_gather_30 n x1 x2 x3_6 G_5)
def f_M_gather (x1 x2 : Int32) (G : zx_G) : Option (Int32 × zx_G) :=
  zx_if ((G 32 0) < (x1 + x2))
    (f_M_gather_22 G)
    (zx_if (((G 32 8) + x2) ≤ (200 : Int32))
      (zx_lt (0 : Int32) fun x3_3 =>
      f_M_gather_30 2048 x1 x2 x3_3 G)
      (f_M_gather_22 G))
set_option maxRecDepth 100000 in
set_option maxHeartbeats 4000000 in
theorem z_M_gather_22 {κ : zx_K} {ad : Nat → Nat} {r : Int32} {G1 : zx_G} (h : zx_C M_M_gather κ ad) (hE : zx_E M_M_gather κ ad r G1) (G : zx_G) (hf : f_M_gather_22 G = some (r, G1)) : zx_Z κ ad 22 [(0, .ref (ad 32))] [] G := by
  unfold f_M_gather_22 at hf
  refine zr_aload_n h d_M_gather_22 rfl rfl 0 rfl ?_
  refine zr_iconst (v := (4 : Int32)) h d_M_gather_23 rfl (by decide) ?_
  obtain ⟨r_2, G_1, hq_3, hf⟩ := zx_bd_some hf
  refine zr_callVV (As := [.int (4 : Int32)]) (b := 32) h (c_M_fail _ _ _ _ _ (4 : Int32) G r_2 G_1 hq_3) cc_M_119 d_M_gather_24 rfl rfl rfl sh_32 ⟨rfl, rfl, by decide, by decide⟩ (Nat.le_of_ble_eq_true rfl) ?_
  exact zr_vret h hE d_M_gather_27 rfl hf
set_option maxRecDepth 100000 in
set_option maxHeartbeats 4000000 in
theorem z_M_gather_30 {κ : zx_K} {ad : Nat → Nat} {r : Int32} {G1 : zx_G} (h : zx_C M_M_gather κ ad) (hE : zx_E M_M_gather κ ad r G1) : ∀ (n : Nat) (x1 x2 x3 : Int32) (G : zx_G), f_M_gather_30 n x1 x2 x3 G = some (r, G1) → zx_Z κ ad 30 [(0, .ref (ad 32)), (1, .int x1), (2, .int x2), (3, .int x3)] [] G := by
  intro n
  induction n with
  | zero => intro x1 x2 x3 G hf; cases hf
  | succ n ih =>
    intro x1 x2 x3 G hf
    unfold f_M_gather_30 at hf
    refine zr_iload_n h d_M_gather_30 rfl rfl 3 rfl ?_
    refine zr_iload_n h d_M_gather_31 rfl rfl 2 rfl ?_
    rcases zx_if_some hf with ⟨hc_1, hf⟩ | ⟨hc_1, hf⟩
    · refine zr_icmp_ge_t (tgt := 60) h d_M_gather_32 rfl hc_1 ?_
      refine zr_aload_n h d_M_gather_60 rfl rfl 0 rfl ?_
      refine zr_aload_n h d_M_gather_61 rfl rfl 0 rfl ?_
      refine zr_getI h d_M_gather_62 rfl fl_M_129 sh_32 rfl ?_
      refine zr_iload_n h d_M_gather_65 rfl rfl 2 rfl ?_
      refine zr_iadd h d_M_gather_66 rfl ?_
      obtain ⟨G_2, eG_2, hf⟩ := zx_lt_some hf
      refine zr_putI h d_M_gather_67 rfl fl_M_129 pl_M_8 sh_32 rfl rfl rfl eG_2 ?_
      exact zr_vret h hE d_M_gather_70 rfl hf
    · refine zr_icmp_ge_f h 60 d_M_gather_32 rfl rfl hc_1 ?_
      refine zr_aload_n h d_M_gather_35 rfl rfl 0 rfl ?_
      refine zr_getR h d_M_gather_36 rfl fl_M_28 sh_32 rfl ?_
      refine zr_aload_n h d_M_gather_39 rfl rfl 0 rfl ?_
      refine zr_getI h d_M_gather_40 rfl fl_M_129 sh_32 rfl ?_
      refine zr_iload_n h d_M_gather_43 rfl rfl 3 rfl ?_
      refine zr_iadd h d_M_gather_44 rfl ?_
      refine zr_aload_n h d_M_gather_45 rfl rfl 0 rfl ?_
      refine zr_getR h d_M_gather_46 rfl fl_M_7 sh_32 rfl ?_
      refine zr_iload_n h d_M_gather_49 rfl rfl 1 rfl ?_
      refine zr_iload_n h d_M_gather_50 rfl rfl 3 rfl ?_
      refine zr_iadd h d_M_gather_51 rfl ?_
      obtain ⟨hb_3, hf⟩ := zx_gd_some hf
      refine zr_iald h d_M_gather_52 rfl sh_33 hb_3 ?_
      obtain ⟨hb_4, hf⟩ := zx_gd_some hf
      obtain ⟨G_5, eG_5, hf⟩ := zx_lt_some hf
      refine zr_iast h d_M_gather_53 rfl sh_39 hb_4 eG_5 ?_
      obtain ⟨x3_6, ex3_6, hf⟩ := zx_lt_some hf
      refine zr_iinc (j := 3) h d_M_gather_54 rfl rfl (by decide) ex3_6 (by decide) rfl ?_
      refine zr_goto (tgt := 30) h d_M_gather_57 rfl ?_
      refine zr_sub [1, 2, 3, 0] rfl ?_
      exact ih x1 x2 x3_6 G_5 hf
set_option maxRecDepth 100000 in
set_option maxHeartbeats 4000000 in
theorem z_M_gather_0 {κ : zx_K} {ad : Nat → Nat} {r : Int32} {G1 : zx_G} (h : zx_C M_M_gather κ ad) (hE : zx_E M_M_gather κ ad r G1) (x1 x2 : Int32) (G : zx_G) (hf : f_M_gather x1 x2 G = some (r, G1)) : zx_Z κ ad 0 [(0, .ref (ad 32)), (1, .int x1), (2, .int x2)] [] G := by
  unfold f_M_gather at hf
  refine zr_iload_n h d_M_gather_0 rfl rfl 1 rfl ?_
  refine zr_iload_n h d_M_gather_1 rfl rfl 2 rfl ?_
  refine zr_iadd h d_M_gather_2 rfl ?_
  refine zr_aload_n h d_M_gather_3 rfl rfl 0 rfl ?_
  refine zr_getI h d_M_gather_4 rfl fl_M_70 sh_32 rfl ?_
  rcases zx_if_some hf with ⟨hc_1, hf⟩ | ⟨hc_1, hf⟩
  · refine zr_icmp_gt_t (tgt := 22) h d_M_gather_7 rfl hc_1 ?_
    refine zr_sub [0] rfl ?_
    exact z_M_gather_22 h hE G hf
  · refine zr_icmp_gt_f h 22 d_M_gather_7 rfl rfl hc_1 ?_
    refine zr_aload_n h d_M_gather_10 rfl rfl 0 rfl ?_
    refine zr_getI h d_M_gather_11 rfl fl_M_129 sh_32 rfl ?_
    refine zr_iload_n h d_M_gather_14 rfl rfl 2 rfl ?_
    refine zr_iadd h d_M_gather_15 rfl ?_
    refine zr_sipush (v := (200 : Int32)) h d_M_gather_16 rfl (by decide) ?_
    rcases zx_if_some hf with ⟨hc_2, hf⟩ | ⟨hc_2, hf⟩
    · refine zr_icmp_le_t (tgt := 28) h d_M_gather_19 rfl hc_2 ?_
      refine zr_iconst (v := (0 : Int32)) h d_M_gather_28 rfl (by decide) ?_
      obtain ⟨x3_3, ex3_3, hf⟩ := zx_lt_some hf
      refine zr_istore_n h d_M_gather_29 rfl rfl (by decide) ex3_3 rfl ?_
      refine zr_sub [1, 2, 3, 0] rfl ?_
      exact z_M_gather_30 h hE 2048 x1 x2 x3_3 G hf
    · refine zr_icmp_le_f h 28 d_M_gather_19 rfl rfl hc_2 ?_
      refine zr_sub [0] rfl ?_
      exact z_M_gather_22 h hE G hf
theorem c_M_gather (l : Launch) (D : va_G) (cA : ClassId) (ad : Nat → Nat) (A : Nat → Prop) (x1 x2 : Int32) (G : zx_G) (r : Int32) (G1 : zx_G) (hf : f_M_gather x1 x2 G = some (r, G1)) : zx_met l y_M_gather M_M_gather [.ref (ad 32), .int x1, .int x2] D cA ad A G r G1 :=
  zx_toMet (by decide) rfl (Nat.le_of_ble_eq_true rfl) (fun κ h hE => by exact z_M_gather_0 h hE x1 x2 G hf)

def f_M_extents_71 (G : zx_G) : Option (Int32 × zx_G) :=
  zx_bd (f_M_fail (3 : Int32) G) fun r_2 G_1 =>
  some ((0 : Int32), G_1)
def f_M_extents_219 (k129 : Int32 → Int32 → Int32 → Int32 → zx_G → Option (Int32 × zx_G)) (k173 : Int32 → Int32 → Int32 → Int32 → Int32 → Int32 → zx_G → Option (Int32 × zx_G)) (x5 x6 x7 x8 x9 x10 : Int32) (G : zx_G) : Option (Int32 × zx_G) :=
  zx_lt (x10 + (1 : Int32)) fun x10_1 =>
  k173 x5 x6 x7 x8 x9 x10_1 G
def f_M_extents_225 (k129 : Int32 → Int32 → Int32 → Int32 → zx_G → Option (Int32 × zx_G)) (x5 x6 x7 x8 : Int32) (G : zx_G) : Option (Int32 × zx_G) :=
  zx_lt (x8 + (1 : Int32)) fun x8_1 =>
  k129 x5 x6 x7 x8_1 G
def f_M_extents_173 (k129 : Int32 → Int32 → Int32 → Int32 → zx_G → Option (Int32 × zx_G)) : Nat → Int32 → Int32 → Int32 → Int32 → Int32 → Int32 → zx_G → Option (Int32 × zx_G)
  | 0, _, _, _, _, _, _, _ => none
  | n + 1, x5, x6, x7, x8, x9, x10, G =>
    zx_if (x9 ≤ x10)
      (f_M_extents_225 k129 x5 x6 x7 x8 G)
      (zx_if (¬ (G 32 10) = 0)
        (f_M_extents_225 k129 x5 x6 x7 x8 G)
        (zx_bd (f_M_take G) fun r_4 G_3 =>
        zx_lt r_4 fun x11_6 =>
        zx_bd (f_M_take G_3) fun r_8 G_7 =>
        zx_lt r_8 fun x12_10 =>
        zx_if (x7 = 0)
          (f_M_extents_219 k129 (f_M_extents_173 k129 n) x5 x6 x7 x8 x9 x10 G_7)
          (zx_if (¬ (G_7 32 10) = 0)
            (f_M_extents_219 k129 (f_M_extents_173 k129 n) x5 x6 x7 x8 x9 x10 G_7)
            (zx_bd (f_M_gather x11_6 x12_10 G_7) fun r_14 G_13 =>
            f_M_extents_219 k129 (f_M_extents_173 k129 n) x5 x6 x7 x8 x9 x10 G_13))))
def f_M_extents_162 (k129 : Int32 → Int32 → Int32 → Int32 → zx_G → Option (Int32 × zx_G)) (x5 x6 x8 s0 : Int32) (G : zx_G) : Option (Int32 × zx_G) :=
  zx_lt s0 fun x7_1 =>
  zx_bd (f_M_take G) fun r_3 G_2 =>
  zx_lt r_3 fun x9_5 =>
  zx_lt (0 : Int32) fun x10_6 =>
  f_M_extents_173 k129 2048 x5 x6 x7_1 x8 x9_5 x10_6 G_2
def f_M_extents_241 (G : zx_G) : Option (Int32 × zx_G) :=
  some ((0 : Int32), G)
def f_M_extents_231 (x7 : Int32) (G : zx_G) : Option (Int32 × zx_G) :=
  zx_if (¬ x7 = 0)
    (f_M_extents_241 G)
    (zx_bd (f_M_fail (3 : Int32) G) fun r_3 G_2 =>
    f_M_extents_241 G_2)
def f_M_extents_129 : Nat → Int32 → Int32 → Int32 → Int32 → zx_G → Option (Int32 × zx_G)
  | 0, _, _, _, _, _ => none
  | n + 1, x5, x6, x7, x8, G =>
    zx_if (x6 ≤ x8)
      (f_M_extents_231 x7 G)
      (zx_if (¬ x7 = 0)
        (f_M_extents_231 x7 G)
        (zx_if (¬ (G 32 10) = 0)
          (f_M_extents_231 x7 G)
          (zx_bd (f_M_take G) fun r_5 G_4 =>
          zx_if (¬ r_5 = x5)
            (f_M_extents_162 (f_M_extents_129 n) x5 x6 x8 (0 : Int32) G_4)
            (f_M_extents_162 (f_M_extents_129 n) x5 x6 x8 (1 : Int32) G_4))))
def f_M_extents_31 (x2 x3 s0 : Int32) (G : zx_G) : Option (Int32 × zx_G) :=
  zx_lt s0 fun x4_1 =>
  zx_if (x3 < 0)
    (f_M_extents_71 G)
    (zx_if (x4_1 < 0)
      (f_M_extents_71 G)
      (zx_if (x2 < 0)
        (f_M_extents_71 G)
        (zx_bd (f_M_child x2 (97 : Int32) G) fun r_6 G_5 =>
        zx_if (r_6 < 0)
          (f_M_extents_71 G_5)
          (zx_gd (zx_in x3 16) <|
          zx_gd (zx_in x3 16) <|
          zx_if ((G_5 34 (Int32.toNatClampNeg x3)) < (G_5 35 (Int32.toNatClampNeg x3)))
            (zx_gd (zx_in x3 16) <|
            zx_gd (zx_in (G_5 34 (Int32.toNatClampNeg x3)) 240) <|
            zx_lt (G_5 33 (Int32.toNatClampNeg (G_5 34 (Int32.toNatClampNeg x3)))) fun x5_14 =>
            zx_gd (zx_in x4_1 16) <|
            zx_lt (zx_up G_5 32 11 (G_5 34 (Int32.toNatClampNeg x4_1))) fun G_16 =>
            zx_gd (zx_in x4_1 16) <|
            zx_lt (zx_up G_16 32 12 (G_16 35 (Int32.toNatClampNeg x4_1))) fun G_18 =>
            zx_lt (zx_up G_18 32 8 (0 : Int32)) fun G_19 =>
            zx_bd (f_M_take G_19) fun r_21 G_20 =>
            zx_lt r_21 fun x6_23 =>
            zx_lt (0 : Int32) fun x7_24 =>
            zx_lt (0 : Int32) fun x8_25 =>
            f_M_extents_129 2048 x5_14 x6_23 x7_24 x8_25 G_20)
            (f_M_extents_71 G_5)))))
def f_M_extents_15 (x1 x2 s0 : Int32) (G : zx_G) : Option (Int32 × zx_G) :=
  zx_lt s0 fun x3_1 =>
  zx_if (x1 < 0)
    (f_M_extents_31 x2 x3_1 (-1 : Int32) G)
    (zx_bd (f_M_child x1 (108 : Int32) G) fun r_4 G_3 =>
    f_M_extents_31 x2 x3_1 r_4 G_3)
def f_M_extents (x1 x2 : Int32) (G : zx_G) : Option (Int32 × zx_G) :=
  zx_if (x1 < 0)
    (f_M_extents_15 x1 x2 (-1 : Int32) G)
    (zx_bd (f_M_child x1 (112 : Int32) G) fun r_3 G_2 =>
    f_M_extents_15 x1 x2 r_3 G_2)
set_option maxRecDepth 100000 in
set_option maxHeartbeats 4000000 in
theorem z_M_extents_71 {κ : zx_K} {ad : Nat → Nat} {r : Int32} {G1 : zx_G} (h : zx_C M_M_extents κ ad) (hE : zx_E M_M_extents κ ad r G1) (G : zx_G) (hf : f_M_extents_71 G = some (r, G1)) : zx_Z κ ad 71 [(0, .ref (ad 32))] [] G := by
  unfold f_M_extents_71 at hf
  refine zr_aload_n h d_M_extents_71 rfl rfl 0 rfl ?_
  refine zr_iconst (v := (3 : Int32)) h d_M_extents_72 rfl (by decide) ?_
  obtain ⟨r_2, G_1, hq_3, hf⟩ := zx_bd_some hf
  refine zr_callVV (As := [.int (3 : Int32)]) (b := 32) h (c_M_fail _ _ _ _ _ (3 : Int32) G r_2 G_1 hq_3) cc_M_119 d_M_extents_73 rfl rfl rfl sh_32 ⟨rfl, rfl, by decide, by decide⟩ (Nat.le_of_ble_eq_true rfl) ?_
  exact zr_vret h hE d_M_extents_76 rfl hf
set_option maxRecDepth 100000 in
set_option maxHeartbeats 4000000 in
theorem z_M_extents_219 {κ : zx_K} {ad : Nat → Nat} {r : Int32} {G1 : zx_G} (h : zx_C M_M_extents κ ad) (hE : zx_E M_M_extents κ ad r G1) {k129 : Int32 → Int32 → Int32 → Int32 → zx_G → Option (Int32 × zx_G)} {k173 : Int32 → Int32 → Int32 → Int32 → Int32 → Int32 → zx_G → Option (Int32 × zx_G)} (hk129 : ∀ (x5 x6 x7 x8 : Int32) (G : zx_G), k129 x5 x6 x7 x8 G = some (r, G1) → zx_Z κ ad 129 [(0, .ref (ad 32)), (5, .int x5), (6, .int x6), (7, .int x7), (8, .int x8)] [] G) (hk173 : ∀ (x5 x6 x7 x8 x9 x10 : Int32) (G : zx_G), k173 x5 x6 x7 x8 x9 x10 G = some (r, G1) → zx_Z κ ad 173 [(0, .ref (ad 32)), (5, .int x5), (6, .int x6), (7, .int x7), (8, .int x8), (9, .int x9), (10, .int x10)] [] G) (x5 x6 x7 x8 x9 x10 : Int32) (G : zx_G) (hf : f_M_extents_219 k129 k173 x5 x6 x7 x8 x9 x10 G = some (r, G1)) : zx_Z κ ad 219 [(0, .ref (ad 32)), (5, .int x5), (6, .int x6), (7, .int x7), (8, .int x8), (9, .int x9), (10, .int x10)] [] G := by
  unfold f_M_extents_219 at hf
  obtain ⟨x10_1, ex10_1, hf⟩ := zx_lt_some hf
  refine zr_iinc (j := 6) h d_M_extents_219 rfl rfl (by decide) ex10_1 (by decide) rfl ?_
  refine zr_goto (tgt := 173) h d_M_extents_222 rfl ?_
  refine zr_sub [1, 2, 3, 4, 5, 6, 0] rfl ?_
  exact hk173 x5 x6 x7 x8 x9 x10_1 G hf
set_option maxRecDepth 100000 in
set_option maxHeartbeats 4000000 in
theorem z_M_extents_225 {κ : zx_K} {ad : Nat → Nat} {r : Int32} {G1 : zx_G} (h : zx_C M_M_extents κ ad) (hE : zx_E M_M_extents κ ad r G1) {k129 : Int32 → Int32 → Int32 → Int32 → zx_G → Option (Int32 × zx_G)} (hk129 : ∀ (x5 x6 x7 x8 : Int32) (G : zx_G), k129 x5 x6 x7 x8 G = some (r, G1) → zx_Z κ ad 129 [(0, .ref (ad 32)), (5, .int x5), (6, .int x6), (7, .int x7), (8, .int x8)] [] G) (x5 x6 x7 x8 : Int32) (G : zx_G) (hf : f_M_extents_225 k129 x5 x6 x7 x8 G = some (r, G1)) : zx_Z κ ad 225 [(0, .ref (ad 32)), (5, .int x5), (6, .int x6), (7, .int x7), (8, .int x8)] [] G := by
  unfold f_M_extents_225 at hf
  obtain ⟨x8_1, ex8_1, hf⟩ := zx_lt_some hf
  refine zr_iinc (j := 4) h d_M_extents_225 rfl rfl (by decide) ex8_1 (by decide) rfl ?_
  refine zr_goto (tgt := 129) h d_M_extents_228 rfl ?_
  refine zr_sub [1, 2, 3, 4, 0] rfl ?_
  exact hk129 x5 x6 x7 x8_1 G hf
set_option maxRecDepth 100000 in
set_option maxHeartbeats 4000000 in
theorem z_M_extents_173 {κ : zx_K} {ad : Nat → Nat} {r : Int32} {G1 : zx_G} (h : zx_C M_M_extents κ ad) (hE : zx_E M_M_extents κ ad r G1) {k129 : Int32 → Int32 → Int32 → Int32 → zx_G → Option (Int32 × zx_G)} (hk129 : ∀ (x5 x6 x7 x8 : Int32) (G : zx_G), k129 x5 x6 x7 x8 G = some (r, G1) → zx_Z κ ad 129 [(0, .ref (ad 32)), (5, .int x5), (6, .int x6), (7, .int x7), (8, .int x8)] [] G) : ∀ (n : Nat) (x5 x6 x7 x8 x9 x10 : Int32) (G : zx_G), f_M_extents_173 k129 n x5 x6 x7 x8 x9 x10 G = some (r, G1) → zx_Z κ ad 173 [(0, .ref (ad 32)), (5, .int x5), (6, .int x6), (7, .int x7), (8, .int x8), (9, .int x9), (10, .int x10)] [] G := by
  intro n
  induction n with
  | zero => intro x5 x6 x7 x8 x9 x10 G hf; cases hf
  | succ n ih =>
    intro x5 x6 x7 x8 x9 x10 G hf
    unfold f_M_extents_173 at hf
    refine zr_iload h d_M_extents_173 rfl 6 rfl ?_
    refine zr_iload h d_M_extents_175 rfl 5 rfl ?_
    rcases zx_if_some hf with ⟨hc_1, hf⟩ | ⟨hc_1, hf⟩
    · refine zr_icmp_ge_t (tgt := 225) h d_M_extents_177 rfl hc_1 ?_
      refine zr_sub [0, 1, 2, 3, 4] rfl ?_
      exact z_M_extents_225 h hE hk129 x5 x6 x7 x8 G hf
    · refine zr_icmp_ge_f h 225 d_M_extents_177 rfl rfl hc_1 ?_
      refine zr_aload_n h d_M_extents_180 rfl rfl 0 rfl ?_
      refine zr_getI h d_M_extents_181 rfl fl_M_78 sh_32 rfl ?_
      rcases zx_if_some hf with ⟨hc_2, hf⟩ | ⟨hc_2, hf⟩
      · refine zr_if_ne_t (tgt := 225) h d_M_extents_184 rfl hc_2 ?_
        refine zr_sub [0, 1, 2, 3, 4] rfl ?_
        exact z_M_extents_225 h hE hk129 x5 x6 x7 x8 G hf
      · refine zr_if_ne_f h 225 d_M_extents_184 rfl rfl hc_2 ?_
        refine zr_aload_n h d_M_extents_187 rfl rfl 0 rfl ?_
        obtain ⟨r_4, G_3, hq_5, hf⟩ := zx_bd_some hf
        refine zr_callVI (As := []) (b := 32) h (c_M_take _ _ _ _ _ G r_4 G_3 hq_5) cc_M_132 d_M_extents_188 rfl rfl rfl sh_32 ⟨rfl, rfl, by decide, by decide⟩ (Nat.le_of_ble_eq_true rfl) ?_
        obtain ⟨x11_6, ex11_6, hf⟩ := zx_lt_some hf
        refine zr_istore h d_M_extents_191 rfl (by decide) ex11_6 rfl ?_
        refine zr_aload_n h d_M_extents_193 rfl rfl 1 rfl ?_
        obtain ⟨r_8, G_7, hq_9, hf⟩ := zx_bd_some hf
        refine zr_callVI (As := []) (b := 32) h (c_M_take _ _ _ _ _ G_3 r_8 G_7 hq_9) cc_M_132 d_M_extents_194 rfl rfl rfl sh_32 ⟨rfl, rfl, by decide, by decide⟩ (Nat.le_of_ble_eq_true rfl) ?_
        obtain ⟨x12_10, ex12_10, hf⟩ := zx_lt_some hf
        refine zr_istore h d_M_extents_197 rfl (by decide) ex12_10 rfl ?_
        refine zr_iload h d_M_extents_199 rfl 5 rfl ?_
        rcases zx_if_some hf with ⟨hc_11, hf⟩ | ⟨hc_11, hf⟩
        · refine zr_if_eq_t (tgt := 219) h d_M_extents_201 rfl hc_11 ?_
          refine zr_sub [2, 3, 4, 5, 6, 7, 8] rfl ?_
          exact z_M_extents_219 h hE hk129 ih x5 x6 x7 x8 x9 x10 G_7 hf
        · refine zr_if_eq_f h 219 d_M_extents_201 rfl rfl hc_11 ?_
          refine zr_aload_n h d_M_extents_204 rfl rfl 2 rfl ?_
          refine zr_getI h d_M_extents_205 rfl fl_M_78 sh_32 rfl ?_
          rcases zx_if_some hf with ⟨hc_12, hf⟩ | ⟨hc_12, hf⟩
          · refine zr_if_ne_t (tgt := 219) h d_M_extents_208 rfl hc_12 ?_
            refine zr_sub [2, 3, 4, 5, 6, 7, 8] rfl ?_
            exact z_M_extents_219 h hE hk129 ih x5 x6 x7 x8 x9 x10 G_7 hf
          · refine zr_if_ne_f h 219 d_M_extents_208 rfl rfl hc_12 ?_
            refine zr_aload_n h d_M_extents_211 rfl rfl 2 rfl ?_
            refine zr_iload h d_M_extents_212 rfl 1 rfl ?_
            refine zr_iload h d_M_extents_214 rfl 0 rfl ?_
            obtain ⟨r_14, G_13, hq_15, hf⟩ := zx_bd_some hf
            refine zr_callVV (As := [.int x11_6, .int x12_10]) (b := 32) h (c_M_gather _ _ _ _ _ x11_6 x12_10 G_7 r_14 G_13 hq_15) cc_M_136 d_M_extents_216 rfl rfl rfl sh_32 ⟨rfl, rfl, by decide, by decide⟩ (Nat.le_of_ble_eq_true rfl) ?_
            refine zr_sub [2, 3, 4, 5, 6, 7, 8] rfl ?_
            exact z_M_extents_219 h hE hk129 ih x5 x6 x7 x8 x9 x10 G_13 hf
set_option maxRecDepth 100000 in
set_option maxHeartbeats 4000000 in
theorem z_M_extents_162 {κ : zx_K} {ad : Nat → Nat} {r : Int32} {G1 : zx_G} (h : zx_C M_M_extents κ ad) (hE : zx_E M_M_extents κ ad r G1) {k129 : Int32 → Int32 → Int32 → Int32 → zx_G → Option (Int32 × zx_G)} (hk129 : ∀ (x5 x6 x7 x8 : Int32) (G : zx_G), k129 x5 x6 x7 x8 G = some (r, G1) → zx_Z κ ad 129 [(0, .ref (ad 32)), (5, .int x5), (6, .int x6), (7, .int x7), (8, .int x8)] [] G) (x5 x6 x8 s0 : Int32) (G : zx_G) (hf : f_M_extents_162 k129 x5 x6 x8 s0 G = some (r, G1)) : zx_Z κ ad 162 [(0, .ref (ad 32)), (5, .int x5), (6, .int x6), (8, .int x8)] [.int s0] G := by
  unfold f_M_extents_162 at hf
  obtain ⟨x7_1, ex7_1, hf⟩ := zx_lt_some hf
  refine zr_istore h d_M_extents_162 rfl (by decide) ex7_1 rfl ?_
  refine zr_aload_n h d_M_extents_164 rfl rfl 1 rfl ?_
  obtain ⟨r_3, G_2, hq_4, hf⟩ := zx_bd_some hf
  refine zr_callVI (As := []) (b := 32) h (c_M_take _ _ _ _ _ G r_3 G_2 hq_4) cc_M_132 d_M_extents_165 rfl rfl rfl sh_32 ⟨rfl, rfl, by decide, by decide⟩ (Nat.le_of_ble_eq_true rfl) ?_
  obtain ⟨x9_5, ex9_5, hf⟩ := zx_lt_some hf
  refine zr_istore h d_M_extents_168 rfl (by decide) ex9_5 rfl ?_
  refine zr_iconst (v := (0 : Int32)) h d_M_extents_170 rfl (by decide) ?_
  obtain ⟨x10_6, ex10_6, hf⟩ := zx_lt_some hf
  refine zr_istore h d_M_extents_171 rfl (by decide) ex10_6 rfl ?_
  refine zr_sub [3, 4, 5, 2, 6, 1, 0] rfl ?_
  exact z_M_extents_173 h hE hk129 2048 x5 x6 x7_1 x8 x9_5 x10_6 G_2 hf
set_option maxRecDepth 100000 in
set_option maxHeartbeats 4000000 in
theorem z_M_extents_241 {κ : zx_K} {ad : Nat → Nat} {r : Int32} {G1 : zx_G} (h : zx_C M_M_extents κ ad) (hE : zx_E M_M_extents κ ad r G1) (G : zx_G) (hf : f_M_extents_241 G = some (r, G1)) : zx_Z κ ad 241 [] [] G := by
  unfold f_M_extents_241 at hf
  exact zr_vret h hE d_M_extents_241 rfl hf
set_option maxRecDepth 100000 in
set_option maxHeartbeats 4000000 in
theorem z_M_extents_231 {κ : zx_K} {ad : Nat → Nat} {r : Int32} {G1 : zx_G} (h : zx_C M_M_extents κ ad) (hE : zx_E M_M_extents κ ad r G1) (x7 : Int32) (G : zx_G) (hf : f_M_extents_231 x7 G = some (r, G1)) : zx_Z κ ad 231 [(0, .ref (ad 32)), (7, .int x7)] [] G := by
  unfold f_M_extents_231 at hf
  refine zr_iload h d_M_extents_231 rfl 1 rfl ?_
  rcases zx_if_some hf with ⟨hc_1, hf⟩ | ⟨hc_1, hf⟩
  · refine zr_if_ne_t (tgt := 241) h d_M_extents_233 rfl hc_1 ?_
    refine zr_sub [] rfl ?_
    exact z_M_extents_241 h hE G hf
  · refine zr_if_ne_f h 241 d_M_extents_233 rfl rfl hc_1 ?_
    refine zr_aload_n h d_M_extents_236 rfl rfl 0 rfl ?_
    refine zr_iconst (v := (3 : Int32)) h d_M_extents_237 rfl (by decide) ?_
    obtain ⟨r_3, G_2, hq_4, hf⟩ := zx_bd_some hf
    refine zr_callVV (As := [.int (3 : Int32)]) (b := 32) h (c_M_fail _ _ _ _ _ (3 : Int32) G r_3 G_2 hq_4) cc_M_119 d_M_extents_238 rfl rfl rfl sh_32 ⟨rfl, rfl, by decide, by decide⟩ (Nat.le_of_ble_eq_true rfl) ?_
    refine zr_sub [] rfl ?_
    exact z_M_extents_241 h hE G_2 hf
set_option maxRecDepth 100000 in
set_option maxHeartbeats 4000000 in
theorem z_M_extents_129 {κ : zx_K} {ad : Nat → Nat} {r : Int32} {G1 : zx_G} (h : zx_C M_M_extents κ ad) (hE : zx_E M_M_extents κ ad r G1) : ∀ (n : Nat) (x5 x6 x7 x8 : Int32) (G : zx_G), f_M_extents_129 n x5 x6 x7 x8 G = some (r, G1) → zx_Z κ ad 129 [(0, .ref (ad 32)), (5, .int x5), (6, .int x6), (7, .int x7), (8, .int x8)] [] G := by
  intro n
  induction n with
  | zero => intro x5 x6 x7 x8 G hf; cases hf
  | succ n ih =>
    intro x5 x6 x7 x8 G hf
    unfold f_M_extents_129 at hf
    refine zr_iload h d_M_extents_129 rfl 4 rfl ?_
    refine zr_iload h d_M_extents_131 rfl 2 rfl ?_
    rcases zx_if_some hf with ⟨hc_1, hf⟩ | ⟨hc_1, hf⟩
    · refine zr_icmp_ge_t (tgt := 231) h d_M_extents_133 rfl hc_1 ?_
      refine zr_sub [0, 3] rfl ?_
      exact z_M_extents_231 h hE x7 G hf
    · refine zr_icmp_ge_f h 231 d_M_extents_133 rfl rfl hc_1 ?_
      refine zr_iload h d_M_extents_136 rfl 3 rfl ?_
      rcases zx_if_some hf with ⟨hc_2, hf⟩ | ⟨hc_2, hf⟩
      · refine zr_if_ne_t (tgt := 231) h d_M_extents_138 rfl hc_2 ?_
        refine zr_sub [0, 3] rfl ?_
        exact z_M_extents_231 h hE x7 G hf
      · refine zr_if_ne_f h 231 d_M_extents_138 rfl rfl hc_2 ?_
        refine zr_aload_n h d_M_extents_141 rfl rfl 0 rfl ?_
        refine zr_getI h d_M_extents_142 rfl fl_M_78 sh_32 rfl ?_
        rcases zx_if_some hf with ⟨hc_3, hf⟩ | ⟨hc_3, hf⟩
        · refine zr_if_ne_t (tgt := 231) h d_M_extents_145 rfl hc_3 ?_
          refine zr_sub [0, 3] rfl ?_
          exact z_M_extents_231 h hE x7 G hf
        · refine zr_if_ne_f h 231 d_M_extents_145 rfl rfl hc_3 ?_
          refine zr_aload_n h d_M_extents_148 rfl rfl 0 rfl ?_
          obtain ⟨r_5, G_4, hq_6, hf⟩ := zx_bd_some hf
          refine zr_callVI (As := []) (b := 32) h (c_M_take _ _ _ _ _ G r_5 G_4 hq_6) cc_M_132 d_M_extents_149 rfl rfl rfl sh_32 ⟨rfl, rfl, by decide, by decide⟩ (Nat.le_of_ble_eq_true rfl) ?_
          refine zr_iload h d_M_extents_152 rfl 1 rfl ?_
          rcases zx_if_some hf with ⟨hc_7, hf⟩ | ⟨hc_7, hf⟩
          · refine zr_icmp_ne_t (tgt := 161) h d_M_extents_154 rfl hc_7 ?_
            refine zr_iconst (v := (0 : Int32)) h d_M_extents_161 rfl (by decide) ?_
            refine zr_sub [0, 1, 2, 4] rfl ?_
            exact z_M_extents_162 h hE ih x5 x6 x8 (0 : Int32) G_4 hf
          · refine zr_icmp_ne_f h 161 d_M_extents_154 rfl rfl hc_7 ?_
            refine zr_iconst (v := (1 : Int32)) h d_M_extents_157 rfl (by decide) ?_
            refine zr_goto (tgt := 162) h d_M_extents_158 rfl ?_
            refine zr_sub [0, 1, 2, 4] rfl ?_
            exact z_M_extents_162 h hE ih x5 x6 x8 (1 : Int32) G_4 hf
set_option maxRecDepth 100000 in
set_option maxHeartbeats 4000000 in
theorem z_M_extents_31 {κ : zx_K} {ad : Nat → Nat} {r : Int32} {G1 : zx_G} (h : zx_C M_M_extents κ ad) (hE : zx_E M_M_extents κ ad r G1) (x2 x3 s0 : Int32) (G : zx_G) (hf : f_M_extents_31 x2 x3 s0 G = some (r, G1)) : zx_Z κ ad 31 [(0, .ref (ad 32)), (2, .int x2), (3, .int x3)] [.int s0] G := by
  unfold f_M_extents_31 at hf
  obtain ⟨x4_1, ex4_1, hf⟩ := zx_lt_some hf
  refine zr_istore h d_M_extents_31 rfl (by decide) ex4_1 rfl ?_
  refine zr_iload_n h d_M_extents_33 rfl rfl 3 rfl ?_
  rcases zx_if_some hf with ⟨hc_2, hf⟩ | ⟨hc_2, hf⟩
  · refine zr_if_lt_t (tgt := 71) h d_M_extents_34 rfl hc_2 ?_
    refine zr_sub [1] rfl ?_
    exact z_M_extents_71 h hE G hf
  · refine zr_if_lt_f h 71 d_M_extents_34 rfl rfl hc_2 ?_
    refine zr_iload h d_M_extents_37 rfl 0 rfl ?_
    rcases zx_if_some hf with ⟨hc_3, hf⟩ | ⟨hc_3, hf⟩
    · refine zr_if_lt_t (tgt := 71) h d_M_extents_39 rfl hc_3 ?_
      refine zr_sub [1] rfl ?_
      exact z_M_extents_71 h hE G hf
    · refine zr_if_lt_f h 71 d_M_extents_39 rfl rfl hc_3 ?_
      refine zr_iload_n h d_M_extents_42 rfl rfl 2 rfl ?_
      rcases zx_if_some hf with ⟨hc_4, hf⟩ | ⟨hc_4, hf⟩
      · refine zr_if_lt_t (tgt := 71) h d_M_extents_43 rfl hc_4 ?_
        refine zr_sub [1] rfl ?_
        exact z_M_extents_71 h hE G hf
      · refine zr_if_lt_f h 71 d_M_extents_43 rfl rfl hc_4 ?_
        refine zr_aload_n h d_M_extents_46 rfl rfl 1 rfl ?_
        refine zr_iload_n h d_M_extents_47 rfl rfl 2 rfl ?_
        refine zr_bipush (v := (97 : Int32)) h d_M_extents_48 rfl (by decide) ?_
        obtain ⟨r_6, G_5, hq_7, hf⟩ := zx_bd_some hf
        refine zr_callVI (As := [.int x2, .int (97 : Int32)]) (b := 32) h (c_M_child _ _ _ _ _ x2 (97 : Int32) G r_6 G_5 hq_7) cc_M_87 d_M_extents_50 rfl rfl rfl sh_32 ⟨rfl, rfl, by decide, by decide⟩ (Nat.le_of_ble_eq_true rfl) ?_
        rcases zx_if_some hf with ⟨hc_8, hf⟩ | ⟨hc_8, hf⟩
        · refine zr_if_lt_t (tgt := 71) h d_M_extents_53 rfl hc_8 ?_
          refine zr_sub [1] rfl ?_
          exact z_M_extents_71 h hE G_5 hf
        · refine zr_if_lt_f h 71 d_M_extents_53 rfl rfl hc_8 ?_
          refine zr_aload_n h d_M_extents_56 rfl rfl 1 rfl ?_
          refine zr_getR h d_M_extents_57 rfl fl_M_13 sh_32 rfl ?_
          refine zr_iload_n h d_M_extents_60 rfl rfl 3 rfl ?_
          obtain ⟨hb_9, hf⟩ := zx_gd_some hf
          refine zr_iald h d_M_extents_61 rfl sh_34 hb_9 ?_
          refine zr_aload_n h d_M_extents_62 rfl rfl 1 rfl ?_
          refine zr_getR h d_M_extents_63 rfl fl_M_16 sh_32 rfl ?_
          refine zr_iload_n h d_M_extents_66 rfl rfl 3 rfl ?_
          obtain ⟨hb_10, hf⟩ := zx_gd_some hf
          refine zr_iald h d_M_extents_67 rfl sh_35 hb_10 ?_
          rcases zx_if_some hf with ⟨hc_11, hf⟩ | ⟨hc_11, hf⟩
          · refine zr_icmp_lt_t (tgt := 77) h d_M_extents_68 rfl hc_11 ?_
            refine zr_aload_n h d_M_extents_77 rfl rfl 1 rfl ?_
            refine zr_getR h d_M_extents_78 rfl fl_M_7 sh_32 rfl ?_
            refine zr_aload_n h d_M_extents_81 rfl rfl 1 rfl ?_
            refine zr_getR h d_M_extents_82 rfl fl_M_13 sh_32 rfl ?_
            refine zr_iload_n h d_M_extents_85 rfl rfl 3 rfl ?_
            obtain ⟨hb_12, hf⟩ := zx_gd_some hf
            refine zr_iald h d_M_extents_86 rfl sh_34 hb_12 ?_
            obtain ⟨hb_13, hf⟩ := zx_gd_some hf
            refine zr_iald h d_M_extents_87 rfl sh_33 hb_13 ?_
            obtain ⟨x5_14, ex5_14, hf⟩ := zx_lt_some hf
            refine zr_istore h d_M_extents_88 rfl (by decide) ex5_14 rfl ?_
            refine zr_aload_n h d_M_extents_90 rfl rfl 2 rfl ?_
            refine zr_aload_n h d_M_extents_91 rfl rfl 2 rfl ?_
            refine zr_getR h d_M_extents_92 rfl fl_M_13 sh_32 rfl ?_
            refine zr_iload h d_M_extents_95 rfl 1 rfl ?_
            obtain ⟨hb_15, hf⟩ := zx_gd_some hf
            refine zr_iald h d_M_extents_97 rfl sh_34 hb_15 ?_
            obtain ⟨G_16, eG_16, hf⟩ := zx_lt_some hf
            refine zr_putI h d_M_extents_98 rfl fl_M_123 pl_M_11 sh_32 rfl rfl rfl eG_16 ?_
            refine zr_aload_n h d_M_extents_101 rfl rfl 2 rfl ?_
            refine zr_aload_n h d_M_extents_102 rfl rfl 2 rfl ?_
            refine zr_getR h d_M_extents_103 rfl fl_M_16 sh_32 rfl ?_
            refine zr_iload h d_M_extents_106 rfl 1 rfl ?_
            obtain ⟨hb_17, hf⟩ := zx_gd_some hf
            refine zr_iald h d_M_extents_108 rfl sh_35 hb_17 ?_
            obtain ⟨G_18, eG_18, hf⟩ := zx_lt_some hf
            refine zr_putI h d_M_extents_109 rfl fl_M_126 pl_M_12 sh_32 rfl rfl rfl eG_18 ?_
            refine zr_aload_n h d_M_extents_112 rfl rfl 2 rfl ?_
            refine zr_iconst (v := (0 : Int32)) h d_M_extents_113 rfl (by decide) ?_
            obtain ⟨G_19, eG_19, hf⟩ := zx_lt_some hf
            refine zr_putI h d_M_extents_114 rfl fl_M_129 pl_M_8 sh_32 rfl rfl rfl eG_19 ?_
            refine zr_aload_n h d_M_extents_117 rfl rfl 2 rfl ?_
            obtain ⟨r_21, G_20, hq_22, hf⟩ := zx_bd_some hf
            refine zr_callVI (As := []) (b := 32) h (c_M_take _ _ _ _ _ G_19 r_21 G_20 hq_22) cc_M_132 d_M_extents_118 rfl rfl rfl sh_32 ⟨rfl, rfl, by decide, by decide⟩ (Nat.le_of_ble_eq_true rfl) ?_
            obtain ⟨x6_23, ex6_23, hf⟩ := zx_lt_some hf
            refine zr_istore h d_M_extents_121 rfl (by decide) ex6_23 rfl ?_
            refine zr_iconst (v := (0 : Int32)) h d_M_extents_123 rfl (by decide) ?_
            obtain ⟨x7_24, ex7_24, hf⟩ := zx_lt_some hf
            refine zr_istore h d_M_extents_124 rfl (by decide) ex7_24 rfl ?_
            refine zr_iconst (v := (0 : Int32)) h d_M_extents_126 rfl (by decide) ?_
            obtain ⟨x8_25, ex8_25, hf⟩ := zx_lt_some hf
            refine zr_istore h d_M_extents_127 rfl (by decide) ex8_25 rfl ?_
            refine zr_sub [5, 3, 2, 1, 0] rfl ?_
            exact z_M_extents_129 h hE 2048 x5_14 x6_23 x7_24 x8_25 G_20 hf
          · refine zr_icmp_lt_f h 77 d_M_extents_68 rfl rfl hc_11 ?_
            refine zr_sub [1] rfl ?_
            exact z_M_extents_71 h hE G_5 hf
set_option maxRecDepth 100000 in
set_option maxHeartbeats 4000000 in
theorem z_M_extents_15 {κ : zx_K} {ad : Nat → Nat} {r : Int32} {G1 : zx_G} (h : zx_C M_M_extents κ ad) (hE : zx_E M_M_extents κ ad r G1) (x1 x2 s0 : Int32) (G : zx_G) (hf : f_M_extents_15 x1 x2 s0 G = some (r, G1)) : zx_Z κ ad 15 [(0, .ref (ad 32)), (1, .int x1), (2, .int x2)] [.int s0] G := by
  unfold f_M_extents_15 at hf
  obtain ⟨x3_1, ex3_1, hf⟩ := zx_lt_some hf
  refine zr_istore_n h d_M_extents_15 rfl rfl (by decide) ex3_1 rfl ?_
  refine zr_iload_n h d_M_extents_16 rfl rfl 2 rfl ?_
  rcases zx_if_some hf with ⟨hc_2, hf⟩ | ⟨hc_2, hf⟩
  · refine zr_if_lt_t (tgt := 30) h d_M_extents_17 rfl hc_2 ?_
    refine zr_iconst (v := (-1 : Int32)) h d_M_extents_30 rfl (by decide) ?_
    refine zr_sub [1, 3, 0] rfl ?_
    exact z_M_extents_31 h hE x2 x3_1 (-1 : Int32) G hf
  · refine zr_if_lt_f h 30 d_M_extents_17 rfl rfl hc_2 ?_
    refine zr_aload_n h d_M_extents_20 rfl rfl 1 rfl ?_
    refine zr_iload_n h d_M_extents_21 rfl rfl 2 rfl ?_
    refine zr_bipush (v := (108 : Int32)) h d_M_extents_22 rfl (by decide) ?_
    obtain ⟨r_4, G_3, hq_5, hf⟩ := zx_bd_some hf
    refine zr_callVI (As := [.int x1, .int (108 : Int32)]) (b := 32) h (c_M_child _ _ _ _ _ x1 (108 : Int32) G r_4 G_3 hq_5) cc_M_87 d_M_extents_24 rfl rfl rfl sh_32 ⟨rfl, rfl, by decide, by decide⟩ (Nat.le_of_ble_eq_true rfl) ?_
    refine zr_goto (tgt := 31) h d_M_extents_27 rfl ?_
    refine zr_sub [1, 3, 0] rfl ?_
    exact z_M_extents_31 h hE x2 x3_1 r_4 G_3 hf
set_option maxRecDepth 100000 in
set_option maxHeartbeats 4000000 in
theorem z_M_extents_0 {κ : zx_K} {ad : Nat → Nat} {r : Int32} {G1 : zx_G} (h : zx_C M_M_extents κ ad) (hE : zx_E M_M_extents κ ad r G1) (x1 x2 : Int32) (G : zx_G) (hf : f_M_extents x1 x2 G = some (r, G1)) : zx_Z κ ad 0 [(0, .ref (ad 32)), (1, .int x1), (2, .int x2)] [] G := by
  unfold f_M_extents at hf
  refine zr_iload_n h d_M_extents_0 rfl rfl 1 rfl ?_
  rcases zx_if_some hf with ⟨hc_1, hf⟩ | ⟨hc_1, hf⟩
  · refine zr_if_lt_t (tgt := 14) h d_M_extents_1 rfl hc_1 ?_
    refine zr_iconst (v := (-1 : Int32)) h d_M_extents_14 rfl (by decide) ?_
    exact z_M_extents_15 h hE x1 x2 (-1 : Int32) G hf
  · refine zr_if_lt_f h 14 d_M_extents_1 rfl rfl hc_1 ?_
    refine zr_aload_n h d_M_extents_4 rfl rfl 0 rfl ?_
    refine zr_iload_n h d_M_extents_5 rfl rfl 1 rfl ?_
    refine zr_bipush (v := (112 : Int32)) h d_M_extents_6 rfl (by decide) ?_
    obtain ⟨r_3, G_2, hq_4, hf⟩ := zx_bd_some hf
    refine zr_callVI (As := [.int x1, .int (112 : Int32)]) (b := 32) h (c_M_child _ _ _ _ _ x1 (112 : Int32) G r_3 G_2 hq_4) cc_M_87 d_M_extents_8 rfl rfl rfl sh_32 ⟨rfl, rfl, by decide, by decide⟩ (Nat.le_of_ble_eq_true rfl) ?_
    refine zr_goto (tgt := 15) h d_M_extents_11 rfl ?_
    exact z_M_extents_15 h hE x1 x2 r_3 G_2 hf
theorem c_M_extents (l : Launch) (D : va_G) (cA : ClassId) (ad : Nat → Nat) (A : Nat → Prop) (x1 x2 : Int32) (G : zx_G) (r : Int32) (G1 : zx_G) (hf : f_M_extents x1 x2 G = some (r, G1)) : zx_met l y_M_extents M_M_extents [.ref (ad 32), .int x1, .int x2] D cA ad A G r G1 :=
  zx_toMet (by decide) rfl (Nat.le_of_ble_eq_true rfl) (fun κ h hE => by exact z_M_extents_0 h hE x1 x2 G hf)
