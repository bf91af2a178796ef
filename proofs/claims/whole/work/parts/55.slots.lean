/-! the same by slots; written by a program -/
abbrev A_P_start : List Nat := []
abbrev O_P_start : List (Nat × Nat) := [(17, 3), (17, 4)]
theorem v_P_start_0 {r : Int32} {G1 : zx_G} (x1 : Int32) (G : zx_G) (hf : f_P_start x1 G = some (r, G1)) : ∀ q k, q ∉ A_P_start → (q, k) ∉ O_P_start → G1 q k = G q k := by
  unfold f_P_start at hf
  have hg : ∀ q k, q ∉ A_P_start → (q, k) ∉ O_P_start → G q k = G q k := fun _ _ _ _ => rfl
  obtain ⟨G_1, eG_1, hf⟩ := zx_lt_some hf
  have hg := zv_uo hg eG_1 (by decide)
  obtain ⟨G_2, eG_2, hf⟩ := zx_lt_some hf
  have hg := zv_uo hg eG_2 (by decide)
  exact zv_ret hg hf
theorem v_P_start (x1 : Int32) (G : zx_G) {r : Int32} {G1 : zx_G} (hf : f_P_start x1 G = some (r, G1)) : ∀ q k, q ∉ A_P_start → (q, k) ∉ O_P_start → G1 q k = G q k := v_P_start_0 x1 G hf
abbrev A_T_read : List Nat := [15, 16, 18, 19, 20, 22, 24, 25, 27, 28, 29]
abbrev O_T_read : List (Nat × Nat) := [(14, 3), (14, 4), (14, 5), (14, 6), (14, 7), (14, 8), (14, 9), (17, 3), (17, 4), (26, 4), (26, 5)]
theorem v_T_read_171 {r : Int32} {G1 : zx_G} {k46 : Int32 → Int32 → zx_G → Option (Int32 × zx_G)} (hk46 : ∀ (x1 x2 : Int32) (G : zx_G), k46 x1 x2 G = some (r, G1) → ∀ q k, q ∉ A_T_read → (q, k) ∉ O_T_read → G1 q k = G q k) (x1 x2 : Int32) (G : zx_G) (hf : f_T_read_171 k46 x1 x2 G = some (r, G1)) : ∀ q k, q ∉ A_T_read → (q, k) ∉ O_T_read → G1 q k = G q k := by
  unfold f_T_read_171 at hf
  have hg : ∀ q k, q ∉ A_T_read → (q, k) ∉ O_T_read → G q k = G q k := fun _ _ _ _ => rfl
  obtain ⟨x2_1, ex2_1, hf⟩ := zx_lt_some hf
  exact zv_tr hg (hk46 x1 x2_1 G hf)
theorem v_T_read_136 {r : Int32} {G1 : zx_G} {k46 : Int32 → Int32 → zx_G → Option (Int32 × zx_G)} (hk46 : ∀ (x1 x2 : Int32) (G : zx_G), k46 x1 x2 G = some (r, G1) → ∀ q k, q ∉ A_T_read → (q, k) ∉ O_T_read → G1 q k = G q k) : ∀ (n : Nat) (x1 x2 x3 x4 x6 x7 : Int32) (G : zx_G), f_T_read_136 k46 n x1 x2 x3 x4 x6 x7 G = some (r, G1) → ∀ q k, q ∉ A_T_read → (q, k) ∉ O_T_read → G1 q k = G q k := by
  intro n
  induction n with
  | zero => intro x1 x2 x3 x4 x6 x7 G hf; cases hf
  | succ n ih =>
    intro x1 x2 x3 x4 x6 x7 G hf
    unfold f_T_read_136 at hf
    have hg : ∀ q k, q ∉ A_T_read → (q, k) ∉ O_T_read → G q k = G q k := fun _ _ _ _ => rfl
    rcases zx_if_some hf with ⟨hc_1, hf⟩ | ⟨hc_1, hf⟩
    · skip
      exact zv_tr hg (v_T_read_171 hk46 x1 x2 G hf)
    · skip
      obtain ⟨r_3, G_2, hq_4, hf⟩ := zx_bd_some hf
      have hg := zv_call hg (v_T_readUnits x7 x3 x4 x6 G hq_4) (by decide) (by decide)
      rcases zx_if_some hf with ⟨hc_5, hf⟩ | ⟨hc_5, hf⟩
      · skip
        obtain ⟨x7_6, ex7_6, hf⟩ := zx_lt_some hf
        exact zv_tr hg (ih x1 x2 x3 x4 x6 x7_6 G_2 hf)
      · skip
        exact zv_ret hg hf
theorem v_T_read_46 {r : Int32} {G1 : zx_G} : ∀ (n : Nat) (x1 x2 : Int32) (G : zx_G), f_T_read_46 n x1 x2 G = some (r, G1) → ∀ q k, q ∉ A_T_read → (q, k) ∉ O_T_read → G1 q k = G q k := by
  intro n
  induction n with
  | zero => intro x1 x2 G hf; cases hf
  | succ n ih =>
    intro x1 x2 G hf
    unfold f_T_read_46 at hf
    have hg : ∀ q k, q ∉ A_T_read → (q, k) ∉ O_T_read → G q k = G q k := fun _ _ _ _ => rfl
    rcases zx_if_some hf with ⟨hc_1, hf⟩ | ⟨hc_1, hf⟩
    · skip
      exact zv_ret hg hf
    · skip
      obtain ⟨x3_2, ex3_2, hf⟩ := zx_lt_some hf
      obtain ⟨x4_3, ex4_3, hf⟩ := zx_lt_some hf
      rcases zx_if_some hf with ⟨hc_4, hf⟩ | ⟨hc_4, hf⟩
      · skip
        exact zv_tr hg (v_T_read_171 ih x1 x2 G hf)
      · skip
        rcases zx_if_some hf with ⟨hc_5, hf⟩ | ⟨hc_5, hf⟩
        · skip
          exact zv_tr hg (v_T_read_171 ih x1 x2 G hf)
        · skip
          rcases zx_if_some hf with ⟨hc_6, hf⟩ | ⟨hc_6, hf⟩
          · skip
            exact zv_tr hg (v_T_read_171 ih x1 x2 G hf)
          · skip
            obtain ⟨r_8, G_7, hq_9, hf⟩ := zx_bd_some hf
            have hg := zv_call hg (v_T_readSide x2 G hq_9) (by decide) (by decide)
            obtain ⟨x5_10, ex5_10, hf⟩ := zx_lt_some hf
            obtain ⟨hb_11, hf⟩ := zx_gd_some hf
            obtain ⟨x1_12, ex1_12, hf⟩ := zx_lt_some hf
            obtain ⟨r_14, G_13, hq_15, hf⟩ := zx_bd_some hf
            have hg := zv_call hg (v_T_readBlock x3_2 x4_3 x5_10 G_7 hq_15) (by decide) (by decide)
            obtain ⟨x6_16, ex6_16, hf⟩ := zx_lt_some hf
            obtain ⟨x7_17, ex7_17, hf⟩ := zx_lt_some hf
            exact zv_tr hg (v_T_read_136 ih 2048 x1_12 x2 x3_2 x4_3 x6_16 x7_17 G_13 hf)
theorem v_T_read_0 {r : Int32} {G1 : zx_G} (G : zx_G) (hf : f_T_read G = some (r, G1)) : ∀ q k, q ∉ A_T_read → (q, k) ∉ O_T_read → G1 q k = G q k := by
  unfold f_T_read at hf
  have hg : ∀ q k, q ∉ A_T_read → (q, k) ∉ O_T_read → G q k = G q k := fun _ _ _ _ => rfl
  obtain ⟨r_2, G_1, hq_3, hf⟩ := zx_bd_some hf
  have hg := zv_call hg (v_C_start (G 11 14) (G 11 15) (G 11 11) G hq_3) (by decide) (by decide)
  obtain ⟨r_5, G_4, hq_6, hf⟩ := zx_bd_some hf
  have hg := zv_call hg (v_P_start (G_1 11 9) G_1 hq_6) (by decide) (by decide)
  obtain ⟨x1_7, ex1_7, hf⟩ := zx_lt_some hf
  obtain ⟨x2_8, ex2_8, hf⟩ := zx_lt_some hf
  exact zv_tr hg (v_T_read_46 2048 x1_7 x2_8 G_4 hf)
theorem v_T_read (G : zx_G) {r : Int32} {G1 : zx_G} (hf : f_T_read G = some (r, G1)) : ∀ q k, q ∉ A_T_read → (q, k) ∉ O_T_read → G1 q k = G q k := v_T_read_0 G hf
abbrev A_U_skip_12 : List Nat := []
abbrev O_U_skip_12 : List (Nat × Nat) := [(12, 1)]
theorem v_U_skip_12_17 {r : Int32} {G1 : zx_G} (G : zx_G) (hf : f_U_skip_12_17 G = some (r, G1)) : ∀ q k, q ∉ A_U_skip_12 → (q, k) ∉ O_U_skip_12 → G1 q k = G q k := by
  unfold f_U_skip_12_17 at hf
  have hg : ∀ q k, q ∉ A_U_skip_12 → (q, k) ∉ O_U_skip_12 → G q k = G q k := fun _ _ _ _ => rfl
  obtain ⟨hb_1, hf⟩ := zx_gd_some hf
  exact zv_ret hg hf
theorem v_U_skip_12_0 {r : Int32} {G1 : zx_G} (x1 : Int32) (G : zx_G) (hf : f_U_skip_12 x1 G = some (r, G1)) : ∀ q k, q ∉ A_U_skip_12 → (q, k) ∉ O_U_skip_12 → G1 q k = G q k := by
  unfold f_U_skip_12 at hf
  have hg : ∀ q k, q ∉ A_U_skip_12 → (q, k) ∉ O_U_skip_12 → G q k = G q k := fun _ _ _ _ => rfl
  rcases zx_if_some hf with ⟨hc_1, hf⟩ | ⟨hc_1, hf⟩
  · skip
    exact zv_tr hg (v_U_skip_12_17 G hf)
  · skip
    rcases zx_if_some hf with ⟨hc_2, hf⟩ | ⟨hc_2, hf⟩
    · skip
      obtain ⟨G_3, eG_3, hf⟩ := zx_lt_some hf
      have hg := zv_uo hg eG_3 (by decide)
      obtain ⟨hb_4, hf⟩ := zx_gd_some hf
      exact zv_ret hg hf
    · skip
      exact zv_tr hg (v_U_skip_12_17 G hf)
theorem v_U_skip_12 (x1 : Int32) (G : zx_G) {r : Int32} {G1 : zx_G} (hf : f_U_skip_12 x1 G = some (r, G1)) : ∀ q k, q ∉ A_U_skip_12 → (q, k) ∉ O_U_skip_12 → G1 q k = G q k := v_U_skip_12_0 x1 G hf
abbrev A_U_open_13 : List Nat := []
abbrev O_U_open_13 : List (Nat × Nat) := [(13, 1), (13, 2), (13, 3)]
theorem v_U_open_13_0 {r : Int32} {G1 : zx_G} (x1 x2 : Int32) (G : zx_G) (hf : f_U_open_13 x1 x2 G = some (r, G1)) : ∀ q k, q ∉ A_U_open_13 → (q, k) ∉ O_U_open_13 → G1 q k = G q k := by
  unfold f_U_open_13 at hf
  have hg : ∀ q k, q ∉ A_U_open_13 → (q, k) ∉ O_U_open_13 → G q k = G q k := fun _ _ _ _ => rfl
  obtain ⟨G_1, eG_1, hf⟩ := zx_lt_some hf
  have hg := zv_uo hg eG_1 (by decide)
  obtain ⟨G_2, eG_2, hf⟩ := zx_lt_some hf
  have hg := zv_uo hg eG_2 (by decide)
  obtain ⟨G_3, eG_3, hf⟩ := zx_lt_some hf
  have hg := zv_uo hg eG_3 (by decide)
  exact zv_ret hg hf
theorem v_U_open_13 (x1 x2 : Int32) (G : zx_G) {r : Int32} {G1 : zx_G} (hf : f_U_open_13 x1 x2 G = some (r, G1)) : ∀ q k, q ∉ A_U_open_13 → (q, k) ∉ O_U_open_13 → G1 q k = G q k := v_U_open_13_0 x1 x2 G hf
abbrev A_U_skipRestOfByte_13 : List Nat := []
abbrev O_U_skipRestOfByte_13 : List (Nat × Nat) := [(13, 1), (13, 3)]
theorem v_U_skipRestOfByte_13_22 {r : Int32} {G1 : zx_G} (G : zx_G) (hf : f_U_skipRestOfByte_13_22 G = some (r, G1)) : ∀ q k, q ∉ A_U_skipRestOfByte_13 → (q, k) ∉ O_U_skipRestOfByte_13 → G1 q k = G q k := by
  unfold f_U_skipRestOfByte_13_22 at hf
  have hg : ∀ q k, q ∉ A_U_skipRestOfByte_13 → (q, k) ∉ O_U_skipRestOfByte_13 → G q k = G q k := fun _ _ _ _ => rfl
  exact zv_ret hg hf
theorem v_U_skipRestOfByte_13_0 {r : Int32} {G1 : zx_G} (G : zx_G) (hf : f_U_skipRestOfByte_13 G = some (r, G1)) : ∀ q k, q ∉ A_U_skipRestOfByte_13 → (q, k) ∉ O_U_skipRestOfByte_13 → G1 q k = G q k := by
  unfold f_U_skipRestOfByte_13 at hf
  have hg : ∀ q k, q ∉ A_U_skipRestOfByte_13 → (q, k) ∉ O_U_skipRestOfByte_13 → G q k = G q k := fun _ _ _ _ => rfl
  rcases zx_if_some hf with ⟨hc_1, hf⟩ | ⟨hc_1, hf⟩
  · skip
    exact zv_tr hg (v_U_skipRestOfByte_13_22 G hf)
  · skip
    obtain ⟨G_2, eG_2, hf⟩ := zx_lt_some hf
    have hg := zv_uo hg eG_2 (by decide)
    obtain ⟨G_3, eG_3, hf⟩ := zx_lt_some hf
    have hg := zv_uo hg eG_3 (by decide)
    exact zv_tr hg (v_U_skipRestOfByte_13_22 G_3 hf)
theorem v_U_skipRestOfByte_13 (G : zx_G) {r : Int32} {G1 : zx_G} (hf : f_U_skipRestOfByte_13 G = some (r, G1)) : ∀ q k, q ∉ A_U_skipRestOfByte_13 → (q, k) ∉ O_U_skipRestOfByte_13 → G1 q k = G q k := v_U_skipRestOfByte_13_0 G hf
abbrev A_U_nextBits_13 : List Nat := []
abbrev O_U_nextBits_13 : List (Nat × Nat) := [(13, 1), (13, 3)]
theorem v_U_nextBits_13_80 {r : Int32} {G1 : zx_G} {k4 : Int32 → Int32 → Int32 → zx_G → Option (Int32 × zx_G)} (hk4 : ∀ (x1 x2 x3 : Int32) (G : zx_G), k4 x1 x2 x3 G = some (r, G1) → ∀ q k, q ∉ A_U_nextBits_13 → (q, k) ∉ O_U_nextBits_13 → G1 q k = G q k) (x1 x2 x3 : Int32) (G : zx_G) (hf : f_U_nextBits_13_80 k4 x1 x2 x3 G = some (r, G1)) : ∀ q k, q ∉ A_U_nextBits_13 → (q, k) ∉ O_U_nextBits_13 → G1 q k = G q k := by
  unfold f_U_nextBits_13_80 at hf
  have hg : ∀ q k, q ∉ A_U_nextBits_13 → (q, k) ∉ O_U_nextBits_13 → G q k = G q k := fun _ _ _ _ => rfl
  obtain ⟨x3_1, ex3_1, hf⟩ := zx_lt_some hf
  exact zv_tr hg (hk4 x1 x2 x3_1 G hf)
theorem v_U_nextBits_13_4 {r : Int32} {G1 : zx_G} : ∀ (n : Nat) (x1 x2 x3 : Int32) (G : zx_G), f_U_nextBits_13_4 n x1 x2 x3 G = some (r, G1) → ∀ q k, q ∉ A_U_nextBits_13 → (q, k) ∉ O_U_nextBits_13 → G1 q k = G q k := by
  intro n
  induction n with
  | zero => intro x1 x2 x3 G hf; cases hf
  | succ n ih =>
    intro x1 x2 x3 G hf
    unfold f_U_nextBits_13_4 at hf
    have hg : ∀ q k, q ∉ A_U_nextBits_13 → (q, k) ∉ O_U_nextBits_13 → G q k = G q k := fun _ _ _ _ => rfl
    rcases zx_if_some hf with ⟨hc_1, hf⟩ | ⟨hc_1, hf⟩
    · skip
      exact zv_ret hg hf
    · skip
      rcases zx_if_some hf with ⟨hc_2, hf⟩ | ⟨hc_2, hf⟩
      · skip
        obtain ⟨hb_3, hf⟩ := zx_gd_some hf
        obtain ⟨x2_4, ex2_4, hf⟩ := zx_lt_some hf
        obtain ⟨G_5, eG_5, hf⟩ := zx_lt_some hf
        have hg := zv_uo hg eG_5 (by decide)
        rcases zx_if_some hf with ⟨hc_6, hf⟩ | ⟨hc_6, hf⟩
        · skip
          exact zv_tr hg (v_U_nextBits_13_80 ih x1 x2_4 x3 G_5 hf)
        · skip
          obtain ⟨G_7, eG_7, hf⟩ := zx_lt_some hf
          have hg := zv_uo hg eG_7 (by decide)
          obtain ⟨G_8, eG_8, hf⟩ := zx_lt_some hf
          have hg := zv_uo hg eG_8 (by decide)
          exact zv_tr hg (v_U_nextBits_13_80 ih x1 x2_4 x3 G_8 hf)
      · skip
        exact zv_ret hg hf
theorem v_U_nextBits_13_0 {r : Int32} {G1 : zx_G} (x1 : Int32) (G : zx_G) (hf : f_U_nextBits_13 x1 G = some (r, G1)) : ∀ q k, q ∉ A_U_nextBits_13 → (q, k) ∉ O_U_nextBits_13 → G1 q k = G q k := by
  unfold f_U_nextBits_13 at hf
  have hg : ∀ q k, q ∉ A_U_nextBits_13 → (q, k) ∉ O_U_nextBits_13 → G q k = G q k := fun _ _ _ _ => rfl
  obtain ⟨x2_1, ex2_1, hf⟩ := zx_lt_some hf
  obtain ⟨x3_2, ex3_2, hf⟩ := zx_lt_some hf
  exact zv_tr hg (v_U_nextBits_13_4 2048 x1 x2_1 x3_2 G hf)
theorem v_U_nextBits_13 (x1 : Int32) (G : zx_G) {r : Int32} {G1 : zx_G} (hf : f_U_nextBits_13 x1 G = some (r, G1)) : ∀ q k, q ∉ A_U_nextBits_13 → (q, k) ∉ O_U_nextBits_13 → G1 q k = G q k := v_U_nextBits_13_0 x1 G hf
abbrev A_H_readFrame : List Nat := []
abbrev O_H_readFrame : List (Nat × Nat) := [(11, 4), (11, 10), (11, 11), (11, 12), (11, 13), (11, 14), (11, 15), (13, 1), (13, 3)]
theorem v_H_readFrame_23 {r : Int32} {G1 : zx_G} (s0 : Int32) (G : zx_G) (hf : f_H_readFrame_23 s0 G = some (r, G1)) : ∀ q k, q ∉ A_H_readFrame → (q, k) ∉ O_H_readFrame → G1 q k = G q k := by
  unfold f_H_readFrame_23 at hf
  have hg : ∀ q k, q ∉ A_H_readFrame → (q, k) ∉ O_H_readFrame → G q k = G q k := fun _ _ _ _ => rfl
  exact zv_ret hg hf
theorem v_H_readFrame_47 {r : Int32} {G1 : zx_G} (s0 : Int32) (G : zx_G) (hf : f_H_readFrame_47 s0 G = some (r, G1)) : ∀ q k, q ∉ A_H_readFrame → (q, k) ∉ O_H_readFrame → G1 q k = G q k := by
  unfold f_H_readFrame_47 at hf
  have hg : ∀ q k, q ∉ A_H_readFrame → (q, k) ∉ O_H_readFrame → G q k = G q k := fun _ _ _ _ => rfl
  exact zv_ret hg hf
theorem v_H_readFrame_138 {r : Int32} {G1 : zx_G} (G : zx_G) (hf : f_H_readFrame_138 G = some (r, G1)) : ∀ q k, q ∉ A_H_readFrame → (q, k) ∉ O_H_readFrame → G1 q k = G q k := by
  unfold f_H_readFrame_138 at hf
  have hg : ∀ q k, q ∉ A_H_readFrame → (q, k) ∉ O_H_readFrame → G q k = G q k := fun _ _ _ _ => rfl
  exact zv_ret hg hf
theorem v_H_readFrame_114 {r : Int32} {G1 : zx_G} (s1 : Int32) (G : zx_G) (hf : f_H_readFrame_114 s1 G = some (r, G1)) : ∀ q k, q ∉ A_H_readFrame → (q, k) ∉ O_H_readFrame → G1 q k = G q k := by
  unfold f_H_readFrame_114 at hf
  have hg : ∀ q k, q ∉ A_H_readFrame → (q, k) ∉ O_H_readFrame → G q k = G q k := fun _ _ _ _ => rfl
  obtain ⟨G_1, eG_1, hf⟩ := zx_lt_some hf
  have hg := zv_uo hg eG_1 (by decide)
  rcases zx_if_some hf with ⟨hc_2, hf⟩ | ⟨hc_2, hf⟩
  · skip
    exact zv_tr hg (v_H_readFrame_138 G_1 hf)
  · skip
    rcases zx_if_some hf with ⟨hc_3, hf⟩ | ⟨hc_3, hf⟩
    · skip
      exact zv_tr hg (v_H_readFrame_138 G_1 hf)
    · skip
      rcases zx_if_some hf with ⟨hc_4, hf⟩ | ⟨hc_4, hf⟩
      · skip
        obtain ⟨r_6, G_5, hq_7, hf⟩ := zx_bd_some hf
        have hg := zv_call hg (v_U_skipRestOfByte_13 G_1 hq_7) (by decide) (by decide)
        obtain ⟨G_8, eG_8, hf⟩ := zx_lt_some hf
        have hg := zv_uo hg eG_8 (by decide)
        obtain ⟨G_9, eG_9, hf⟩ := zx_lt_some hf
        have hg := zv_uo hg eG_9 (by decide)
        obtain ⟨hb_10, hf⟩ := zx_gd_some hf
        obtain ⟨G_11, eG_11, hf⟩ := zx_lt_some hf
        have hg := zv_uo hg eG_11 (by decide)
        exact zv_ret hg hf
      · skip
        exact zv_tr hg (v_H_readFrame_138 G_1 hf)
theorem v_H_readFrame_79 {r : Int32} {G1 : zx_G} (s1 : Int32) (G : zx_G) (hf : f_H_readFrame_79 s1 G = some (r, G1)) : ∀ q k, q ∉ A_H_readFrame → (q, k) ∉ O_H_readFrame → G1 q k = G q k := by
  unfold f_H_readFrame_79 at hf
  have hg : ∀ q k, q ∉ A_H_readFrame → (q, k) ∉ O_H_readFrame → G q k = G q k := fun _ _ _ _ => rfl
  obtain ⟨hb_1, hf⟩ := zx_gd_some hf
  obtain ⟨G_2, eG_2, hf⟩ := zx_lt_some hf
  have hg := zv_uo hg eG_2 (by decide)
  obtain ⟨r_4, G_3, hq_5, hf⟩ := zx_bd_some hf
  have hg := zv_call hg (v_U_nextBits_13 (3 : Int32) G_2 hq_5) (by decide) (by decide)
  obtain ⟨G_6, eG_6, hf⟩ := zx_lt_some hf
  have hg := zv_uo hg eG_6 (by decide)
  rcases zx_if_some hf with ⟨hc_7, hf⟩ | ⟨hc_7, hf⟩
  · skip
    exact zv_tr hg (v_H_readFrame_114 (0 : Int32) G_6 hf)
  · skip
    obtain ⟨r_9, G_8, hq_10, hf⟩ := zx_bd_some hf
    have hg := zv_call hg (v_U_nextBits_13 (2 : Int32) G_6 hq_10) (by decide) (by decide)
    exact zv_tr hg (v_H_readFrame_114 r_9 G_8 hf)
theorem v_H_readFrame_0 {r : Int32} {G1 : zx_G} (G : zx_G) (hf : f_H_readFrame G = some (r, G1)) : ∀ q k, q ∉ A_H_readFrame → (q, k) ∉ O_H_readFrame → G1 q k = G q k := by
  unfold f_H_readFrame at hf
  have hg : ∀ q k, q ∉ A_H_readFrame → (q, k) ∉ O_H_readFrame → G q k = G q k := fun _ _ _ _ => rfl
  obtain ⟨r_2, G_1, hq_3, hf⟩ := zx_bd_some hf
  have hg := zv_call hg (v_U_nextBits_13 (2 : Int32) G hq_3) (by decide) (by decide)
  obtain ⟨x1_4, ex1_4, hf⟩ := zx_lt_some hf
  rcases zx_if_some hf with ⟨hc_5, hf⟩ | ⟨hc_5, hf⟩
  · skip
    obtain ⟨r_7, G_6, hq_8, hf⟩ := zx_bd_some hf
    have hg := zv_call hg (v_U_nextBits_13 (1 : Int32) G_1 hq_8) (by decide) (by decide)
    obtain ⟨x2_9, ex2_9, hf⟩ := zx_lt_some hf
    rcases zx_if_some hf with ⟨hc_10, hf⟩ | ⟨hc_10, hf⟩
    · skip
      obtain ⟨r_12, G_11, hq_13, hf⟩ := zx_bd_some hf
      have hg := zv_call hg (v_U_nextBits_13 (6 : Int32) G_6 hq_13) (by decide) (by decide)
      obtain ⟨G_14, eG_14, hf⟩ := zx_lt_some hf
      have hg := zv_uo hg eG_14 (by decide)
      obtain ⟨r_16, G_15, hq_17, hf⟩ := zx_bd_some hf
      have hg := zv_call hg (v_U_nextBits_13 (1 : Int32) G_14 hq_17) (by decide) (by decide)
      rcases zx_if_some hf with ⟨hc_18, hf⟩ | ⟨hc_18, hf⟩
      · skip
        exact zv_tr hg (v_H_readFrame_79 (0 : Int32) G_15 hf)
      · skip
        exact zv_tr hg (v_H_readFrame_79 (1 : Int32) G_15 hf)
    · skip
      rcases zx_if_some hf with ⟨hc_19, hf⟩ | ⟨hc_19, hf⟩
      · skip
        exact zv_tr hg (v_H_readFrame_47 (5 : Int32) G_6 hf)
      · skip
        exact zv_tr hg (v_H_readFrame_47 (7 : Int32) G_6 hf)
  · skip
    rcases zx_if_some hf with ⟨hc_20, hf⟩ | ⟨hc_20, hf⟩
    · skip
      exact zv_tr hg (v_H_readFrame_23 (5 : Int32) G_1 hf)
    · skip
      exact zv_tr hg (v_H_readFrame_23 (7 : Int32) G_1 hf)
theorem v_H_readFrame (G : zx_G) {r : Int32} {G1 : zx_G} (hf : f_H_readFrame G = some (r, G1)) : ∀ q k, q ∉ A_H_readFrame → (q, k) ∉ O_H_readFrame → G1 q k = G q k := v_H_readFrame_0 G hf
abbrev A_I_agrees : List Nat := []
abbrev O_I_agrees : List (Nat × Nat) := []
theorem v_I_agrees_38 {r : Int32} {G1 : zx_G} (G : zx_G) (hf : f_I_agrees_38 G = some (r, G1)) : ∀ q k, q ∉ A_I_agrees → (q, k) ∉ O_I_agrees → G1 q k = G q k := by
  unfold f_I_agrees_38 at hf
  have hg : ∀ q k, q ∉ A_I_agrees → (q, k) ∉ O_I_agrees → G q k = G q k := fun _ _ _ _ => rfl
  obtain ⟨hb_1, hf⟩ := zx_gd_some hf
  exact zv_ret hg hf
theorem v_I_agrees_104 {r : Int32} {G1 : zx_G} : ∀ (n : Nat) (x4 x5 x7 x8 : Int32) (G : zx_G), f_I_agrees_104 n x4 x5 x7 x8 G = some (r, G1) → ∀ q k, q ∉ A_I_agrees → (q, k) ∉ O_I_agrees → G1 q k = G q k := by
  intro n
  induction n with
  | zero => intro x4 x5 x7 x8 G hf; cases hf
  | succ n ih =>
    intro x4 x5 x7 x8 G hf
    unfold f_I_agrees_104 at hf
    have hg : ∀ q k, q ∉ A_I_agrees → (q, k) ∉ O_I_agrees → G q k = G q k := fun _ _ _ _ => rfl
    rcases zx_if_some hf with ⟨hc_1, hf⟩ | ⟨hc_1, hf⟩
    · skip
      obtain ⟨hb_2, hf⟩ := zx_gd_some hf
      exact zv_ret hg hf
    · skip
      obtain ⟨hb_3, hf⟩ := zx_gd_some hf
      rcases zx_if_some hf with ⟨hc_4, hf⟩ | ⟨hc_4, hf⟩
      · skip
        obtain ⟨x8_5, ex8_5, hf⟩ := zx_lt_some hf
        exact zv_tr hg (ih x4 x5 x7 x8_5 G hf)
      · skip
        obtain ⟨hb_6, hf⟩ := zx_gd_some hf
        exact zv_ret hg hf
theorem v_I_agrees_0 {r : Int32} {G1 : zx_G} (x1 x2 x3 x4 x5 : Int32) (G : zx_G) (hf : f_I_agrees x1 x2 x3 x4 x5 G = some (r, G1)) : ∀ q k, q ∉ A_I_agrees → (q, k) ∉ O_I_agrees → G1 q k = G q k := by
  unfold f_I_agrees at hf
  have hg : ∀ q k, q ∉ A_I_agrees → (q, k) ∉ O_I_agrees → G q k = G q k := fun _ _ _ _ => rfl
  obtain ⟨hb_1, hf⟩ := zx_gd_some hf
  obtain ⟨x6_2, ex6_2, hf⟩ := zx_lt_some hf
  obtain ⟨hb_3, hf⟩ := zx_gd_some hf
  rcases zx_if_some hf with ⟨hc_4, hf⟩ | ⟨hc_4, hf⟩
  · skip
    exact zv_tr hg (v_I_agrees_38 G hf)
  · skip
    obtain ⟨hb_5, hf⟩ := zx_gd_some hf
    rcases zx_if_some hf with ⟨hc_6, hf⟩ | ⟨hc_6, hf⟩
    · skip
      obtain ⟨hb_7, hf⟩ := zx_gd_some hf
      obtain ⟨hb_8, hf⟩ := zx_gd_some hf
      rcases zx_if_some hf with ⟨hc_9, hf⟩ | ⟨hc_9, hf⟩
      · skip
        rcases zx_if_some hf with ⟨hc_10, hf⟩ | ⟨hc_10, hf⟩
        · skip
          obtain ⟨hb_11, hf⟩ := zx_gd_some hf
          obtain ⟨x7_12, ex7_12, hf⟩ := zx_lt_some hf
          obtain ⟨hb_13, hf⟩ := zx_gd_some hf
          rcases zx_if_some hf with ⟨hc_14, hf⟩ | ⟨hc_14, hf⟩
          · skip
            obtain ⟨x8_15, ex8_15, hf⟩ := zx_lt_some hf
            exact zv_tr hg (v_I_agrees_104 2048 x4 x5 x7_12 x8_15 G hf)
          · skip
            obtain ⟨hb_16, hf⟩ := zx_gd_some hf
            exact zv_ret hg hf
        · skip
          obtain ⟨hb_17, hf⟩ := zx_gd_some hf
          exact zv_ret hg hf
      · skip
        obtain ⟨hb_18, hf⟩ := zx_gd_some hf
        exact zv_ret hg hf
    · skip
      exact zv_tr hg (v_I_agrees_38 G hf)
theorem v_I_agrees (x1 x2 x3 x4 x5 : Int32) (G : zx_G) {r : Int32} {G1 : zx_G} (hf : f_I_agrees x1 x2 x3 x4 x5 G = some (r, G1)) : ∀ q k, q ∉ A_I_agrees → (q, k) ∉ O_I_agrees → G1 q k = G q k := v_I_agrees_0 x1 x2 x3 x4 x5 G hf
abbrev A_H_readSequence : List Nat := []
abbrev O_H_readSequence : List (Nat × Nat) := [(11, 3), (11, 5), (11, 6), (11, 7), (11, 8), (11, 9), (13, 1), (13, 3)]
theorem v_H_readSequence_93 {r : Int32} {G1 : zx_G} (s0 : Int32) (G : zx_G) (hf : f_H_readSequence_93 s0 G = some (r, G1)) : ∀ q k, q ∉ A_H_readSequence → (q, k) ∉ O_H_readSequence → G1 q k = G q k := by
  unfold f_H_readSequence_93 at hf
  have hg : ∀ q k, q ∉ A_H_readSequence → (q, k) ∉ O_H_readSequence → G q k = G q k := fun _ _ _ _ => rfl
  exact zv_ret hg hf
theorem v_H_readSequence_201 {r : Int32} {G1 : zx_G} (s0 : Int32) (G : zx_G) (hf : f_H_readSequence_201 s0 G = some (r, G1)) : ∀ q k, q ∉ A_H_readSequence → (q, k) ∉ O_H_readSequence → G1 q k = G q k := by
  unfold f_H_readSequence_201 at hf
  have hg : ∀ q k, q ∉ A_H_readSequence → (q, k) ∉ O_H_readSequence → G q k = G q k := fun _ _ _ _ => rfl
  exact zv_ret hg hf
theorem v_H_readSequence_156 {r : Int32} {G1 : zx_G} (x1 x2 s1 : Int32) (G : zx_G) (hf : f_H_readSequence_156 x1 x2 s1 G = some (r, G1)) : ∀ q k, q ∉ A_H_readSequence → (q, k) ∉ O_H_readSequence → G1 q k = G q k := by
  unfold f_H_readSequence_156 at hf
  have hg : ∀ q k, q ∉ A_H_readSequence → (q, k) ∉ O_H_readSequence → G q k = G q k := fun _ _ _ _ => rfl
  obtain ⟨G_1, eG_1, hf⟩ := zx_lt_some hf
  have hg := zv_uo hg eG_1 (by decide)
  obtain ⟨hb_2, hf⟩ := zx_gd_some hf
  obtain ⟨G_3, eG_3, hf⟩ := zx_lt_some hf
  have hg := zv_uo hg eG_3 (by decide)
  obtain ⟨r_5, G_4, hq_6, hf⟩ := zx_bd_some hf
  have hg := zv_call hg (v_I_agrees (G_3 11 7) (G_3 11 8) (x1 + ((4 : Int32) * x2)) (G_3 11 6) (G_3 11 9) G_3 hq_6) (by decide) (by decide)
  rcases zx_if_some hf with ⟨hc_7, hf⟩ | ⟨hc_7, hf⟩
  · skip
    exact zv_tr hg (v_H_readSequence_201 (6 : Int32) G_4 hf)
  · skip
    exact zv_tr hg (v_H_readSequence_201 (0 : Int32) G_4 hf)
theorem v_H_readSequence_140 {r : Int32} {G1 : zx_G} (x1 x2 s1 : Int32) (G : zx_G) (hf : f_H_readSequence_140 x1 x2 s1 G = some (r, G1)) : ∀ q k, q ∉ A_H_readSequence → (q, k) ∉ O_H_readSequence → G1 q k = G q k := by
  unfold f_H_readSequence_140 at hf
  have hg : ∀ q k, q ∉ A_H_readSequence → (q, k) ∉ O_H_readSequence → G q k = G q k := fun _ _ _ _ => rfl
  obtain ⟨G_1, eG_1, hf⟩ := zx_lt_some hf
  have hg := zv_uo hg eG_1 (by decide)
  rcases zx_if_some hf with ⟨hc_2, hf⟩ | ⟨hc_2, hf⟩
  · skip
    exact zv_tr hg (v_H_readSequence_156 x1 x2 (8 : Int32) G_1 hf)
  · skip
    exact zv_tr hg (v_H_readSequence_156 x1 x2 (10 : Int32) G_1 hf)
theorem v_H_readSequence_127 {r : Int32} {G1 : zx_G} (x1 x2 s1 : Int32) (G : zx_G) (hf : f_H_readSequence_127 x1 x2 s1 G = some (r, G1)) : ∀ q k, q ∉ A_H_readSequence → (q, k) ∉ O_H_readSequence → G1 q k = G q k := by
  unfold f_H_readSequence_127 at hf
  have hg : ∀ q k, q ∉ A_H_readSequence → (q, k) ∉ O_H_readSequence → G q k = G q k := fun _ _ _ _ => rfl
  obtain ⟨hb_1, hf⟩ := zx_gd_some hf
  obtain ⟨G_2, eG_2, hf⟩ := zx_lt_some hf
  have hg := zv_uo hg eG_2 (by decide)
  rcases zx_if_some hf with ⟨hc_3, hf⟩ | ⟨hc_3, hf⟩
  · skip
    exact zv_tr hg (v_H_readSequence_140 x1 x2 (3 : Int32) G_2 hf)
  · skip
    exact zv_tr hg (v_H_readSequence_140 x1 x2 (1 : Int32) G_2 hf)
theorem v_H_readSequence_62 {r : Int32} {G1 : zx_G} : ∀ (n : Nat) (x1 x2 x3 : Int32) (G : zx_G), f_H_readSequence_62 n x1 x2 x3 G = some (r, G1) → ∀ q k, q ∉ A_H_readSequence → (q, k) ∉ O_H_readSequence → G1 q k = G q k := by
  intro n
  induction n with
  | zero => intro x1 x2 x3 G hf; cases hf
  | succ n ih =>
    intro x1 x2 x3 G hf
    unfold f_H_readSequence_62 at hf
    have hg : ∀ q k, q ∉ A_H_readSequence → (q, k) ∉ O_H_readSequence → G q k = G q k := fun _ _ _ _ => rfl
    rcases zx_if_some hf with ⟨hc_1, hf⟩ | ⟨hc_1, hf⟩
    · skip
      obtain ⟨r_3, G_2, hq_4, hf⟩ := zx_bd_some hf
      have hg := zv_call hg (v_U_nextBits_13 (1 : Int32) G hq_4) (by decide) (by decide)
      obtain ⟨x3_5, ex3_5, hf⟩ := zx_lt_some hf
      rcases zx_if_some hf with ⟨hc_6, hf⟩ | ⟨hc_6, hf⟩
      · skip
        rcases zx_if_some hf with ⟨hc_7, hf⟩ | ⟨hc_7, hf⟩
        · skip
          exact zv_tr hg (v_H_readSequence_127 x1 x2 (0 : Int32) G_2 hf)
        · skip
          exact zv_tr hg (v_H_readSequence_127 x1 x2 (1 : Int32) G_2 hf)
      · skip
        exact zv_ret hg hf
    · skip
      obtain ⟨r_9, G_8, hq_10, hf⟩ := zx_bd_some hf
      have hg := zv_call hg (v_U_nextBits_13 (1 : Int32) G hq_10) (by decide) (by decide)
      obtain ⟨x4_11, ex4_11, hf⟩ := zx_lt_some hf
      rcases zx_if_some hf with ⟨hc_12, hf⟩ | ⟨hc_12, hf⟩
      · skip
        obtain ⟨x3_13, ex3_13, hf⟩ := zx_lt_some hf
        exact zv_tr hg (ih x1 x2 x3_13 G_8 hf)
      · skip
        rcases zx_if_some hf with ⟨hc_14, hf⟩ | ⟨hc_14, hf⟩
        · skip
          exact zv_tr hg (v_H_readSequence_93 (5 : Int32) G_8 hf)
        · skip
          exact zv_tr hg (v_H_readSequence_93 (7 : Int32) G_8 hf)
theorem v_H_readSequence_0 {r : Int32} {G1 : zx_G} (G : zx_G) (hf : f_H_readSequence G = some (r, G1)) : ∀ q k, q ∉ A_H_readSequence → (q, k) ∉ O_H_readSequence → G1 q k = G q k := by
  unfold f_H_readSequence at hf
  have hg : ∀ q k, q ∉ A_H_readSequence → (q, k) ∉ O_H_readSequence → G q k = G q k := fun _ _ _ _ => rfl
  obtain ⟨r_2, G_1, hq_3, hf⟩ := zx_bd_some hf
  have hg := zv_call hg (v_U_nextBits_13 (2 : Int32) G hq_3) (by decide) (by decide)
  obtain ⟨x1_4, ex1_4, hf⟩ := zx_lt_some hf
  rcases zx_if_some hf with ⟨hc_5, hf⟩ | ⟨hc_5, hf⟩
  · skip
    rcases zx_if_some hf with ⟨hc_6, hf⟩ | ⟨hc_6, hf⟩
    · skip
      obtain ⟨r_8, G_7, hq_9, hf⟩ := zx_bd_some hf
      have hg := zv_call hg (v_U_nextBits_13 (1 : Int32) G_1 hq_9) (by decide) (by decide)
      obtain ⟨x2_10, ex2_10, hf⟩ := zx_lt_some hf
      obtain ⟨r_12, G_11, hq_13, hf⟩ := zx_bd_some hf
      have hg := zv_call hg (v_U_nextBits_13 (4 : Int32) G_7 hq_13) (by decide) (by decide)
      obtain ⟨G_14, eG_14, hf⟩ := zx_lt_some hf
      have hg := zv_uo hg eG_14 (by decide)
      obtain ⟨r_16, G_15, hq_17, hf⟩ := zx_bd_some hf
      have hg := zv_call hg (v_U_nextBits_13 (4 : Int32) G_14 hq_17) (by decide) (by decide)
      obtain ⟨G_18, eG_18, hf⟩ := zx_lt_some hf
      have hg := zv_uo hg eG_18 (by decide)
      obtain ⟨x3_19, ex3_19, hf⟩ := zx_lt_some hf
      exact zv_tr hg (v_H_readSequence_62 2048 x1_4 x2_10 x3_19 G_18 hf)
    · skip
      exact zv_ret hg hf
  · skip
    exact zv_ret hg hf
theorem v_H_readSequence (G : zx_G) {r : Int32} {G1 : zx_G} (hf : f_H_readSequence G = some (r, G1)) : ∀ q k, q ∉ A_H_readSequence → (q, k) ∉ O_H_readSequence → G1 q k = G q k := v_H_readSequence_0 G hf
abbrev A_U_nextByte_12 : List Nat := []
abbrev O_U_nextByte_12 : List (Nat × Nat) := [(12, 1)]
theorem v_U_nextByte_12_0 {r : Int32} {G1 : zx_G} (G : zx_G) (hf : f_U_nextByte_12 G = some (r, G1)) : ∀ q k, q ∉ A_U_nextByte_12 → (q, k) ∉ O_U_nextByte_12 → G1 q k = G q k := by
  unfold f_U_nextByte_12 at hf
  have hg : ∀ q k, q ∉ A_U_nextByte_12 → (q, k) ∉ O_U_nextByte_12 → G q k = G q k := fun _ _ _ _ => rfl
  rcases zx_if_some hf with ⟨hc_1, hf⟩ | ⟨hc_1, hf⟩
  · skip
    obtain ⟨hb_2, hf⟩ := zx_gd_some hf
    obtain ⟨x1_3, ex1_3, hf⟩ := zx_lt_some hf
    obtain ⟨G_4, eG_4, hf⟩ := zx_lt_some hf
    have hg := zv_uo hg eG_4 (by decide)
    exact zv_ret hg hf
  · skip
    exact zv_ret hg hf
theorem v_U_nextByte_12 (G : zx_G) {r : Int32} {G1 : zx_G} (hf : f_U_nextByte_12 G = some (r, G1)) : ∀ q k, q ∉ A_U_nextByte_12 → (q, k) ∉ O_U_nextByte_12 → G1 q k = G q k := v_U_nextByte_12_0 G hf
abbrev A_U_left_12 : List Nat := []
abbrev O_U_left_12 : List (Nat × Nat) := []
theorem v_U_left_12_0 {r : Int32} {G1 : zx_G} (G : zx_G) (hf : f_U_left_12 G = some (r, G1)) : ∀ q k, q ∉ A_U_left_12 → (q, k) ∉ O_U_left_12 → G1 q k = G q k := by
  unfold f_U_left_12 at hf
  have hg : ∀ q k, q ∉ A_U_left_12 → (q, k) ∉ O_U_left_12 → G q k = G q k := fun _ _ _ _ => rfl
  exact zv_ret hg hf
theorem v_U_left_12 (G : zx_G) {r : Int32} {G1 : zx_G} (hf : f_U_left_12 G = some (r, G1)) : ∀ q k, q ∉ A_U_left_12 → (q, k) ∉ O_U_left_12 → G1 q k = G q k := v_U_left_12_0 G hf
abbrev A_H_readCount : List Nat := []
abbrev O_H_readCount : List (Nat × Nat) := [(12, 1)]
theorem v_H_readCount_4 {r : Int32} {G1 : zx_G} : ∀ (n : Nat) (x1 x2 : Int32) (G : zx_G), f_H_readCount_4 n x1 x2 G = some (r, G1) → ∀ q k, q ∉ A_H_readCount → (q, k) ∉ O_H_readCount → G1 q k = G q k := by
  intro n
  induction n with
  | zero => intro x1 x2 G hf; cases hf
  | succ n ih =>
    intro x1 x2 G hf
    unfold f_H_readCount_4 at hf
    have hg : ∀ q k, q ∉ A_H_readCount → (q, k) ∉ O_H_readCount → G q k = G q k := fun _ _ _ _ => rfl
    rcases zx_if_some hf with ⟨hc_1, hf⟩ | ⟨hc_1, hf⟩
    · skip
      exact zv_ret hg hf
    · skip
      obtain ⟨r_3, G_2, hq_4, hf⟩ := zx_bd_some hf
      have hg := zv_call hg (v_U_nextByte_12 G hq_4) (by decide) (by decide)
      obtain ⟨x3_5, ex3_5, hf⟩ := zx_lt_some hf
      rcases zx_if_some hf with ⟨hc_6, hf⟩ | ⟨hc_6, hf⟩
      · skip
        obtain ⟨x1_7, ex1_7, hf⟩ := zx_lt_some hf
        rcases zx_if_some hf with ⟨hc_8, hf⟩ | ⟨hc_8, hf⟩
        · skip
          obtain ⟨x2_9, ex2_9, hf⟩ := zx_lt_some hf
          exact zv_tr hg (ih x1_7 x2_9 G_2 hf)
        · skip
          exact zv_ret hg hf
      · skip
        exact zv_ret hg hf
theorem v_H_readCount_0 {r : Int32} {G1 : zx_G} (G : zx_G) (hf : f_H_readCount G = some (r, G1)) : ∀ q k, q ∉ A_H_readCount → (q, k) ∉ O_H_readCount → G1 q k = G q k := by
  unfold f_H_readCount at hf
  have hg : ∀ q k, q ∉ A_H_readCount → (q, k) ∉ O_H_readCount → G q k = G q k := fun _ _ _ _ => rfl
  obtain ⟨x1_1, ex1_1, hf⟩ := zx_lt_some hf
  obtain ⟨x2_2, ex2_2, hf⟩ := zx_lt_some hf
  exact zv_tr hg (v_H_readCount_4 2048 x1_1 x2_2 G hf)
theorem v_H_readCount (G : zx_G) {r : Int32} {G1 : zx_G} (hf : f_H_readCount G = some (r, G1)) : ∀ q k, q ∉ A_H_readCount → (q, k) ∉ O_H_readCount → G1 q k = G q k := v_H_readCount_0 G hf
abbrev A_H_readUnit : List Nat := []
abbrev O_H_readUnit : List (Nat × Nat) := [(11, 3), (11, 4), (11, 5), (11, 6), (11, 7), (11, 8), (11, 9), (11, 10), (11, 11), (11, 12), (11, 13), (11, 14), (11, 15), (12, 1), (13, 1), (13, 2), (13, 3)]
theorem v_H_readUnit_19 {r : Int32} {G1 : zx_G} (G : zx_G) (hf : f_H_readUnit_19 G = some (r, G1)) : ∀ q k, q ∉ A_H_readUnit → (q, k) ∉ O_H_readUnit → G1 q k = G q k := by
  unfold f_H_readUnit_19 at hf
  have hg : ∀ q k, q ∉ A_H_readUnit → (q, k) ∉ O_H_readUnit → G q k = G q k := fun _ _ _ _ => rfl
  exact zv_ret hg hf
theorem v_H_readUnit_123 {r : Int32} {G1 : zx_G} (s0 : Int32) (G : zx_G) (hf : f_H_readUnit_123 s0 G = some (r, G1)) : ∀ q k, q ∉ A_H_readUnit → (q, k) ∉ O_H_readUnit → G1 q k = G q k := by
  unfold f_H_readUnit_123 at hf
  have hg : ∀ q k, q ∉ A_H_readUnit → (q, k) ∉ O_H_readUnit → G q k = G q k := fun _ _ _ _ => rfl
  exact zv_ret hg hf
theorem v_H_readUnit_50 {r : Int32} {G1 : zx_G} (x1 s0 : Int32) (G : zx_G) (hf : f_H_readUnit_50 x1 s0 G = some (r, G1)) : ∀ q k, q ∉ A_H_readUnit → (q, k) ∉ O_H_readUnit → G1 q k = G q k := by
  unfold f_H_readUnit_50 at hf
  have hg : ∀ q k, q ∉ A_H_readUnit → (q, k) ∉ O_H_readUnit → G q k = G q k := fun _ _ _ _ => rfl
  obtain ⟨x2_1, ex2_1, hf⟩ := zx_lt_some hf
  obtain ⟨x3_2, ex3_2, hf⟩ := zx_lt_some hf
  obtain ⟨r_4, G_3, hq_5, hf⟩ := zx_bd_some hf
  have hg := zv_call hg (v_U_skip_12 x2_1 G hq_5) (by decide) (by decide)
  rcases zx_if_some hf with ⟨hc_6, hf⟩ | ⟨hc_6, hf⟩
  · skip
    obtain ⟨r_8, G_7, hq_9, hf⟩ := zx_bd_some hf
    have hg := zv_call hg (v_U_open_13 x3_2 (x3_2 + x2_1) G_3 hq_9) (by decide) (by decide)
    obtain ⟨x4_10, ex4_10, hf⟩ := zx_lt_some hf
    rcases zx_if_some hf with ⟨hc_11, hf⟩ | ⟨hc_11, hf⟩
    · skip
      rcases zx_if_some hf with ⟨hc_12, hf⟩ | ⟨hc_12, hf⟩
      · skip
        exact zv_ret hg hf
      · skip
        rcases zx_if_some hf with ⟨hc_13, hf⟩ | ⟨hc_13, hf⟩
        · skip
          exact zv_tr hg (v_H_readUnit_123 (7 : Int32) G_7 hf)
        · skip
          obtain ⟨r_15, G_14, hq_16, hf⟩ := zx_bd_some hf
          have hg := zv_call hg (v_H_readFrame G_7 hq_16) (by decide) (by decide)
          exact zv_tr hg (v_H_readUnit_123 r_15 G_14 hf)
    · skip
      obtain ⟨r_18, G_17, hq_19, hf⟩ := zx_bd_some hf
      have hg := zv_call hg (v_H_readSequence G_7 hq_19) (by decide) (by decide)
      exact zv_ret hg hf
  · skip
    exact zv_ret hg hf
theorem v_H_readUnit_0 {r : Int32} {G1 : zx_G} (G : zx_G) (hf : f_H_readUnit G = some (r, G1)) : ∀ q k, q ∉ A_H_readUnit → (q, k) ∉ O_H_readUnit → G1 q k = G q k := by
  unfold f_H_readUnit at hf
  have hg : ∀ q k, q ∉ A_H_readUnit → (q, k) ∉ O_H_readUnit → G q k = G q k := fun _ _ _ _ => rfl
  obtain ⟨r_2, G_1, hq_3, hf⟩ := zx_bd_some hf
  have hg := zv_call hg (v_U_nextByte_12 G hq_3) (by decide) (by decide)
  obtain ⟨x1_4, ex1_4, hf⟩ := zx_lt_some hf
  rcases zx_if_some hf with ⟨hc_5, hf⟩ | ⟨hc_5, hf⟩
  · skip
    exact zv_tr hg (v_H_readUnit_19 G_1 hf)
  · skip
    rcases zx_if_some hf with ⟨hc_6, hf⟩ | ⟨hc_6, hf⟩
    · skip
      rcases zx_if_some hf with ⟨hc_7, hf⟩ | ⟨hc_7, hf⟩
      · skip
        rcases zx_if_some hf with ⟨hc_8, hf⟩ | ⟨hc_8, hf⟩
        · skip
          obtain ⟨r_10, G_9, hq_11, hf⟩ := zx_bd_some hf
          have hg := zv_call hg (v_U_left_12 G_1 hq_11) (by decide) (by decide)
          exact zv_tr hg (v_H_readUnit_50 x1_4 r_10 G_9 hf)
        · skip
          obtain ⟨r_13, G_12, hq_14, hf⟩ := zx_bd_some hf
          have hg := zv_call hg (v_H_readCount G_1 hq_14) (by decide) (by decide)
          exact zv_tr hg (v_H_readUnit_50 x1_4 r_13 G_12 hf)
      · skip
        exact zv_ret hg hf
    · skip
      exact zv_tr hg (v_H_readUnit_19 G_1 hf)
theorem v_H_readUnit (G : zx_G) {r : Int32} {G1 : zx_G} (hf : f_H_readUnit G = some (r, G1)) : ∀ q k, q ∉ A_H_readUnit → (q, k) ∉ O_H_readUnit → G1 q k = G q k := v_H_readUnit_0 G hf
abbrev A_U_open_12 : List Nat := []
abbrev O_U_open_12 : List (Nat × Nat) := [(12, 1), (12, 2), (12, 3)]
theorem v_U_open_12_0 {r : Int32} {G1 : zx_G} (x1 x2 : Int32) (G : zx_G) (hf : f_U_open_12 x1 x2 G = some (r, G1)) : ∀ q k, q ∉ A_U_open_12 → (q, k) ∉ O_U_open_12 → G1 q k = G q k := by
  unfold f_U_open_12 at hf
  have hg : ∀ q k, q ∉ A_U_open_12 → (q, k) ∉ O_U_open_12 → G q k = G q k := fun _ _ _ _ => rfl
  obtain ⟨G_1, eG_1, hf⟩ := zx_lt_some hf
  have hg := zv_uo hg eG_1 (by decide)
  obtain ⟨G_2, eG_2, hf⟩ := zx_lt_some hf
  have hg := zv_uo hg eG_2 (by decide)
  obtain ⟨G_3, eG_3, hf⟩ := zx_lt_some hf
  have hg := zv_uo hg eG_3 (by decide)
  exact zv_ret hg hf
theorem v_U_open_12 (x1 x2 : Int32) (G : zx_G) {r : Int32} {G1 : zx_G} (hf : f_U_open_12 x1 x2 G = some (r, G1)) : ∀ q k, q ∉ A_U_open_12 → (q, k) ∉ O_U_open_12 → G1 q k = G q k := v_U_open_12_0 x1 x2 G hf
abbrev A_H_read : List Nat := []
abbrev O_H_read : List (Nat × Nat) := [(11, 3), (11, 4), (11, 5), (11, 6), (11, 7), (11, 8), (11, 9), (11, 10), (11, 11), (11, 12), (11, 13), (11, 14), (11, 15), (12, 1), (12, 2), (12, 3), (13, 1), (13, 2), (13, 3)]
theorem v_H_read_50 {r : Int32} {G1 : zx_G} (x2 : Int32) (G : zx_G) (hf : f_H_read_50 x2 G = some (r, G1)) : ∀ q k, q ∉ A_H_read → (q, k) ∉ O_H_read → G1 q k = G q k := by
  unfold f_H_read_50 at hf
  have hg : ∀ q k, q ∉ A_H_read → (q, k) ∉ O_H_read → G q k = G q k := fun _ _ _ _ => rfl
  exact zv_ret hg hf
theorem v_H_read_27 {r : Int32} {G1 : zx_G} : ∀ (n : Nat) (x1 : Int32) (G : zx_G), f_H_read_27 n x1 G = some (r, G1) → ∀ q k, q ∉ A_H_read → (q, k) ∉ O_H_read → G1 q k = G q k := by
  intro n
  induction n with
  | zero => intro x1 G hf; cases hf
  | succ n ih =>
    intro x1 G hf
    unfold f_H_read_27 at hf
    have hg : ∀ q k, q ∉ A_H_read → (q, k) ∉ O_H_read → G q k = G q k := fun _ _ _ _ => rfl
    rcases zx_if_some hf with ⟨hc_1, hf⟩ | ⟨hc_1, hf⟩
    · skip
      exact zv_ret hg hf
    · skip
      obtain ⟨r_3, G_2, hq_4, hf⟩ := zx_bd_some hf
      have hg := zv_call hg (v_H_readUnit G hq_4) (by decide) (by decide)
      obtain ⟨x2_5, ex2_5, hf⟩ := zx_lt_some hf
      rcases zx_if_some hf with ⟨hc_6, hf⟩ | ⟨hc_6, hf⟩
      · skip
        exact zv_tr hg (v_H_read_50 x2_5 G_2 hf)
      · skip
        rcases zx_if_some hf with ⟨hc_7, hf⟩ | ⟨hc_7, hf⟩
        · skip
          obtain ⟨x1_8, ex1_8, hf⟩ := zx_lt_some hf
          exact zv_tr hg (ih x1_8 G_2 hf)
        · skip
          exact zv_tr hg (v_H_read_50 x2_5 G_2 hf)
theorem v_H_read_0 {r : Int32} {G1 : zx_G} (G : zx_G) (hf : f_H_read G = some (r, G1)) : ∀ q k, q ∉ A_H_read → (q, k) ∉ O_H_read → G1 q k = G q k := by
  unfold f_H_read at hf
  have hg : ∀ q k, q ∉ A_H_read → (q, k) ∉ O_H_read → G q k = G q k := fun _ _ _ _ => rfl
  obtain ⟨hb_1, hf⟩ := zx_gd_some hf
  obtain ⟨G_2, eG_2, hf⟩ := zx_lt_some hf
  have hg := zv_uo hg eG_2 (by decide)
  obtain ⟨hb_3, hf⟩ := zx_gd_some hf
  obtain ⟨G_4, eG_4, hf⟩ := zx_lt_some hf
  have hg := zv_uo hg eG_4 (by decide)
  obtain ⟨r_6, G_5, hq_7, hf⟩ := zx_bd_some hf
  have hg := zv_call hg (v_U_open_12 (0 : Int32) (G_4 8 4) G_4 hq_7) (by decide) (by decide)
  obtain ⟨x1_8, ex1_8, hf⟩ := zx_lt_some hf
  exact zv_tr hg (v_H_read_27 2048 x1_8 G_5 hf)
theorem v_H_read (G : zx_G) {r : Int32} {G1 : zx_G} (hf : f_H_read G = some (r, G1)) : ∀ q k, q ∉ A_H_read → (q, k) ∉ O_H_read → G1 q k = G q k := v_H_read_0 G hf
abbrev A_B_readStretch : List Nat := [3, 4, 5, 6, 7]
abbrev O_B_readStretch : List (Nat × Nat) := [(2, 6)]
theorem v_B_readStretch_61 {r : Int32} {G1 : zx_G} (G : zx_G) (hf : f_B_readStretch_61 G = some (r, G1)) : ∀ q k, q ∉ A_B_readStretch → (q, k) ∉ O_B_readStretch → G1 q k = G q k := by
  unfold f_B_readStretch_61 at hf
  have hg : ∀ q k, q ∉ A_B_readStretch → (q, k) ∉ O_B_readStretch → G q k = G q k := fun _ _ _ _ => rfl
  obtain ⟨hb_1, hf⟩ := zx_gd_some hf
  exact zv_ret hg hf
theorem v_B_readStretch_104 {r : Int32} {G1 : zx_G} (G : zx_G) (hf : f_B_readStretch_104 G = some (r, G1)) : ∀ q k, q ∉ A_B_readStretch → (q, k) ∉ O_B_readStretch → G1 q k = G q k := by
  unfold f_B_readStretch_104 at hf
  have hg : ∀ q k, q ∉ A_B_readStretch → (q, k) ∉ O_B_readStretch → G q k = G q k := fun _ _ _ _ => rfl
  obtain ⟨hb_1, hf⟩ := zx_gd_some hf
  exact zv_ret hg hf
theorem v_B_readStretch_87 {r : Int32} {G1 : zx_G} {k25 : Int32 → Int32 → Int32 → Int32 → Int32 → zx_G → Option (Int32 × zx_G)} (hk25 : ∀ (x2 x3 x4 x5 x6 : Int32) (G : zx_G), k25 x2 x3 x4 x5 x6 G = some (r, G1) → ∀ q k, q ∉ A_B_readStretch → (q, k) ∉ O_B_readStretch → G1 q k = G q k) (x2 x3 x4 x5 x6 s0 : Int32) (G : zx_G) (hf : f_B_readStretch_87 k25 x2 x3 x4 x5 x6 s0 G = some (r, G1)) : ∀ q k, q ∉ A_B_readStretch → (q, k) ∉ O_B_readStretch → G1 q k = G q k := by
  unfold f_B_readStretch_87 at hf
  have hg : ∀ q k, q ∉ A_B_readStretch → (q, k) ∉ O_B_readStretch → G q k = G q k := fun _ _ _ _ => rfl
  obtain ⟨x7_1, ex7_1, hf⟩ := zx_lt_some hf
  rcases zx_if_some hf with ⟨hc_2, hf⟩ | ⟨hc_2, hf⟩
  · skip
    exact zv_tr hg (v_B_readStretch_104 G hf)
  · skip
    rcases zx_if_some hf with ⟨hc_3, hf⟩ | ⟨hc_3, hf⟩
    · skip
      obtain ⟨hb_4, hf⟩ := zx_gd_some hf
      obtain ⟨hb_5, hf⟩ := zx_gd_some hf
      obtain ⟨G_6, eG_6, hf⟩ := zx_lt_some hf
      have hg := zv_ua hg eG_6 (by decide)
      obtain ⟨hb_7, hf⟩ := zx_gd_some hf
      obtain ⟨G_8, eG_8, hf⟩ := zx_lt_some hf
      have hg := zv_ua hg eG_8 (by decide)
      obtain ⟨hb_9, hf⟩ := zx_gd_some hf
      obtain ⟨G_10, eG_10, hf⟩ := zx_lt_some hf
      have hg := zv_ua hg eG_10 (by decide)
      obtain ⟨hb_11, hf⟩ := zx_gd_some hf
      obtain ⟨G_12, eG_12, hf⟩ := zx_lt_some hf
      have hg := zv_ua hg eG_12 (by decide)
      obtain ⟨hb_13, hf⟩ := zx_gd_some hf
      obtain ⟨G_14, eG_14, hf⟩ := zx_lt_some hf
      have hg := zv_ua hg eG_14 (by decide)
      obtain ⟨G_15, eG_15, hf⟩ := zx_lt_some hf
      have hg := zv_uo hg eG_15 (by decide)
      obtain ⟨x5_16, ex5_16, hf⟩ := zx_lt_some hf
      obtain ⟨x6_17, ex6_17, hf⟩ := zx_lt_some hf
      exact zv_tr hg (hk25 x2 x3 x4 x5_16 x6_17 G_15 hf)
    · skip
      exact zv_tr hg (v_B_readStretch_104 G hf)
theorem v_B_readStretch_195 {r : Int32} {G1 : zx_G} (G : zx_G) (hf : f_B_readStretch_195 G = some (r, G1)) : ∀ q k, q ∉ A_B_readStretch → (q, k) ∉ O_B_readStretch → G1 q k = G q k := by
  unfold f_B_readStretch_195 at hf
  have hg : ∀ q k, q ∉ A_B_readStretch → (q, k) ∉ O_B_readStretch → G q k = G q k := fun _ _ _ _ => rfl
  obtain ⟨hb_1, hf⟩ := zx_gd_some hf
  exact zv_ret hg hf
theorem v_B_readStretch_25 {r : Int32} {G1 : zx_G} : ∀ (n : Nat) (x2 x3 x4 x5 x6 : Int32) (G : zx_G), f_B_readStretch_25 n x2 x3 x4 x5 x6 G = some (r, G1) → ∀ q k, q ∉ A_B_readStretch → (q, k) ∉ O_B_readStretch → G1 q k = G q k := by
  intro n
  induction n with
  | zero => intro x2 x3 x4 x5 x6 G hf; cases hf
  | succ n ih =>
    intro x2 x3 x4 x5 x6 G hf
    unfold f_B_readStretch_25 at hf
    have hg : ∀ q k, q ∉ A_B_readStretch → (q, k) ∉ O_B_readStretch → G q k = G q k := fun _ _ _ _ => rfl
    rcases zx_if_some hf with ⟨hc_1, hf⟩ | ⟨hc_1, hf⟩
    · skip
      exact zv_tr hg (v_B_readStretch_195 G hf)
    · skip
      rcases zx_if_some hf with ⟨hc_2, hf⟩ | ⟨hc_2, hf⟩
      · skip
        exact zv_tr hg (v_B_readStretch_195 G hf)
      · skip
        rcases zx_if_some hf with ⟨hc_3, hf⟩ | ⟨hc_3, hf⟩
        · skip
          exact zv_tr hg (v_B_readStretch_61 G hf)
        · skip
          rcases zx_if_some hf with ⟨hc_4, hf⟩ | ⟨hc_4, hf⟩
          · skip
            exact zv_tr hg (v_B_readStretch_61 G hf)
          · skip
            rcases zx_if_some hf with ⟨hc_5, hf⟩ | ⟨hc_5, hf⟩
            · skip
              obtain ⟨hb_6, hf⟩ := zx_gd_some hf
              rcases zx_if_some hf with ⟨hc_7, hf⟩ | ⟨hc_7, hf⟩
              · skip
                obtain ⟨hb_8, hf⟩ := zx_gd_some hf
                exact zv_tr hg (v_B_readStretch_87 ih x2 x3 x4 x5 x6 (G 1 (Int32.toNatClampNeg x5)) G hf)
              · skip
                exact zv_tr hg (v_B_readStretch_87 ih x2 x3 x4 x5 x6 (x2 - x5) G hf)
            · skip
              exact zv_tr hg (v_B_readStretch_61 G hf)
theorem v_B_readStretch_17 {r : Int32} {G1 : zx_G} (x1 x2 x3 s0 : Int32) (G : zx_G) (hf : f_B_readStretch_17 x1 x2 x3 s0 G = some (r, G1)) : ∀ q k, q ∉ A_B_readStretch → (q, k) ∉ O_B_readStretch → G1 q k = G q k := by
  unfold f_B_readStretch_17 at hf
  have hg : ∀ q k, q ∉ A_B_readStretch → (q, k) ∉ O_B_readStretch → G q k = G q k := fun _ _ _ _ => rfl
  obtain ⟨x4_1, ex4_1, hf⟩ := zx_lt_some hf
  obtain ⟨x5_2, ex5_2, hf⟩ := zx_lt_some hf
  obtain ⟨x6_3, ex6_3, hf⟩ := zx_lt_some hf
  exact zv_tr hg (v_B_readStretch_25 2048 x2 x3 x4_1 x5_2 x6_3 G hf)
theorem v_B_readStretch_0 {r : Int32} {G1 : zx_G} (x1 x2 x3 : Int32) (G : zx_G) (hf : f_B_readStretch x1 x2 x3 G = some (r, G1)) : ∀ q k, q ∉ A_B_readStretch → (q, k) ∉ O_B_readStretch → G1 q k = G q k := by
  unfold f_B_readStretch at hf
  have hg : ∀ q k, q ∉ A_B_readStretch → (q, k) ∉ O_B_readStretch → G q k = G q k := fun _ _ _ _ => rfl
  rcases zx_if_some hf with ⟨hc_1, hf⟩ | ⟨hc_1, hf⟩
  · skip
    obtain ⟨hb_2, hf⟩ := zx_gd_some hf
    exact zv_tr hg (v_B_readStretch_17 x1 x2 x3 ((G 7 (Int32.toNatClampNeg x3)) + (1 : Int32)) G hf)
  · skip
    exact zv_tr hg (v_B_readStretch_17 x1 x2 x3 (1 : Int32) G hf)
theorem v_B_readStretch (x1 x2 x3 : Int32) (G : zx_G) {r : Int32} {G1 : zx_G} (hf : f_B_readStretch x1 x2 x3 G = some (r, G1)) : ∀ q k, q ∉ A_B_readStretch → (q, k) ∉ O_B_readStretch → G1 q k = G q k := v_B_readStretch_0 x1 x2 x3 G hf
abbrev A_B_read : List Nat := [3, 4, 5, 6, 7]
abbrev O_B_read : List (Nat × Nat) := [(2, 6)]
theorem v_B_read_87 {r : Int32} {G1 : zx_G} {k19 : Int32 → zx_G → Option (Int32 × zx_G)} (hk19 : ∀ (x2 : Int32) (G : zx_G), k19 x2 G = some (r, G1) → ∀ q k, q ∉ A_B_read → (q, k) ∉ O_B_read → G1 q k = G q k) (x2 : Int32) (G : zx_G) (hf : f_B_read_87 k19 x2 G = some (r, G1)) : ∀ q k, q ∉ A_B_read → (q, k) ∉ O_B_read → G1 q k = G q k := by
  unfold f_B_read_87 at hf
  have hg : ∀ q k, q ∉ A_B_read → (q, k) ∉ O_B_read → G q k = G q k := fun _ _ _ _ => rfl
  obtain ⟨x2_1, ex2_1, hf⟩ := zx_lt_some hf
  exact zv_tr hg (hk19 x2_1 G hf)
theorem v_B_read_60 {r : Int32} {G1 : zx_G} {k19 : Int32 → zx_G → Option (Int32 × zx_G)} (hk19 : ∀ (x2 : Int32) (G : zx_G), k19 x2 G = some (r, G1) → ∀ q k, q ∉ A_B_read → (q, k) ∉ O_B_read → G1 q k = G q k) (x2 s0 : Int32) (G : zx_G) (hf : f_B_read_60 k19 x2 s0 G = some (r, G1)) : ∀ q k, q ∉ A_B_read → (q, k) ∉ O_B_read → G1 q k = G q k := by
  unfold f_B_read_60 at hf
  have hg : ∀ q k, q ∉ A_B_read → (q, k) ∉ O_B_read → G q k = G q k := fun _ _ _ _ => rfl
  obtain ⟨x3_1, ex3_1, hf⟩ := zx_lt_some hf
  rcases zx_if_some hf with ⟨hc_2, hf⟩ | ⟨hc_2, hf⟩
  · skip
    exact zv_tr hg (v_B_read_87 hk19 x2 G hf)
  · skip
    obtain ⟨hb_3, hf⟩ := zx_gd_some hf
    obtain ⟨hb_4, hf⟩ := zx_gd_some hf
    obtain ⟨r_6, G_5, hq_7, hf⟩ := zx_bd_some hf
    have hg := zv_call hg (v_B_readStretch (G 4 (Int32.toNatClampNeg x2)) (G 5 (Int32.toNatClampNeg x2)) x2 G hq_7) (by decide) (by decide)
    rcases zx_if_some hf with ⟨hc_8, hf⟩ | ⟨hc_8, hf⟩
    · skip
      exact zv_tr hg (v_B_read_87 hk19 x2 G_5 hf)
    · skip
      exact zv_ret hg hf
theorem v_B_read_55 {r : Int32} {G1 : zx_G} {k19 : Int32 → zx_G → Option (Int32 × zx_G)} (hk19 : ∀ (x2 : Int32) (G : zx_G), k19 x2 G = some (r, G1) → ∀ q k, q ∉ A_B_read → (q, k) ∉ O_B_read → G1 q k = G q k) (x2 : Int32) (G : zx_G) (hf : f_B_read_55 k19 x2 G = some (r, G1)) : ∀ q k, q ∉ A_B_read → (q, k) ∉ O_B_read → G1 q k = G q k := by
  unfold f_B_read_55 at hf
  have hg : ∀ q k, q ∉ A_B_read → (q, k) ∉ O_B_read → G q k = G q k := fun _ _ _ _ => rfl
  exact zv_tr hg (v_B_read_60 hk19 x2 (1 : Int32) G hf)
theorem v_B_read_93 {r : Int32} {G1 : zx_G} (G : zx_G) (hf : f_B_read_93 G = some (r, G1)) : ∀ q k, q ∉ A_B_read → (q, k) ∉ O_B_read → G1 q k = G q k := by
  unfold f_B_read_93 at hf
  have hg : ∀ q k, q ∉ A_B_read → (q, k) ∉ O_B_read → G q k = G q k := fun _ _ _ _ => rfl
  exact zv_ret hg hf
theorem v_B_read_19 {r : Int32} {G1 : zx_G} : ∀ (n : Nat) (x2 : Int32) (G : zx_G), f_B_read_19 n x2 G = some (r, G1) → ∀ q k, q ∉ A_B_read → (q, k) ∉ O_B_read → G1 q k = G q k := by
  intro n
  induction n with
  | zero => intro x2 G hf; cases hf
  | succ n ih =>
    intro x2 G hf
    unfold f_B_read_19 at hf
    have hg : ∀ q k, q ∉ A_B_read → (q, k) ∉ O_B_read → G q k = G q k := fun _ _ _ _ => rfl
    rcases zx_if_some hf with ⟨hc_1, hf⟩ | ⟨hc_1, hf⟩
    · skip
      exact zv_tr hg (v_B_read_93 G hf)
    · skip
      rcases zx_if_some hf with ⟨hc_2, hf⟩ | ⟨hc_2, hf⟩
      · skip
        exact zv_tr hg (v_B_read_93 G hf)
      · skip
        obtain ⟨hb_3, hf⟩ := zx_gd_some hf
        rcases zx_if_some hf with ⟨hc_4, hf⟩ | ⟨hc_4, hf⟩
        · skip
          exact zv_tr hg (v_B_read_55 ih x2 G hf)
        · skip
          obtain ⟨hb_5, hf⟩ := zx_gd_some hf
          rcases zx_if_some hf with ⟨hc_6, hf⟩ | ⟨hc_6, hf⟩
          · skip
            exact zv_tr hg (v_B_read_60 ih x2 (0 : Int32) G hf)
          · skip
            exact zv_tr hg (v_B_read_55 ih x2 G hf)
theorem v_B_read_0 {r : Int32} {G1 : zx_G} (x1 : Int32) (G : zx_G) (hf : f_B_read x1 G = some (r, G1)) : ∀ q k, q ∉ A_B_read → (q, k) ∉ O_B_read → G1 q k = G q k := by
  unfold f_B_read at hf
  have hg : ∀ q k, q ∉ A_B_read → (q, k) ∉ O_B_read → G q k = G q k := fun _ _ _ _ => rfl
  obtain ⟨G_1, eG_1, hf⟩ := zx_lt_some hf
  have hg := zv_uo hg eG_1 (by decide)
  obtain ⟨r_3, G_2, hq_4, hf⟩ := zx_bd_some hf
  have hg := zv_call hg (v_B_readStretch (0 : Int32) x1 (-1 : Int32) G_1 hq_4) (by decide) (by decide)
  rcases zx_if_some hf with ⟨hc_5, hf⟩ | ⟨hc_5, hf⟩
  · skip
    obtain ⟨x2_6, ex2_6, hf⟩ := zx_lt_some hf
    exact zv_tr hg (v_B_read_19 2048 x2_6 G_2 hf)
  · skip
    exact zv_ret hg hf
theorem v_B_read (x1 : Int32) (G : zx_G) {r : Int32} {G1 : zx_G} (hf : f_B_read x1 G = some (r, G1)) : ∀ q k, q ∉ A_B_read → (q, k) ∉ O_B_read → G1 q k = G q k := v_B_read_0 x1 G hf
abbrev A_B_isBranded : List Nat := []
abbrev O_B_isBranded : List (Nat × Nat) := []
theorem v_B_isBranded_18 {r : Int32} {G1 : zx_G} (G : zx_G) (hf : f_B_isBranded_18 G = some (r, G1)) : ∀ q k, q ∉ A_B_isBranded → (q, k) ∉ O_B_isBranded → G1 q k = G q k := by
  unfold f_B_isBranded_18 at hf
  have hg : ∀ q k, q ∉ A_B_isBranded → (q, k) ∉ O_B_isBranded → G q k = G q k := fun _ _ _ _ => rfl
  obtain ⟨hb_1, hf⟩ := zx_gd_some hf
  exact zv_ret hg hf
theorem v_B_isBranded_27 {r : Int32} {G1 : zx_G} : ∀ (n : Nat) (x1 : Int32) (G : zx_G), f_B_isBranded_27 n x1 G = some (r, G1) → ∀ q k, q ∉ A_B_isBranded → (q, k) ∉ O_B_isBranded → G1 q k = G q k := by
  intro n
  induction n with
  | zero => intro x1 G hf; cases hf
  | succ n ih =>
    intro x1 G hf
    unfold f_B_isBranded_27 at hf
    have hg : ∀ q k, q ∉ A_B_isBranded → (q, k) ∉ O_B_isBranded → G q k = G q k := fun _ _ _ _ => rfl
    obtain ⟨hb_1, hf⟩ := zx_gd_some hf
    rcases zx_if_some hf with ⟨hc_2, hf⟩ | ⟨hc_2, hf⟩
    · skip
      obtain ⟨hb_3, hf⟩ := zx_gd_some hf
      exact zv_ret hg hf
    · skip
      obtain ⟨hb_4, hf⟩ := zx_gd_some hf
      rcases zx_if_some hf with ⟨hc_5, hf⟩ | ⟨hc_5, hf⟩
      · skip
        obtain ⟨x1_6, ex1_6, hf⟩ := zx_lt_some hf
        exact zv_tr hg (ih x1_6 G hf)
      · skip
        obtain ⟨hb_7, hf⟩ := zx_gd_some hf
        exact zv_ret hg hf
theorem v_B_isBranded_0 {r : Int32} {G1 : zx_G} (G : zx_G) (hf : f_B_isBranded G = some (r, G1)) : ∀ q k, q ∉ A_B_isBranded → (q, k) ∉ O_B_isBranded → G1 q k = G q k := by
  unfold f_B_isBranded at hf
  have hg : ∀ q k, q ∉ A_B_isBranded → (q, k) ∉ O_B_isBranded → G q k = G q k := fun _ _ _ _ => rfl
  rcases zx_if_some hf with ⟨hc_1, hf⟩ | ⟨hc_1, hf⟩
  · skip
    exact zv_tr hg (v_B_isBranded_18 G hf)
  · skip
    obtain ⟨hb_2, hf⟩ := zx_gd_some hf
    rcases zx_if_some hf with ⟨hc_3, hf⟩ | ⟨hc_3, hf⟩
    · skip
      obtain ⟨hb_4, hf⟩ := zx_gd_some hf
      obtain ⟨x1_5, ex1_5, hf⟩ := zx_lt_some hf
      exact zv_tr hg (v_B_isBranded_27 2048 x1_5 G hf)
    · skip
      exact zv_tr hg (v_B_isBranded_18 G hf)
theorem v_B_isBranded (G : zx_G) {r : Int32} {G1 : zx_G} (hf : f_B_isBranded G = some (r, G1)) : ∀ q k, q ∉ A_B_isBranded → (q, k) ∉ O_B_isBranded → G1 q k = G q k := v_B_isBranded_0 G hf
abbrev A_B_first : List Nat := []
abbrev O_B_first : List (Nat × Nat) := []
theorem v_B_first_32 {r : Int32} {G1 : zx_G} {k2 : Int32 → Int32 → Int32 → zx_G → Option (Int32 × zx_G)} (hk2 : ∀ (x1 x2 x3 : Int32) (G : zx_G), k2 x1 x2 x3 G = some (r, G1) → ∀ q k, q ∉ A_B_first → (q, k) ∉ O_B_first → G1 q k = G q k) (x1 x2 x3 : Int32) (G : zx_G) (hf : f_B_first_32 k2 x1 x2 x3 G = some (r, G1)) : ∀ q k, q ∉ A_B_first → (q, k) ∉ O_B_first → G1 q k = G q k := by
  unfold f_B_first_32 at hf
  have hg : ∀ q k, q ∉ A_B_first → (q, k) ∉ O_B_first → G q k = G q k := fun _ _ _ _ => rfl
  obtain ⟨x3_1, ex3_1, hf⟩ := zx_lt_some hf
  exact zv_tr hg (hk2 x1 x2 x3_1 G hf)
theorem v_B_first_2 {r : Int32} {G1 : zx_G} : ∀ (n : Nat) (x1 x2 x3 : Int32) (G : zx_G), f_B_first_2 n x1 x2 x3 G = some (r, G1) → ∀ q k, q ∉ A_B_first → (q, k) ∉ O_B_first → G1 q k = G q k := by
  intro n
  induction n with
  | zero => intro x1 x2 x3 G hf; cases hf
  | succ n ih =>
    intro x1 x2 x3 G hf
    unfold f_B_first_2 at hf
    have hg : ∀ q k, q ∉ A_B_first → (q, k) ∉ O_B_first → G q k = G q k := fun _ _ _ _ => rfl
    rcases zx_if_some hf with ⟨hc_1, hf⟩ | ⟨hc_1, hf⟩
    · skip
      exact zv_ret hg hf
    · skip
      obtain ⟨hb_2, hf⟩ := zx_gd_some hf
      rcases zx_if_some hf with ⟨hc_3, hf⟩ | ⟨hc_3, hf⟩
      · skip
        exact zv_tr hg (v_B_first_32 ih x1 x2 x3 G hf)
      · skip
        obtain ⟨hb_4, hf⟩ := zx_gd_some hf
        rcases zx_if_some hf with ⟨hc_5, hf⟩ | ⟨hc_5, hf⟩
        · skip
          exact zv_tr hg (v_B_first_32 ih x1 x2 x3 G hf)
        · skip
          exact zv_ret hg hf
theorem v_B_first_0 {r : Int32} {G1 : zx_G} (x1 x2 : Int32) (G : zx_G) (hf : f_B_first x1 x2 G = some (r, G1)) : ∀ q k, q ∉ A_B_first → (q, k) ∉ O_B_first → G1 q k = G q k := by
  unfold f_B_first at hf
  have hg : ∀ q k, q ∉ A_B_first → (q, k) ∉ O_B_first → G q k = G q k := fun _ _ _ _ => rfl
  obtain ⟨x3_1, ex3_1, hf⟩ := zx_lt_some hf
  exact zv_tr hg (v_B_first_2 2048 x1 x2 x3_1 G hf)
theorem v_B_first (x1 x2 : Int32) (G : zx_G) {r : Int32} {G1 : zx_G} (hf : f_B_first x1 x2 G = some (r, G1)) : ∀ q k, q ∉ A_B_first → (q, k) ∉ O_B_first → G1 q k = G q k := v_B_first_0 x1 x2 G hf
abbrev A_B_contentLength : List Nat := []
abbrev O_B_contentLength : List (Nat × Nat) := []
theorem v_B_contentLength_0 {r : Int32} {G1 : zx_G} (x1 : Int32) (G : zx_G) (hf : f_B_contentLength x1 G = some (r, G1)) : ∀ q k, q ∉ A_B_contentLength → (q, k) ∉ O_B_contentLength → G1 q k = G q k := by
  unfold f_B_contentLength at hf
  have hg : ∀ q k, q ∉ A_B_contentLength → (q, k) ∉ O_B_contentLength → G q k = G q k := fun _ _ _ _ => rfl
  obtain ⟨hb_1, hf⟩ := zx_gd_some hf
  obtain ⟨hb_2, hf⟩ := zx_gd_some hf
  exact zv_ret hg hf
theorem v_B_contentLength (x1 : Int32) (G : zx_G) {r : Int32} {G1 : zx_G} (hf : f_B_contentLength x1 G = some (r, G1)) : ∀ q k, q ∉ A_B_contentLength → (q, k) ∉ O_B_contentLength → G1 q k = G q k := v_B_contentLength_0 x1 G hf
abbrev A_U_nextByte_10 : List Nat := []
abbrev O_U_nextByte_10 : List (Nat × Nat) := [(10, 1)]
theorem v_U_nextByte_10_0 {r : Int32} {G1 : zx_G} (G : zx_G) (hf : f_U_nextByte_10 G = some (r, G1)) : ∀ q k, q ∉ A_U_nextByte_10 → (q, k) ∉ O_U_nextByte_10 → G1 q k = G q k := by
  unfold f_U_nextByte_10 at hf
  have hg : ∀ q k, q ∉ A_U_nextByte_10 → (q, k) ∉ O_U_nextByte_10 → G q k = G q k := fun _ _ _ _ => rfl
  rcases zx_if_some hf with ⟨hc_1, hf⟩ | ⟨hc_1, hf⟩
  · skip
    obtain ⟨hb_2, hf⟩ := zx_gd_some hf
    obtain ⟨x1_3, ex1_3, hf⟩ := zx_lt_some hf
    obtain ⟨G_4, eG_4, hf⟩ := zx_lt_some hf
    have hg := zv_uo hg eG_4 (by decide)
    exact zv_ret hg hf
  · skip
    exact zv_ret hg hf
theorem v_U_nextByte_10 (G : zx_G) {r : Int32} {G1 : zx_G} (hf : f_U_nextByte_10 G = some (r, G1)) : ∀ q k, q ∉ A_U_nextByte_10 → (q, k) ∉ O_U_nextByte_10 → G1 q k = G q k := v_U_nextByte_10_0 G hf
abbrev A_U_skip_10 : List Nat := []
abbrev O_U_skip_10 : List (Nat × Nat) := [(10, 1)]
theorem v_U_skip_10_17 {r : Int32} {G1 : zx_G} (G : zx_G) (hf : f_U_skip_10_17 G = some (r, G1)) : ∀ q k, q ∉ A_U_skip_10 → (q, k) ∉ O_U_skip_10 → G1 q k = G q k := by
  unfold f_U_skip_10_17 at hf
  have hg : ∀ q k, q ∉ A_U_skip_10 → (q, k) ∉ O_U_skip_10 → G q k = G q k := fun _ _ _ _ => rfl
  obtain ⟨hb_1, hf⟩ := zx_gd_some hf
  exact zv_ret hg hf
theorem v_U_skip_10_0 {r : Int32} {G1 : zx_G} (x1 : Int32) (G : zx_G) (hf : f_U_skip_10 x1 G = some (r, G1)) : ∀ q k, q ∉ A_U_skip_10 → (q, k) ∉ O_U_skip_10 → G1 q k = G q k := by
  unfold f_U_skip_10 at hf
  have hg : ∀ q k, q ∉ A_U_skip_10 → (q, k) ∉ O_U_skip_10 → G q k = G q k := fun _ _ _ _ => rfl
  rcases zx_if_some hf with ⟨hc_1, hf⟩ | ⟨hc_1, hf⟩
  · skip
    exact zv_tr hg (v_U_skip_10_17 G hf)
  · skip
    rcases zx_if_some hf with ⟨hc_2, hf⟩ | ⟨hc_2, hf⟩
    · skip
      obtain ⟨G_3, eG_3, hf⟩ := zx_lt_some hf
      have hg := zv_uo hg eG_3 (by decide)
      obtain ⟨hb_4, hf⟩ := zx_gd_some hf
      exact zv_ret hg hf
    · skip
      exact zv_tr hg (v_U_skip_10_17 G hf)
theorem v_U_skip_10 (x1 : Int32) (G : zx_G) {r : Int32} {G1 : zx_G} (hf : f_U_skip_10 x1 G = some (r, G1)) : ∀ q k, q ∉ A_U_skip_10 → (q, k) ∉ O_U_skip_10 → G1 q k = G q k := v_U_skip_10_0 x1 G hf
abbrev A_I_readPairs : List Nat := [9]
abbrev O_I_readPairs : List (Nat × Nat) := [(8, 4), (10, 1)]
theorem v_I_readPairs_60 {r : Int32} {G1 : zx_G} (G : zx_G) (hf : f_I_readPairs_60 G = some (r, G1)) : ∀ q k, q ∉ A_I_readPairs → (q, k) ∉ O_I_readPairs → G1 q k = G q k := by
  unfold f_I_readPairs_60 at hf
  have hg : ∀ q k, q ∉ A_I_readPairs → (q, k) ∉ O_I_readPairs → G q k = G q k := fun _ _ _ _ => rfl
  exact zv_ret hg hf
theorem v_I_readPairs_7 {r : Int32} {G1 : zx_G} : ∀ (n : Nat) (x1 x2 : Int32) (G : zx_G), f_I_readPairs_7 n x1 x2 G = some (r, G1) → ∀ q k, q ∉ A_I_readPairs → (q, k) ∉ O_I_readPairs → G1 q k = G q k := by
  intro n
  induction n with
  | zero => intro x1 x2 G hf; cases hf
  | succ n ih =>
    intro x1 x2 G hf
    unfold f_I_readPairs_7 at hf
    have hg : ∀ q k, q ∉ A_I_readPairs → (q, k) ∉ O_I_readPairs → G q k = G q k := fun _ _ _ _ => rfl
    rcases zx_if_some hf with ⟨hc_1, hf⟩ | ⟨hc_1, hf⟩
    · skip
      exact zv_ret hg hf
    · skip
      obtain ⟨r_3, G_2, hq_4, hf⟩ := zx_bd_some hf
      have hg := zv_call hg (v_U_nextByte_10 G hq_4) (by decide) (by decide)
      obtain ⟨x3_5, ex3_5, hf⟩ := zx_lt_some hf
      obtain ⟨r_7, G_6, hq_8, hf⟩ := zx_bd_some hf
      have hg := zv_call hg (v_U_nextByte_10 G_2 hq_8) (by decide) (by decide)
      obtain ⟨x4_9, ex4_9, hf⟩ := zx_lt_some hf
      rcases zx_if_some hf with ⟨hc_10, hf⟩ | ⟨hc_10, hf⟩
      · skip
        rcases zx_if_some hf with ⟨hc_11, hf⟩ | ⟨hc_11, hf⟩
        · skip
          exact zv_tr hg (v_I_readPairs_60 G_6 hf)
        · skip
          rcases zx_if_some hf with ⟨hc_12, hf⟩ | ⟨hc_12, hf⟩
          · skip
            obtain ⟨hb_13, hf⟩ := zx_gd_some hf
            obtain ⟨G_14, eG_14, hf⟩ := zx_lt_some hf
            have hg := zv_cp hg eG_14 (by decide)
            obtain ⟨G_15, eG_15, hf⟩ := zx_lt_some hf
            have hg := zv_uo hg eG_15 (by decide)
            obtain ⟨x2_16, ex2_16, hf⟩ := zx_lt_some hf
            exact zv_tr hg (ih x1 x2_16 G_15 hf)
          · skip
            exact zv_tr hg (v_I_readPairs_60 G_6 hf)
      · skip
        exact zv_ret hg hf
theorem v_I_readPairs_0 {r : Int32} {G1 : zx_G} (x1 : Int32) (G : zx_G) (hf : f_I_readPairs x1 G = some (r, G1)) : ∀ q k, q ∉ A_I_readPairs → (q, k) ∉ O_I_readPairs → G1 q k = G q k := by
  unfold f_I_readPairs at hf
  have hg : ∀ q k, q ∉ A_I_readPairs → (q, k) ∉ O_I_readPairs → G q k = G q k := fun _ _ _ _ => rfl
  obtain ⟨G_1, eG_1, hf⟩ := zx_lt_some hf
  have hg := zv_uo hg eG_1 (by decide)
  obtain ⟨x2_2, ex2_2, hf⟩ := zx_lt_some hf
  exact zv_tr hg (v_I_readPairs_7 2048 x1 x2_2 G_1 hf)
theorem v_I_readPairs (x1 : Int32) (G : zx_G) {r : Int32} {G1 : zx_G} (hf : f_I_readPairs x1 G = some (r, G1)) : ∀ q k, q ∉ A_I_readPairs → (q, k) ∉ O_I_readPairs → G1 q k = G q k := v_I_readPairs_0 x1 G hf
abbrev A_U_open_10 : List Nat := []
abbrev O_U_open_10 : List (Nat × Nat) := [(10, 1), (10, 2), (10, 3)]
theorem v_U_open_10_0 {r : Int32} {G1 : zx_G} (x1 x2 : Int32) (G : zx_G) (hf : f_U_open_10 x1 x2 G = some (r, G1)) : ∀ q k, q ∉ A_U_open_10 → (q, k) ∉ O_U_open_10 → G1 q k = G q k := by
  unfold f_U_open_10 at hf
  have hg : ∀ q k, q ∉ A_U_open_10 → (q, k) ∉ O_U_open_10 → G q k = G q k := fun _ _ _ _ => rfl
  obtain ⟨G_1, eG_1, hf⟩ := zx_lt_some hf
  have hg := zv_uo hg eG_1 (by decide)
  obtain ⟨G_2, eG_2, hf⟩ := zx_lt_some hf
  have hg := zv_uo hg eG_2 (by decide)
  obtain ⟨G_3, eG_3, hf⟩ := zx_lt_some hf
  have hg := zv_uo hg eG_3 (by decide)
  exact zv_ret hg hf
theorem v_U_open_10 (x1 x2 : Int32) (G : zx_G) {r : Int32} {G1 : zx_G} (hf : f_U_open_10 x1 x2 G = some (r, G1)) : ∀ q k, q ∉ A_U_open_10 → (q, k) ∉ O_U_open_10 → G1 q k = G q k := v_U_open_10_0 x1 x2 G hf
abbrev A_I_readPlaces : List Nat := [9]
abbrev O_I_readPlaces : List (Nat × Nat) := [(8, 4), (10, 1), (10, 2), (10, 3)]
theorem v_I_readPlaces_35 {r : Int32} {G1 : zx_G} : ∀ (n : Nat) (x2 x3 : Int32) (G : zx_G), f_I_readPlaces_35 n x2 x3 G = some (r, G1) → ∀ q k, q ∉ A_I_readPlaces → (q, k) ∉ O_I_readPlaces → G1 q k = G q k := by
  intro n
  induction n with
  | zero => intro x2 x3 G hf; cases hf
  | succ n ih =>
    intro x2 x3 G hf
    unfold f_I_readPlaces_35 at hf
    have hg : ∀ q k, q ∉ A_I_readPlaces → (q, k) ∉ O_I_readPlaces → G q k = G q k := fun _ _ _ _ => rfl
    rcases zx_if_some hf with ⟨hc_1, hf⟩ | ⟨hc_1, hf⟩
    · skip
      exact zv_ret hg hf
    · skip
      obtain ⟨r_3, G_2, hq_4, hf⟩ := zx_bd_some hf
      have hg := zv_call hg (v_U_nextByte_10 G hq_4) (by decide) (by decide)
      obtain ⟨x4_5, ex4_5, hf⟩ := zx_lt_some hf
      obtain ⟨r_7, G_6, hq_8, hf⟩ := zx_bd_some hf
      have hg := zv_call hg (v_U_nextByte_10 G_2 hq_8) (by decide) (by decide)
      obtain ⟨x5_9, ex5_9, hf⟩ := zx_lt_some hf
      rcases zx_if_some hf with ⟨hc_10, hf⟩ | ⟨hc_10, hf⟩
      · skip
        rcases zx_if_some hf with ⟨hc_11, hf⟩ | ⟨hc_11, hf⟩
        · skip
          obtain ⟨r_13, G_12, hq_14, hf⟩ := zx_bd_some hf
          have hg := zv_call hg (v_U_skip_10 ((2 : Int32) * x5_9) G_6 hq_14) (by decide) (by decide)
          rcases zx_if_some hf with ⟨hc_15, hf⟩ | ⟨hc_15, hf⟩
          · skip
            obtain ⟨x3_16, ex3_16, hf⟩ := zx_lt_some hf
            exact zv_tr hg (ih x2 x3_16 G_12 hf)
          · skip
            exact zv_ret hg hf
        · skip
          obtain ⟨r_18, G_17, hq_19, hf⟩ := zx_bd_some hf
          have hg := zv_call hg (v_I_readPairs x5_9 G_6 hq_19) (by decide) (by decide)
          exact zv_ret hg hf
      · skip
        exact zv_ret hg hf
theorem v_I_readPlaces_0 {r : Int32} {G1 : zx_G} (x1 : Int32) (G : zx_G) (hf : f_I_readPlaces x1 G = some (r, G1)) : ∀ q k, q ∉ A_I_readPlaces → (q, k) ∉ O_I_readPlaces → G1 q k = G q k := by
  unfold f_I_readPlaces at hf
  have hg : ∀ q k, q ∉ A_I_readPlaces → (q, k) ∉ O_I_readPlaces → G q k = G q k := fun _ _ _ _ => rfl
  obtain ⟨hb_1, hf⟩ := zx_gd_some hf
  obtain ⟨hb_2, hf⟩ := zx_gd_some hf
  obtain ⟨r_4, G_3, hq_5, hf⟩ := zx_bd_some hf
  have hg := zv_call hg (v_U_open_10 (G 4 (Int32.toNatClampNeg x1)) (G 5 (Int32.toNatClampNeg x1)) G hq_5) (by decide) (by decide)
  obtain ⟨r_7, G_6, hq_8, hf⟩ := zx_bd_some hf
  have hg := zv_call hg (v_U_nextByte_10 G_3 hq_8) (by decide) (by decide)
  obtain ⟨x2_9, ex2_9, hf⟩ := zx_lt_some hf
  obtain ⟨x3_10, ex3_10, hf⟩ := zx_lt_some hf
  exact zv_tr hg (v_I_readPlaces_35 2048 x2_9 x3_10 G_6 hf)
theorem v_I_readPlaces (x1 : Int32) (G : zx_G) {r : Int32} {G1 : zx_G} (hf : f_I_readPlaces x1 G = some (r, G1)) : ∀ q k, q ∉ A_I_readPlaces → (q, k) ∉ O_I_readPlaces → G1 q k = G q k := v_I_readPlaces_0 x1 G hf
abbrev A_I_areLinksWhole : List Nat := []
abbrev O_I_areLinksWhole : List (Nat × Nat) := []
theorem v_I_areLinksWhole_16 {r : Int32} {G1 : zx_G} (G : zx_G) (hf : f_I_areLinksWhole_16 G = some (r, G1)) : ∀ q k, q ∉ A_I_areLinksWhole → (q, k) ∉ O_I_areLinksWhole → G1 q k = G q k := by
  unfold f_I_areLinksWhole_16 at hf
  have hg : ∀ q k, q ∉ A_I_areLinksWhole → (q, k) ∉ O_I_areLinksWhole → G q k = G q k := fun _ _ _ _ => rfl
  obtain ⟨hb_1, hf⟩ := zx_gd_some hf
  exact zv_ret hg hf
theorem v_I_areLinksWhole_48 {r : Int32} {G1 : zx_G} (G : zx_G) (hf : f_I_areLinksWhole_48 G = some (r, G1)) : ∀ q k, q ∉ A_I_areLinksWhole → (q, k) ∉ O_I_areLinksWhole → G1 q k = G q k := by
  unfold f_I_areLinksWhole_48 at hf
  have hg : ∀ q k, q ∉ A_I_areLinksWhole → (q, k) ∉ O_I_areLinksWhole → G q k = G q k := fun _ _ _ _ => rfl
  obtain ⟨hb_1, hf⟩ := zx_gd_some hf
  exact zv_ret hg hf
theorem v_I_areLinksWhole_102 {r : Int32} {G1 : zx_G} (s0 : Int32) (G : zx_G) (hf : f_I_areLinksWhole_102 s0 G = some (r, G1)) : ∀ q k, q ∉ A_I_areLinksWhole → (q, k) ∉ O_I_areLinksWhole → G1 q k = G q k := by
  unfold f_I_areLinksWhole_102 at hf
  have hg : ∀ q k, q ∉ A_I_areLinksWhole → (q, k) ∉ O_I_areLinksWhole → G q k = G q k := fun _ _ _ _ => rfl
  obtain ⟨hb_1, hf⟩ := zx_gd_some hf
  exact zv_ret hg hf
theorem v_I_areLinksWhole_101 {r : Int32} {G1 : zx_G} (G : zx_G) (hf : f_I_areLinksWhole_101 G = some (r, G1)) : ∀ q k, q ∉ A_I_areLinksWhole → (q, k) ∉ O_I_areLinksWhole → G1 q k = G q k := by
  unfold f_I_areLinksWhole_101 at hf
  have hg : ∀ q k, q ∉ A_I_areLinksWhole → (q, k) ∉ O_I_areLinksWhole → G q k = G q k := fun _ _ _ _ => rfl
  exact zv_tr hg (v_I_areLinksWhole_102 (0 : Int32) G hf)
theorem v_I_areLinksWhole_0 {r : Int32} {G1 : zx_G} (G : zx_G) (hf : f_I_areLinksWhole G = some (r, G1)) : ∀ q k, q ∉ A_I_areLinksWhole → (q, k) ∉ O_I_areLinksWhole → G1 q k = G q k := by
  unfold f_I_areLinksWhole at hf
  have hg : ∀ q k, q ∉ A_I_areLinksWhole → (q, k) ∉ O_I_areLinksWhole → G q k = G q k := fun _ _ _ _ => rfl
  rcases zx_if_some hf with ⟨hc_1, hf⟩ | ⟨hc_1, hf⟩
  · skip
    exact zv_tr hg (v_I_areLinksWhole_16 G hf)
  · skip
    rcases zx_if_some hf with ⟨hc_2, hf⟩ | ⟨hc_2, hf⟩
    · skip
      obtain ⟨r_4, G_3, hq_5, hf⟩ := zx_bd_some hf
      have hg := zv_call hg (v_B_contentLength (G 8 8) G hq_5) (by decide) (by decide)
      rcases zx_if_some hf with ⟨hc_6, hf⟩ | ⟨hc_6, hf⟩
      · skip
        exact zv_tr hg (v_I_areLinksWhole_48 G_3 hf)
      · skip
        obtain ⟨r_8, G_7, hq_9, hf⟩ := zx_bd_some hf
        have hg := zv_call hg (v_B_contentLength (G_3 8 9) G_3 hq_9) (by decide) (by decide)
        rcases zx_if_some hf with ⟨hc_10, hf⟩ | ⟨hc_10, hf⟩
        · skip
          rcases zx_if_some hf with ⟨hc_11, hf⟩ | ⟨hc_11, hf⟩
          · skip
            obtain ⟨r_13, G_12, hq_14, hf⟩ := zx_bd_some hf
            have hg := zv_call hg (v_B_contentLength (G_7 8 10) G_7 hq_14) (by decide) (by decide)
            obtain ⟨x1_15, ex1_15, hf⟩ := zx_lt_some hf
            rcases zx_if_some hf with ⟨hc_16, hf⟩ | ⟨hc_16, hf⟩
            · skip
              exact zv_tr hg (v_I_areLinksWhole_101 G_12 hf)
            · skip
              obtain ⟨hb_17, hf⟩ := zx_gd_some hf
              obtain ⟨hb_18, hf⟩ := zx_gd_some hf
              rcases zx_if_some hf with ⟨hc_19, hf⟩ | ⟨hc_19, hf⟩
              · skip
                exact zv_tr hg (v_I_areLinksWhole_101 G_12 hf)
              · skip
                exact zv_tr hg (v_I_areLinksWhole_102 (1 : Int32) G_12 hf)
          · skip
            obtain ⟨hb_20, hf⟩ := zx_gd_some hf
            exact zv_ret hg hf
        · skip
          exact zv_tr hg (v_I_areLinksWhole_48 G_7 hf)
    · skip
      exact zv_tr hg (v_I_areLinksWhole_16 G hf)
theorem v_I_areLinksWhole (G : zx_G) {r : Int32} {G1 : zx_G} (hf : f_I_areLinksWhole G = some (r, G1)) : ∀ q k, q ∉ A_I_areLinksWhole → (q, k) ∉ O_I_areLinksWhole → G1 q k = G q k := v_I_areLinksWhole_0 G hf
abbrev A_U_left_10 : List Nat := []
abbrev O_U_left_10 : List (Nat × Nat) := []
theorem v_U_left_10_0 {r : Int32} {G1 : zx_G} (G : zx_G) (hf : f_U_left_10 G = some (r, G1)) : ∀ q k, q ∉ A_U_left_10 → (q, k) ∉ O_U_left_10 → G1 q k = G q k := by
  unfold f_U_left_10 at hf
  have hg : ∀ q k, q ∉ A_U_left_10 → (q, k) ∉ O_U_left_10 → G q k = G q k := fun _ _ _ _ => rfl
  exact zv_ret hg hf
theorem v_U_left_10 (G : zx_G) {r : Int32} {G1 : zx_G} (hf : f_U_left_10 G = some (r, G1)) : ∀ q k, q ∉ A_U_left_10 → (q, k) ∉ O_U_left_10 → G1 q k = G q k := v_U_left_10_0 G hf
abbrev A_B_property : List Nat := []
abbrev O_B_property : List (Nat × Nat) := []
theorem v_B_property_48 {r : Int32} {G1 : zx_G} {k5 : Int32 → Int32 → Int32 → Int32 → zx_G → Option (Int32 × zx_G)} (hk5 : ∀ (x1 x2 x3 x4 : Int32) (G : zx_G), k5 x1 x2 x3 x4 G = some (r, G1) → ∀ q k, q ∉ A_B_property → (q, k) ∉ O_B_property → G1 q k = G q k) (x1 x2 x3 x4 : Int32) (G : zx_G) (hf : f_B_property_48 k5 x1 x2 x3 x4 G = some (r, G1)) : ∀ q k, q ∉ A_B_property → (q, k) ∉ O_B_property → G1 q k = G q k := by
  unfold f_B_property_48 at hf
  have hg : ∀ q k, q ∉ A_B_property → (q, k) ∉ O_B_property → G q k = G q k := fun _ _ _ _ => rfl
  obtain ⟨x4_1, ex4_1, hf⟩ := zx_lt_some hf
  exact zv_tr hg (hk5 x1 x2 x3 x4_1 G hf)
theorem v_B_property_5 {r : Int32} {G1 : zx_G} : ∀ (n : Nat) (x1 x2 x3 x4 : Int32) (G : zx_G), f_B_property_5 n x1 x2 x3 x4 G = some (r, G1) → ∀ q k, q ∉ A_B_property → (q, k) ∉ O_B_property → G1 q k = G q k := by
  intro n
  induction n with
  | zero => intro x1 x2 x3 x4 G hf; cases hf
  | succ n ih =>
    intro x1 x2 x3 x4 G hf
    unfold f_B_property_5 at hf
    have hg : ∀ q k, q ∉ A_B_property → (q, k) ∉ O_B_property → G q k = G q k := fun _ _ _ _ => rfl
    rcases zx_if_some hf with ⟨hc_1, hf⟩ | ⟨hc_1, hf⟩
    · skip
      exact zv_ret hg hf
    · skip
      obtain ⟨hb_2, hf⟩ := zx_gd_some hf
      rcases zx_if_some hf with ⟨hc_3, hf⟩ | ⟨hc_3, hf⟩
      · skip
        exact zv_tr hg (v_B_property_48 ih x1 x2 x3 x4 G hf)
      · skip
        obtain ⟨hb_4, hf⟩ := zx_gd_some hf
        rcases zx_if_some hf with ⟨hc_5, hf⟩ | ⟨hc_5, hf⟩
        · skip
          exact zv_tr hg (v_B_property_48 ih x1 x2 x3 x4 G hf)
        · skip
          obtain ⟨x3_6, ex3_6, hf⟩ := zx_lt_some hf
          rcases zx_if_some hf with ⟨hc_7, hf⟩ | ⟨hc_7, hf⟩
          · skip
            exact zv_tr hg (v_B_property_48 ih x1 x2 x3_6 x4 G hf)
          · skip
            exact zv_ret hg hf
theorem v_B_property_0 {r : Int32} {G1 : zx_G} (x1 x2 : Int32) (G : zx_G) (hf : f_B_property x1 x2 G = some (r, G1)) : ∀ q k, q ∉ A_B_property → (q, k) ∉ O_B_property → G1 q k = G q k := by
  unfold f_B_property at hf
  have hg : ∀ q k, q ∉ A_B_property → (q, k) ∉ O_B_property → G q k = G q k := fun _ _ _ _ => rfl
  obtain ⟨x3_1, ex3_1, hf⟩ := zx_lt_some hf
  obtain ⟨x4_2, ex4_2, hf⟩ := zx_lt_some hf
  exact zv_tr hg (v_B_property_5 2048 x1 x2 x3_1 x4_2 G hf)
theorem v_B_property (x1 x2 : Int32) (G : zx_G) {r : Int32} {G1 : zx_G} (hf : f_B_property x1 x2 G = some (r, G1)) : ∀ q k, q ∉ A_B_property → (q, k) ∉ O_B_property → G1 q k = G q k := v_B_property_0 x1 x2 G hf
abbrev A_I_link : List Nat := []
abbrev O_I_link : List (Nat × Nat) := [(8, 8), (8, 9), (8, 10)]
theorem v_I_link_140 {r : Int32} {G1 : zx_G} (G : zx_G) (hf : f_I_link_140 G = some (r, G1)) : ∀ q k, q ∉ A_I_link → (q, k) ∉ O_I_link → G1 q k = G q k := by
  unfold f_I_link_140 at hf
  have hg : ∀ q k, q ∉ A_I_link → (q, k) ∉ O_I_link → G q k = G q k := fun _ _ _ _ => rfl
  exact zv_ret hg hf
theorem v_I_link_65 {r : Int32} {G1 : zx_G} (s1 : Int32) (G : zx_G) (hf : f_I_link_65 s1 G = some (r, G1)) : ∀ q k, q ∉ A_I_link → (q, k) ∉ O_I_link → G1 q k = G q k := by
  unfold f_I_link_65 at hf
  have hg : ∀ q k, q ∉ A_I_link → (q, k) ∉ O_I_link → G q k = G q k := fun _ _ _ _ => rfl
  obtain ⟨G_1, eG_1, hf⟩ := zx_lt_some hf
  have hg := zv_uo hg eG_1 (by decide)
  exact zv_tr hg (v_I_link_140 G_1 hf)
theorem v_I_link_95 {r : Int32} {G1 : zx_G} (s1 : Int32) (G : zx_G) (hf : f_I_link_95 s1 G = some (r, G1)) : ∀ q k, q ∉ A_I_link → (q, k) ∉ O_I_link → G1 q k = G q k := by
  unfold f_I_link_95 at hf
  have hg : ∀ q k, q ∉ A_I_link → (q, k) ∉ O_I_link → G q k = G q k := fun _ _ _ _ => rfl
  obtain ⟨G_1, eG_1, hf⟩ := zx_lt_some hf
  have hg := zv_uo hg eG_1 (by decide)
  exact zv_tr hg (v_I_link_140 G_1 hf)
theorem v_I_link_125 {r : Int32} {G1 : zx_G} (s1 : Int32) (G : zx_G) (hf : f_I_link_125 s1 G = some (r, G1)) : ∀ q k, q ∉ A_I_link → (q, k) ∉ O_I_link → G1 q k = G q k := by
  unfold f_I_link_125 at hf
  have hg : ∀ q k, q ∉ A_I_link → (q, k) ∉ O_I_link → G q k = G q k := fun _ _ _ _ => rfl
  obtain ⟨G_1, eG_1, hf⟩ := zx_lt_some hf
  have hg := zv_uo hg eG_1 (by decide)
  exact zv_tr hg (v_I_link_140 G_1 hf)
theorem v_I_link_0 {r : Int32} {G1 : zx_G} (x1 : Int32) (G : zx_G) (hf : f_I_link x1 G = some (r, G1)) : ∀ q k, q ∉ A_I_link → (q, k) ∉ O_I_link → G1 q k = G q k := by
  unfold f_I_link at hf
  have hg : ∀ q k, q ∉ A_I_link → (q, k) ∉ O_I_link → G q k = G q k := fun _ _ _ _ => rfl
  obtain ⟨x2_1, ex2_1, hf⟩ := zx_lt_some hf
  rcases zx_if_some hf with ⟨hc_2, hf⟩ | ⟨hc_2, hf⟩
  · skip
    obtain ⟨r_4, G_3, hq_5, hf⟩ := zx_bd_some hf
    have hg := zv_call hg (v_B_property (G 8 7) x2_1 G hq_5) (by decide) (by decide)
    obtain ⟨x3_6, ex3_6, hf⟩ := zx_lt_some hf
    rcases zx_if_some hf with ⟨hc_7, hf⟩ | ⟨hc_7, hf⟩
    · skip
      obtain ⟨hb_8, hf⟩ := zx_gd_some hf
      obtain ⟨x4_9, ex4_9, hf⟩ := zx_lt_some hf
      rcases zx_if_some hf with ⟨hc_10, hf⟩ | ⟨hc_10, hf⟩
      · skip
        rcases zx_if_some hf with ⟨hc_11, hf⟩ | ⟨hc_11, hf⟩
        · skip
          rcases zx_if_some hf with ⟨hc_12, hf⟩ | ⟨hc_12, hf⟩
          · skip
            rcases zx_if_some hf with ⟨hc_13, hf⟩ | ⟨hc_13, hf⟩
            · skip
              exact zv_tr hg (v_I_link_140 G_3 hf)
            · skip
              exact zv_ret hg hf
          · skip
            rcases zx_if_some hf with ⟨hc_14, hf⟩ | ⟨hc_14, hf⟩
            · skip
              exact zv_tr hg (v_I_link_125 (G_3 8 10) G_3 hf)
            · skip
              exact zv_tr hg (v_I_link_125 x3_6 G_3 hf)
        · skip
          rcases zx_if_some hf with ⟨hc_15, hf⟩ | ⟨hc_15, hf⟩
          · skip
            exact zv_tr hg (v_I_link_95 (G_3 8 9) G_3 hf)
          · skip
            exact zv_tr hg (v_I_link_95 x3_6 G_3 hf)
      · skip
        rcases zx_if_some hf with ⟨hc_16, hf⟩ | ⟨hc_16, hf⟩
        · skip
          exact zv_tr hg (v_I_link_65 (G_3 8 8) G_3 hf)
        · skip
          exact zv_tr hg (v_I_link_65 x3_6 G_3 hf)
    · skip
      exact zv_ret hg hf
  · skip
    exact zv_ret hg hf
theorem v_I_link (x1 : Int32) (G : zx_G) {r : Int32} {G1 : zx_G} (hf : f_I_link x1 G = some (r, G1)) : ∀ q k, q ∉ A_I_link → (q, k) ∉ O_I_link → G1 q k = G q k := v_I_link_0 x1 G hf
abbrev A_I_readLink : List Nat := []
abbrev O_I_readLink : List (Nat × Nat) := [(8, 8), (8, 9), (8, 10), (10, 1)]
theorem v_I_readLink_63 {r : Int32} {G1 : zx_G} {k24 : Int32 → Int32 → Int32 → zx_G → Option (Int32 × zx_G)} (hk24 : ∀ (x1 x2 x3 : Int32) (G : zx_G), k24 x1 x2 x3 G = some (r, G1) → ∀ q k, q ∉ A_I_readLink → (q, k) ∉ O_I_readLink → G1 q k = G q k) (x1 x2 x3 s0 : Int32) (G : zx_G) (hf : f_I_readLink_63 k24 x1 x2 x3 s0 G = some (r, G1)) : ∀ q k, q ∉ A_I_readLink → (q, k) ∉ O_I_readLink → G1 q k = G q k := by
  unfold f_I_readLink_63 at hf
  have hg : ∀ q k, q ∉ A_I_readLink → (q, k) ∉ O_I_readLink → G q k = G q k := fun _ _ _ _ => rfl
  obtain ⟨x5_1, ex5_1, hf⟩ := zx_lt_some hf
  rcases zx_if_some hf with ⟨hc_2, hf⟩ | ⟨hc_2, hf⟩
  · skip
    obtain ⟨x3_3, ex3_3, hf⟩ := zx_lt_some hf
    exact zv_tr hg (hk24 x1 x2 x3_3 G hf)
  · skip
    exact zv_ret hg hf
theorem v_I_readLink_24 {r : Int32} {G1 : zx_G} : ∀ (n : Nat) (x1 x2 x3 : Int32) (G : zx_G), f_I_readLink_24 n x1 x2 x3 G = some (r, G1) → ∀ q k, q ∉ A_I_readLink → (q, k) ∉ O_I_readLink → G1 q k = G q k := by
  intro n
  induction n with
  | zero => intro x1 x2 x3 G hf; cases hf
  | succ n ih =>
    intro x1 x2 x3 G hf
    unfold f_I_readLink_24 at hf
    have hg : ∀ q k, q ∉ A_I_readLink → (q, k) ∉ O_I_readLink → G q k = G q k := fun _ _ _ _ => rfl
    rcases zx_if_some hf with ⟨hc_1, hf⟩ | ⟨hc_1, hf⟩
    · skip
      exact zv_ret hg hf
    · skip
      obtain ⟨r_3, G_2, hq_4, hf⟩ := zx_bd_some hf
      have hg := zv_call hg (v_U_nextByte_10 G hq_4) (by decide) (by decide)
      obtain ⟨x4_5, ex4_5, hf⟩ := zx_lt_some hf
      rcases zx_if_some hf with ⟨hc_6, hf⟩ | ⟨hc_6, hf⟩
      · skip
        rcases zx_if_some hf with ⟨hc_7, hf⟩ | ⟨hc_7, hf⟩
        · skip
          exact zv_tr hg (v_I_readLink_63 ih x1 x2 x3 (0 : Int32) G_2 hf)
        · skip
          obtain ⟨r_9, G_8, hq_10, hf⟩ := zx_bd_some hf
          have hg := zv_call hg (v_I_link x4_5 G_2 hq_10) (by decide) (by decide)
          exact zv_tr hg (v_I_readLink_63 ih x1 x2 x3 r_9 G_8 hf)
      · skip
        exact zv_ret hg hf
theorem v_I_readLink_0 {r : Int32} {G1 : zx_G} (G : zx_G) (hf : f_I_readLink G = some (r, G1)) : ∀ q k, q ∉ A_I_readLink → (q, k) ∉ O_I_readLink → G1 q k = G q k := by
  unfold f_I_readLink at hf
  have hg : ∀ q k, q ∉ A_I_readLink → (q, k) ∉ O_I_readLink → G q k = G q k := fun _ _ _ _ => rfl
  obtain ⟨r_2, G_1, hq_3, hf⟩ := zx_bd_some hf
  have hg := zv_call hg (v_U_nextByte_10 G hq_3) (by decide) (by decide)
  obtain ⟨x1_4, ex1_4, hf⟩ := zx_lt_some hf
  obtain ⟨r_6, G_5, hq_7, hf⟩ := zx_bd_some hf
  have hg := zv_call hg (v_U_nextByte_10 G_1 hq_7) (by decide) (by decide)
  obtain ⟨x2_8, ex2_8, hf⟩ := zx_lt_some hf
  rcases zx_if_some hf with ⟨hc_9, hf⟩ | ⟨hc_9, hf⟩
  · skip
    obtain ⟨x3_10, ex3_10, hf⟩ := zx_lt_some hf
    exact zv_tr hg (v_I_readLink_24 2048 x1_4 x2_8 x3_10 G_5 hf)
  · skip
    exact zv_ret hg hf
theorem v_I_readLink (G : zx_G) {r : Int32} {G1 : zx_G} (hf : f_I_readLink G = some (r, G1)) : ∀ q k, q ∉ A_I_readLink → (q, k) ∉ O_I_readLink → G1 q k = G q k := v_I_readLink_0 G hf
abbrev A_I_readLinks : List Nat := []
abbrev O_I_readLinks : List (Nat × Nat) := [(8, 8), (8, 9), (8, 10), (10, 1), (10, 2), (10, 3)]
theorem v_I_readLinks_88 {r : Int32} {G1 : zx_G} (s0 : Int32) (G : zx_G) (hf : f_I_readLinks_88 s0 G = some (r, G1)) : ∀ q k, q ∉ A_I_readLinks → (q, k) ∉ O_I_readLinks → G1 q k = G q k := by
  unfold f_I_readLinks_88 at hf
  have hg : ∀ q k, q ∉ A_I_readLinks → (q, k) ∉ O_I_readLinks → G q k = G q k := fun _ _ _ _ => rfl
  exact zv_ret hg hf
theorem v_I_readLinks_76 {r : Int32} {G1 : zx_G} (G : zx_G) (hf : f_I_readLinks_76 G = some (r, G1)) : ∀ q k, q ∉ A_I_readLinks → (q, k) ∉ O_I_readLinks → G1 q k = G q k := by
  unfold f_I_readLinks_76 at hf
  have hg : ∀ q k, q ∉ A_I_readLinks → (q, k) ∉ O_I_readLinks → G q k = G q k := fun _ _ _ _ => rfl
  obtain ⟨r_2, G_1, hq_3, hf⟩ := zx_bd_some hf
  have hg := zv_call hg (v_I_areLinksWhole G hq_3) (by decide) (by decide)
  rcases zx_if_some hf with ⟨hc_4, hf⟩ | ⟨hc_4, hf⟩
  · skip
    exact zv_tr hg (v_I_readLinks_88 (3 : Int32) G_1 hf)
  · skip
    exact zv_tr hg (v_I_readLinks_88 (0 : Int32) G_1 hf)
theorem v_I_readLinks_42 {r : Int32} {G1 : zx_G} : ∀ (n : Nat) (x2 : Int32) (G : zx_G), f_I_readLinks_42 n x2 G = some (r, G1) → ∀ q k, q ∉ A_I_readLinks → (q, k) ∉ O_I_readLinks → G1 q k = G q k := by
  intro n
  induction n with
  | zero => intro x2 G hf; cases hf
  | succ n ih =>
    intro x2 G hf
    unfold f_I_readLinks_42 at hf
    have hg : ∀ q k, q ∉ A_I_readLinks → (q, k) ∉ O_I_readLinks → G q k = G q k := fun _ _ _ _ => rfl
    rcases zx_if_some hf with ⟨hc_1, hf⟩ | ⟨hc_1, hf⟩
    · skip
      exact zv_tr hg (v_I_readLinks_76 G hf)
    · skip
      obtain ⟨r_3, G_2, hq_4, hf⟩ := zx_bd_some hf
      have hg := zv_call hg (v_U_left_10 G hq_4) (by decide) (by decide)
      rcases zx_if_some hf with ⟨hc_5, hf⟩ | ⟨hc_5, hf⟩
      · skip
        exact zv_tr hg (v_I_readLinks_76 G_2 hf)
      · skip
        obtain ⟨r_7, G_6, hq_8, hf⟩ := zx_bd_some hf
        have hg := zv_call hg (v_I_readLink G_2 hq_8) (by decide) (by decide)
        obtain ⟨x3_9, ex3_9, hf⟩ := zx_lt_some hf
        rcases zx_if_some hf with ⟨hc_10, hf⟩ | ⟨hc_10, hf⟩
        · skip
          obtain ⟨x2_11, ex2_11, hf⟩ := zx_lt_some hf
          exact zv_tr hg (ih x2_11 G_6 hf)
        · skip
          exact zv_ret hg hf
theorem v_I_readLinks_0 {r : Int32} {G1 : zx_G} (x1 : Int32) (G : zx_G) (hf : f_I_readLinks x1 G = some (r, G1)) : ∀ q k, q ∉ A_I_readLinks → (q, k) ∉ O_I_readLinks → G1 q k = G q k := by
  unfold f_I_readLinks at hf
  have hg : ∀ q k, q ∉ A_I_readLinks → (q, k) ∉ O_I_readLinks → G q k = G q k := fun _ _ _ _ => rfl
  obtain ⟨G_1, eG_1, hf⟩ := zx_lt_some hf
  have hg := zv_uo hg eG_1 (by decide)
  obtain ⟨G_2, eG_2, hf⟩ := zx_lt_some hf
  have hg := zv_uo hg eG_2 (by decide)
  obtain ⟨G_3, eG_3, hf⟩ := zx_lt_some hf
  have hg := zv_uo hg eG_3 (by decide)
  obtain ⟨hb_4, hf⟩ := zx_gd_some hf
  obtain ⟨hb_5, hf⟩ := zx_gd_some hf
  obtain ⟨r_7, G_6, hq_8, hf⟩ := zx_bd_some hf
  have hg := zv_call hg (v_U_open_10 (G_3 4 (Int32.toNatClampNeg x1)) (G_3 5 (Int32.toNatClampNeg x1)) G_3 hq_8) (by decide) (by decide)
  obtain ⟨x2_9, ex2_9, hf⟩ := zx_lt_some hf
  exact zv_tr hg (v_I_readLinks_42 2048 x2_9 G_6 hf)
theorem v_I_readLinks (x1 : Int32) (G : zx_G) {r : Int32} {G1 : zx_G} (hf : f_I_readLinks x1 G = some (r, G1)) : ∀ q k, q ∉ A_I_readLinks → (q, k) ∉ O_I_readLinks → G1 q k = G q k := v_I_readLinks_0 x1 G hf
abbrev A_I_find : List Nat := [9]
abbrev O_I_find : List (Nat × Nat) := [(8, 4), (8, 5), (8, 6), (8, 7), (8, 8), (8, 9), (8, 10), (10, 1), (10, 2), (10, 3)]
theorem v_I_find_87 {r : Int32} {G1 : zx_G} (G : zx_G) (hf : f_I_find_87 G = some (r, G1)) : ∀ q k, q ∉ A_I_find → (q, k) ∉ O_I_find → G1 q k = G q k := by
  unfold f_I_find_87 at hf
  have hg : ∀ q k, q ∉ A_I_find → (q, k) ∉ O_I_find → G q k = G q k := fun _ _ _ _ => rfl
  exact zv_ret hg hf
theorem v_I_find_120 {r : Int32} {G1 : zx_G} (G : zx_G) (hf : f_I_find_120 G = some (r, G1)) : ∀ q k, q ∉ A_I_find → (q, k) ∉ O_I_find → G1 q k = G q k := by
  unfold f_I_find_120 at hf
  have hg : ∀ q k, q ∉ A_I_find → (q, k) ∉ O_I_find → G q k = G q k := fun _ _ _ _ => rfl
  exact zv_ret hg hf
theorem v_I_find_164 {r : Int32} {G1 : zx_G} (s0 : Int32) (G : zx_G) (hf : f_I_find_164 s0 G = some (r, G1)) : ∀ q k, q ∉ A_I_find → (q, k) ∉ O_I_find → G1 q k = G q k := by
  unfold f_I_find_164 at hf
  have hg : ∀ q k, q ∉ A_I_find → (q, k) ∉ O_I_find → G q k = G q k := fun _ _ _ _ => rfl
  exact zv_ret hg hf
theorem v_I_find_0 {r : Int32} {G1 : zx_G} (x1 : Int32) (G : zx_G) (hf : f_I_find x1 G = some (r, G1)) : ∀ q k, q ∉ A_I_find → (q, k) ∉ O_I_find → G1 q k = G q k := by
  unfold f_I_find at hf
  have hg : ∀ q k, q ∉ A_I_find → (q, k) ∉ O_I_find → G q k = G q k := fun _ _ _ _ => rfl
  obtain ⟨G_1, eG_1, hf⟩ := zx_lt_some hf
  have hg := zv_uo hg eG_1 (by decide)
  obtain ⟨r_3, G_2, hq_4, hf⟩ := zx_bd_some hf
  have hg := zv_call hg (v_B_isBranded G_1 hq_4) (by decide) (by decide)
  rcases zx_if_some hf with ⟨hc_5, hf⟩ | ⟨hc_5, hf⟩
  · skip
    obtain ⟨r_7, G_6, hq_8, hf⟩ := zx_bd_some hf
    have hg := zv_call hg (v_B_first (-1 : Int32) (109 : Int32) G_2 hq_8) (by decide) (by decide)
    obtain ⟨x2_9, ex2_9, hf⟩ := zx_lt_some hf
    rcases zx_if_some hf with ⟨hc_10, hf⟩ | ⟨hc_10, hf⟩
    · skip
      obtain ⟨r_12, G_11, hq_13, hf⟩ := zx_bd_some hf
      have hg := zv_call hg (v_B_first x2_9 (112 : Int32) G_6 hq_13) (by decide) (by decide)
      obtain ⟨x3_14, ex3_14, hf⟩ := zx_lt_some hf
      obtain ⟨r_16, G_15, hq_17, hf⟩ := zx_bd_some hf
      have hg := zv_call hg (v_B_first x2_9 (108 : Int32) G_11 hq_17) (by decide) (by decide)
      obtain ⟨x4_18, ex4_18, hf⟩ := zx_lt_some hf
      obtain ⟨r_20, G_19, hq_21, hf⟩ := zx_bd_some hf
      have hg := zv_call hg (v_B_first x2_9 (114 : Int32) G_15 hq_21) (by decide) (by decide)
      obtain ⟨G_22, eG_22, hf⟩ := zx_lt_some hf
      have hg := zv_uo hg eG_22 (by decide)
      rcases zx_if_some hf with ⟨hc_23, hf⟩ | ⟨hc_23, hf⟩
      · skip
        exact zv_tr hg (v_I_find_87 G_22 hf)
      · skip
        rcases zx_if_some hf with ⟨hc_24, hf⟩ | ⟨hc_24, hf⟩
        · skip
          exact zv_tr hg (v_I_find_87 G_22 hf)
        · skip
          rcases zx_if_some hf with ⟨hc_25, hf⟩ | ⟨hc_25, hf⟩
          · skip
            obtain ⟨r_27, G_26, hq_28, hf⟩ := zx_bd_some hf
            have hg := zv_call hg (v_B_first (G_22 8 7) (97 : Int32) G_22 hq_28) (by decide) (by decide)
            obtain ⟨x5_29, ex5_29, hf⟩ := zx_lt_some hf
            rcases zx_if_some hf with ⟨hc_30, hf⟩ | ⟨hc_30, hf⟩
            · skip
              exact zv_tr hg (v_I_find_120 G_26 hf)
            · skip
              obtain ⟨r_32, G_31, hq_33, hf⟩ := zx_bd_some hf
              have hg := zv_call hg (v_B_contentLength x3_14 G_26 hq_33) (by decide) (by decide)
              rcases zx_if_some hf with ⟨hc_34, hf⟩ | ⟨hc_34, hf⟩
              · skip
                obtain ⟨hb_35, hf⟩ := zx_gd_some hf
                obtain ⟨hb_36, hf⟩ := zx_gd_some hf
                obtain ⟨G_37, eG_37, hf⟩ := zx_lt_some hf
                have hg := zv_uo hg eG_37 (by decide)
                obtain ⟨r_39, G_38, hq_40, hf⟩ := zx_bd_some hf
                have hg := zv_call hg (v_I_readPlaces x4_18 G_37 hq_40) (by decide) (by decide)
                obtain ⟨x6_41, ex6_41, hf⟩ := zx_lt_some hf
                rcases zx_if_some hf with ⟨hc_42, hf⟩ | ⟨hc_42, hf⟩
                · skip
                  exact zv_tr hg (v_I_find_164 x6_41 G_38 hf)
                · skip
                  obtain ⟨r_44, G_43, hq_45, hf⟩ := zx_bd_some hf
                  have hg := zv_call hg (v_I_readLinks x5_29 G_38 hq_45) (by decide) (by decide)
                  exact zv_tr hg (v_I_find_164 r_44 G_43 hf)
              · skip
                exact zv_tr hg (v_I_find_120 G_31 hf)
          · skip
            exact zv_tr hg (v_I_find_87 G_22 hf)
    · skip
      exact zv_ret hg hf
  · skip
    exact zv_ret hg hf
theorem v_I_find (x1 : Int32) (G : zx_G) {r : Int32} {G1 : zx_G} (hf : f_I_find x1 G = some (r, G1)) : ∀ q k, q ∉ A_I_find → (q, k) ∉ O_I_find → G1 q k = G q k := v_I_find_0 x1 G hf
abbrev A_S_decode : List Nat := [3, 4, 5, 6, 7, 9, 15, 16, 18, 19, 20, 22, 24, 25, 27, 28, 29, 31]
abbrev O_S_decode : List (Nat × Nat) := [(0, 9), (2, 6), (8, 4), (8, 5), (8, 6), (8, 7), (8, 8), (8, 9), (8, 10), (10, 1), (10, 2), (10, 3), (11, 3), (11, 4), (11, 5), (11, 6), (11, 7), (11, 8), (11, 9), (11, 10), (11, 11), (11, 12), (11, 13), (11, 14), (11, 15), (12, 1), (12, 2), (12, 3), (13, 1), (13, 2), (13, 3), (14, 3), (14, 4), (14, 5), (14, 6), (14, 7), (14, 8), (14, 9), (17, 3), (17, 4), (26, 4), (26, 5)]
theorem v_S_decode_73 {r : Int32} {G1 : zx_G} (x1 : Int32) (G : zx_G) (hf : f_S_decode_73 x1 G = some (r, G1)) : ∀ q k, q ∉ A_S_decode → (q, k) ∉ O_S_decode → G1 q k = G q k := by
  unfold f_S_decode_73 at hf
  have hg : ∀ q k, q ∉ A_S_decode → (q, k) ∉ O_S_decode → G q k = G q k := fun _ _ _ _ => rfl
  exact zv_ret hg hf
theorem v_S_decode_57 {r : Int32} {G1 : zx_G} (x1 : Int32) (G : zx_G) (hf : f_S_decode_57 x1 G = some (r, G1)) : ∀ q k, q ∉ A_S_decode → (q, k) ∉ O_S_decode → G1 q k = G q k := by
  unfold f_S_decode_57 at hf
  have hg : ∀ q k, q ∉ A_S_decode → (q, k) ∉ O_S_decode → G q k = G q k := fun _ _ _ _ => rfl
  rcases zx_if_some hf with ⟨hc_1, hf⟩ | ⟨hc_1, hf⟩
  · skip
    exact zv_tr hg (v_S_decode_73 x1 G hf)
  · skip
    obtain ⟨r_3, G_2, hq_4, hf⟩ := zx_bd_some hf
    have hg := zv_call hg (v_F_run G hq_4) (by decide) (by decide)
    obtain ⟨hb_5, hf⟩ := zx_gd_some hf
    obtain ⟨G_6, eG_6, hf⟩ := zx_lt_some hf
    have hg := zv_uo hg eG_6 (by decide)
    exact zv_tr hg (v_S_decode_73 x1 G_6 hf)
theorem v_S_decode_45 {r : Int32} {G1 : zx_G} (x1 : Int32) (G : zx_G) (hf : f_S_decode_45 x1 G = some (r, G1)) : ∀ q k, q ∉ A_S_decode → (q, k) ∉ O_S_decode → G1 q k = G q k := by
  unfold f_S_decode_45 at hf
  have hg : ∀ q k, q ∉ A_S_decode → (q, k) ∉ O_S_decode → G q k = G q k := fun _ _ _ _ => rfl
  rcases zx_if_some hf with ⟨hc_1, hf⟩ | ⟨hc_1, hf⟩
  · skip
    exact zv_tr hg (v_S_decode_57 x1 G hf)
  · skip
    obtain ⟨r_3, G_2, hq_4, hf⟩ := zx_bd_some hf
    have hg := zv_call hg (v_T_read G hq_4) (by decide) (by decide)
    obtain ⟨x1_5, ex1_5, hf⟩ := zx_lt_some hf
    exact zv_tr hg (v_S_decode_57 x1_5 G_2 hf)
theorem v_S_decode_33 {r : Int32} {G1 : zx_G} (x1 : Int32) (G : zx_G) (hf : f_S_decode_33 x1 G = some (r, G1)) : ∀ q k, q ∉ A_S_decode → (q, k) ∉ O_S_decode → G1 q k = G q k := by
  unfold f_S_decode_33 at hf
  have hg : ∀ q k, q ∉ A_S_decode → (q, k) ∉ O_S_decode → G q k = G q k := fun _ _ _ _ => rfl
  rcases zx_if_some hf with ⟨hc_1, hf⟩ | ⟨hc_1, hf⟩
  · skip
    exact zv_tr hg (v_S_decode_45 x1 G hf)
  · skip
    obtain ⟨r_3, G_2, hq_4, hf⟩ := zx_bd_some hf
    have hg := zv_call hg (v_H_read G hq_4) (by decide) (by decide)
    obtain ⟨x1_5, ex1_5, hf⟩ := zx_lt_some hf
    exact zv_tr hg (v_S_decode_45 x1_5 G_2 hf)
theorem v_S_decode_0 {r : Int32} {G1 : zx_G} (G : zx_G) (hf : f_S_decode G = some (r, G1)) : ∀ q k, q ∉ A_S_decode → (q, k) ∉ O_S_decode → G1 q k = G q k := by
  unfold f_S_decode at hf
  have hg : ∀ q k, q ∉ A_S_decode → (q, k) ∉ O_S_decode → G q k = G q k := fun _ _ _ _ => rfl
  obtain ⟨hb_1, hf⟩ := zx_gd_some hf
  obtain ⟨G_2, eG_2, hf⟩ := zx_lt_some hf
  have hg := zv_uo hg eG_2 (by decide)
  obtain ⟨r_4, G_3, hq_5, hf⟩ := zx_bd_some hf
  have hg := zv_call hg (v_B_read (G_2 0 8) G_2 hq_5) (by decide) (by decide)
  obtain ⟨x1_6, ex1_6, hf⟩ := zx_lt_some hf
  rcases zx_if_some hf with ⟨hc_7, hf⟩ | ⟨hc_7, hf⟩
  · skip
    exact zv_tr hg (v_S_decode_33 x1_6 G_3 hf)
  · skip
    obtain ⟨r_9, G_8, hq_10, hf⟩ := zx_bd_some hf
    have hg := zv_call hg (v_I_find (G_3 0 8) G_3 hq_10) (by decide) (by decide)
    obtain ⟨x1_11, ex1_11, hf⟩ := zx_lt_some hf
    exact zv_tr hg (v_S_decode_33 x1_11 G_8 hf)
theorem v_S_decode (G : zx_G) {r : Int32} {G1 : zx_G} (hf : f_S_decode G = some (r, G1)) : ∀ q k, q ∉ A_S_decode → (q, k) ∉ O_S_decode → G1 q k = G q k := v_S_decode_0 G hf
abbrev A_S_planes : List Nat := []
abbrev O_S_planes : List (Nat × Nat) := []
theorem v_S_planes_18 {r : Int32} {G1 : zx_G} (s0 : Int32) (G : zx_G) (hf : f_S_planes_18 s0 G = some (r, G1)) : ∀ q k, q ∉ A_S_planes → (q, k) ∉ O_S_planes → G1 q k = G q k := by
  unfold f_S_planes_18 at hf
  have hg : ∀ q k, q ∉ A_S_planes → (q, k) ∉ O_S_planes → G q k = G q k := fun _ _ _ _ => rfl
  exact zv_ret hg hf
theorem v_S_planes_0 {r : Int32} {G1 : zx_G} (G : zx_G) (hf : f_S_planes G = some (r, G1)) : ∀ q k, q ∉ A_S_planes → (q, k) ∉ O_S_planes → G1 q k = G q k := by
  unfold f_S_planes at hf
  have hg : ∀ q k, q ∉ A_S_planes → (q, k) ∉ O_S_planes → G q k = G q k := fun _ _ _ _ => rfl
  rcases zx_if_some hf with ⟨hc_1, hf⟩ | ⟨hc_1, hf⟩
  · skip
    exact zv_tr hg (v_S_planes_18 (0 : Int32) G hf)
  · skip
    exact zv_tr hg (v_S_planes_18 (G 11 6) G hf)
theorem v_S_planes (G : zx_G) {r : Int32} {G1 : zx_G} (hf : f_S_planes G = some (r, G1)) : ∀ q k, q ∉ A_S_planes → (q, k) ∉ O_S_planes → G1 q k = G q k := v_S_planes_0 G hf
abbrev A_S_width : List Nat := []
abbrev O_S_width : List (Nat × Nat) := []
theorem v_S_width_18 {r : Int32} {G1 : zx_G} (s0 : Int32) (G : zx_G) (hf : f_S_width_18 s0 G = some (r, G1)) : ∀ q k, q ∉ A_S_width → (q, k) ∉ O_S_width → G1 q k = G q k := by
  unfold f_S_width_18 at hf
  have hg : ∀ q k, q ∉ A_S_width → (q, k) ∉ O_S_width → G q k = G q k := fun _ _ _ _ => rfl
  exact zv_ret hg hf
theorem v_S_width_0 {r : Int32} {G1 : zx_G} (G : zx_G) (hf : f_S_width G = some (r, G1)) : ∀ q k, q ∉ A_S_width → (q, k) ∉ O_S_width → G1 q k = G q k := by
  unfold f_S_width at hf
  have hg : ∀ q k, q ∉ A_S_width → (q, k) ∉ O_S_width → G q k = G q k := fun _ _ _ _ => rfl
  rcases zx_if_some hf with ⟨hc_1, hf⟩ | ⟨hc_1, hf⟩
  · skip
    exact zv_tr hg (v_S_width_18 (0 : Int32) G hf)
  · skip
    exact zv_tr hg (v_S_width_18 (G 11 7) G hf)
theorem v_S_width (G : zx_G) {r : Int32} {G1 : zx_G} (hf : f_S_width G = some (r, G1)) : ∀ q k, q ∉ A_S_width → (q, k) ∉ O_S_width → G1 q k = G q k := v_S_width_0 G hf
abbrev A_S_height : List Nat := []
abbrev O_S_height : List (Nat × Nat) := []
theorem v_S_height_18 {r : Int32} {G1 : zx_G} (s0 : Int32) (G : zx_G) (hf : f_S_height_18 s0 G = some (r, G1)) : ∀ q k, q ∉ A_S_height → (q, k) ∉ O_S_height → G1 q k = G q k := by
  unfold f_S_height_18 at hf
  have hg : ∀ q k, q ∉ A_S_height → (q, k) ∉ O_S_height → G q k = G q k := fun _ _ _ _ => rfl
  exact zv_ret hg hf
theorem v_S_height_0 {r : Int32} {G1 : zx_G} (G : zx_G) (hf : f_S_height G = some (r, G1)) : ∀ q k, q ∉ A_S_height → (q, k) ∉ O_S_height → G1 q k = G q k := by
  unfold f_S_height at hf
  have hg : ∀ q k, q ∉ A_S_height → (q, k) ∉ O_S_height → G q k = G q k := fun _ _ _ _ => rfl
  rcases zx_if_some hf with ⟨hc_1, hf⟩ | ⟨hc_1, hf⟩
  · skip
    exact zv_tr hg (v_S_height_18 (0 : Int32) G hf)
  · skip
    exact zv_tr hg (v_S_height_18 (G 11 8) G hf)
theorem v_S_height (G : zx_G) {r : Int32} {G1 : zx_G} (hf : f_S_height G = some (r, G1)) : ∀ q k, q ∉ A_S_height → (q, k) ∉ O_S_height → G1 q k = G q k := v_S_height_0 G hf
abbrev A_S_depth : List Nat := []
abbrev O_S_depth : List (Nat × Nat) := []
theorem v_S_depth_18 {r : Int32} {G1 : zx_G} (s0 : Int32) (G : zx_G) (hf : f_S_depth_18 s0 G = some (r, G1)) : ∀ q k, q ∉ A_S_depth → (q, k) ∉ O_S_depth → G1 q k = G q k := by
  unfold f_S_depth_18 at hf
  have hg : ∀ q k, q ∉ A_S_depth → (q, k) ∉ O_S_depth → G q k = G q k := fun _ _ _ _ => rfl
  exact zv_ret hg hf
theorem v_S_depth_0 {r : Int32} {G1 : zx_G} (G : zx_G) (hf : f_S_depth G = some (r, G1)) : ∀ q k, q ∉ A_S_depth → (q, k) ∉ O_S_depth → G1 q k = G q k := by
  unfold f_S_depth at hf
  have hg : ∀ q k, q ∉ A_S_depth → (q, k) ∉ O_S_depth → G q k = G q k := fun _ _ _ _ => rfl
  rcases zx_if_some hf with ⟨hc_1, hf⟩ | ⟨hc_1, hf⟩
  · skip
    exact zv_tr hg (v_S_depth_18 (0 : Int32) G hf)
  · skip
    exact zv_tr hg (v_S_depth_18 (G 11 9) G hf)
theorem v_S_depth (G : zx_G) {r : Int32} {G1 : zx_G} (hf : f_S_depth G = some (r, G1)) : ∀ q k, q ∉ A_S_depth → (q, k) ∉ O_S_depth → G1 q k = G q k := v_S_depth_0 G hf
abbrev A_S_isInPicture : List Nat := []
abbrev O_S_isInPicture : List (Nat × Nat) := []
theorem v_S_isInPicture_42 {r : Int32} {G1 : zx_G} (s0 : Int32) (G : zx_G) (hf : f_S_isInPicture_42 s0 G = some (r, G1)) : ∀ q k, q ∉ A_S_isInPicture → (q, k) ∉ O_S_isInPicture → G1 q k = G q k := by
  unfold f_S_isInPicture_42 at hf
  have hg : ∀ q k, q ∉ A_S_isInPicture → (q, k) ∉ O_S_isInPicture → G q k = G q k := fun _ _ _ _ => rfl
  obtain ⟨hb_1, hf⟩ := zx_gd_some hf
  exact zv_ret hg hf
theorem v_S_isInPicture_41 {r : Int32} {G1 : zx_G} (G : zx_G) (hf : f_S_isInPicture_41 G = some (r, G1)) : ∀ q k, q ∉ A_S_isInPicture → (q, k) ∉ O_S_isInPicture → G1 q k = G q k := by
  unfold f_S_isInPicture_41 at hf
  have hg : ∀ q k, q ∉ A_S_isInPicture → (q, k) ∉ O_S_isInPicture → G q k = G q k := fun _ _ _ _ => rfl
  exact zv_tr hg (v_S_isInPicture_42 (0 : Int32) G hf)
theorem v_S_isInPicture_0 {r : Int32} {G1 : zx_G} (x1 x2 : Int32) (G : zx_G) (hf : f_S_isInPicture x1 x2 G = some (r, G1)) : ∀ q k, q ∉ A_S_isInPicture → (q, k) ∉ O_S_isInPicture → G1 q k = G q k := by
  unfold f_S_isInPicture at hf
  have hg : ∀ q k, q ∉ A_S_isInPicture → (q, k) ∉ O_S_isInPicture → G q k = G q k := fun _ _ _ _ => rfl
  rcases zx_if_some hf with ⟨hc_1, hf⟩ | ⟨hc_1, hf⟩
  · skip
    exact zv_tr hg (v_S_isInPicture_41 G hf)
  · skip
    rcases zx_if_some hf with ⟨hc_2, hf⟩ | ⟨hc_2, hf⟩
    · skip
      exact zv_tr hg (v_S_isInPicture_41 G hf)
    · skip
      rcases zx_if_some hf with ⟨hc_3, hf⟩ | ⟨hc_3, hf⟩
      · skip
        exact zv_tr hg (v_S_isInPicture_41 G hf)
      · skip
        rcases zx_if_some hf with ⟨hc_4, hf⟩ | ⟨hc_4, hf⟩
        · skip
          exact zv_tr hg (v_S_isInPicture_41 G hf)
        · skip
          rcases zx_if_some hf with ⟨hc_5, hf⟩ | ⟨hc_5, hf⟩
          · skip
            exact zv_tr hg (v_S_isInPicture_41 G hf)
          · skip
            exact zv_tr hg (v_S_isInPicture_42 (1 : Int32) G hf)
theorem v_S_isInPicture (x1 x2 : Int32) (G : zx_G) {r : Int32} {G1 : zx_G} (hf : f_S_isInPicture x1 x2 G = some (r, G1)) : ∀ q k, q ∉ A_S_isInPicture → (q, k) ∉ O_S_isInPicture → G1 q k = G q k := v_S_isInPicture_0 x1 x2 G hf
abbrev A_S_sample : List Nat := []
abbrev O_S_sample : List (Nat × Nat) := []
theorem v_S_sample_24 {r : Int32} {G1 : zx_G} (G : zx_G) (hf : f_S_sample_24 G = some (r, G1)) : ∀ q k, q ∉ A_S_sample → (q, k) ∉ O_S_sample → G1 q k = G q k := by
  unfold f_S_sample_24 at hf
  have hg : ∀ q k, q ∉ A_S_sample → (q, k) ∉ O_S_sample → G q k = G q k := fun _ _ _ _ => rfl
  exact zv_ret hg hf
theorem v_S_sample_0 {r : Int32} {G1 : zx_G} (x1 x2 x3 : Int32) (G : zx_G) (hf : f_S_sample x1 x2 x3 G = some (r, G1)) : ∀ q k, q ∉ A_S_sample → (q, k) ∉ O_S_sample → G1 q k = G q k := by
  unfold f_S_sample at hf
  have hg : ∀ q k, q ∉ A_S_sample → (q, k) ∉ O_S_sample → G q k = G q k := fun _ _ _ _ => rfl
  obtain ⟨r_2, G_1, hq_3, hf⟩ := zx_bd_some hf
  have hg := zv_call hg (v_S_isInPicture x2 x3 G hq_3) (by decide) (by decide)
  rcases zx_if_some hf with ⟨hc_4, hf⟩ | ⟨hc_4, hf⟩
  · skip
    exact zv_tr hg (v_S_sample_24 G_1 hf)
  · skip
    rcases zx_if_some hf with ⟨hc_5, hf⟩ | ⟨hc_5, hf⟩
    · skip
      exact zv_tr hg (v_S_sample_24 G_1 hf)
    · skip
      rcases zx_if_some hf with ⟨hc_6, hf⟩ | ⟨hc_6, hf⟩
      · skip
        obtain ⟨r_8, G_7, hq_9, hf⟩ := zx_bd_some hf
        have hg := zv_call hg (v_P_placeOf x1 x2 x3 G_1 hq_9) (by decide) (by decide)
        obtain ⟨hb_10, hf⟩ := zx_gd_some hf
        exact zv_ret hg hf
      · skip
        exact zv_tr hg (v_S_sample_24 G_1 hf)
theorem v_S_sample (x1 x2 x3 : Int32) (G : zx_G) {r : Int32} {G1 : zx_G} (hf : f_S_sample x1 x2 x3 G = some (r, G1)) : ∀ q k, q ∉ A_S_sample → (q, k) ∉ O_S_sample → G1 q k = G q k := v_S_sample_0 x1 x2 x3 G hf
abbrev A_S_block : List Nat := []
abbrev O_S_block : List (Nat × Nat) := []
theorem v_S_block_18 {r : Int32} {G1 : zx_G} (G : zx_G) (hf : f_S_block_18 G = some (r, G1)) : ∀ q k, q ∉ A_S_block → (q, k) ∉ O_S_block → G1 q k = G q k := by
  unfold f_S_block_18 at hf
  have hg : ∀ q k, q ∉ A_S_block → (q, k) ∉ O_S_block → G q k = G q k := fun _ _ _ _ => rfl
  exact zv_ret hg hf
theorem v_S_block_0 {r : Int32} {G1 : zx_G} (x1 x2 x3 : Int32) (G : zx_G) (hf : f_S_block x1 x2 x3 G = some (r, G1)) : ∀ q k, q ∉ A_S_block → (q, k) ∉ O_S_block → G1 q k = G q k := by
  unfold f_S_block at hf
  have hg : ∀ q k, q ∉ A_S_block → (q, k) ∉ O_S_block → G q k = G q k := fun _ _ _ _ => rfl
  obtain ⟨r_2, G_1, hq_3, hf⟩ := zx_bd_some hf
  have hg := zv_call hg (v_S_isInPicture x1 x2 G hq_3) (by decide) (by decide)
  rcases zx_if_some hf with ⟨hc_4, hf⟩ | ⟨hc_4, hf⟩
  · skip
    exact zv_tr hg (v_S_block_18 G_1 hf)
  · skip
    rcases zx_if_some hf with ⟨hc_5, hf⟩ | ⟨hc_5, hf⟩
    · skip
      exact zv_tr hg (v_S_block_18 G_1 hf)
    · skip
      rcases zx_if_some hf with ⟨hc_6, hf⟩ | ⟨hc_6, hf⟩
      · skip
        obtain ⟨r_8, G_7, hq_9, hf⟩ := zx_bd_some hf
        have hg := zv_call hg (v_P_ownerAt x1 x2 G_1 hq_9) (by decide) (by decide)
        obtain ⟨r_11, G_10, hq_12, hf⟩ := zx_bd_some hf
        have hg := zv_call hg (v_P_tellOf r_8 x3 G_7 hq_12) (by decide) (by decide)
        exact zv_ret hg hf
      · skip
        exact zv_tr hg (v_S_block_18 G_1 hf)
theorem v_S_block (x1 x2 x3 : Int32) (G : zx_G) {r : Int32} {G1 : zx_G} (hf : f_S_block x1 x2 x3 G = some (r, G1)) : ∀ q k, q ∉ A_S_block → (q, k) ∉ O_S_block → G1 q k = G q k := v_S_block_0 x1 x2 x3 G hf
abbrev A_S_blocks : List Nat := []
abbrev O_S_blocks : List (Nat × Nat) := []
theorem v_S_blocks_18 {r : Int32} {G1 : zx_G} (s0 : Int32) (G : zx_G) (hf : f_S_blocks_18 s0 G = some (r, G1)) : ∀ q k, q ∉ A_S_blocks → (q, k) ∉ O_S_blocks → G1 q k = G q k := by
  unfold f_S_blocks_18 at hf
  have hg : ∀ q k, q ∉ A_S_blocks → (q, k) ∉ O_S_blocks → G q k = G q k := fun _ _ _ _ => rfl
  exact zv_ret hg hf
theorem v_S_blocks_0 {r : Int32} {G1 : zx_G} (G : zx_G) (hf : f_S_blocks G = some (r, G1)) : ∀ q k, q ∉ A_S_blocks → (q, k) ∉ O_S_blocks → G1 q k = G q k := by
  unfold f_S_blocks at hf
  have hg : ∀ q k, q ∉ A_S_blocks → (q, k) ∉ O_S_blocks → G q k = G q k := fun _ _ _ _ => rfl
  rcases zx_if_some hf with ⟨hc_1, hf⟩ | ⟨hc_1, hf⟩
  · skip
    exact zv_tr hg (v_S_blocks_18 (0 : Int32) G hf)
  · skip
    exact zv_tr hg (v_S_blocks_18 (G 17 3) G hf)
theorem v_S_blocks (G : zx_G) {r : Int32} {G1 : zx_G} (hf : f_S_blocks G = some (r, G1)) : ∀ q k, q ∉ A_S_blocks → (q, k) ∉ O_S_blocks → G1 q k = G q k := v_S_blocks_0 G hf
abbrev A_S_symbols : List Nat := []
abbrev O_S_symbols : List (Nat × Nat) := []
theorem v_S_symbols_18 {r : Int32} {G1 : zx_G} (s0 : Int32) (G : zx_G) (hf : f_S_symbols_18 s0 G = some (r, G1)) : ∀ q k, q ∉ A_S_symbols → (q, k) ∉ O_S_symbols → G1 q k = G q k := by
  unfold f_S_symbols_18 at hf
  have hg : ∀ q k, q ∉ A_S_symbols → (q, k) ∉ O_S_symbols → G q k = G q k := fun _ _ _ _ => rfl
  exact zv_ret hg hf
theorem v_S_symbols_0 {r : Int32} {G1 : zx_G} (G : zx_G) (hf : f_S_symbols G = some (r, G1)) : ∀ q k, q ∉ A_S_symbols → (q, k) ∉ O_S_symbols → G1 q k = G q k := by
  unfold f_S_symbols at hf
  have hg : ∀ q k, q ∉ A_S_symbols → (q, k) ∉ O_S_symbols → G q k = G q k := fun _ _ _ _ => rfl
  rcases zx_if_some hf with ⟨hc_1, hf⟩ | ⟨hc_1, hf⟩
  · skip
    exact zv_tr hg (v_S_symbols_18 (0 : Int32) G hf)
  · skip
    exact zv_tr hg (v_S_symbols_18 (G 14 9) G hf)
theorem v_S_symbols (G : zx_G) {r : Int32} {G1 : zx_G} (hf : f_S_symbols G = some (r, G1)) : ∀ q k, q ∉ A_S_symbols → (q, k) ∉ O_S_symbols → G1 q k = G q k := v_S_symbols_0 G hf
abbrev A_S_taken : List Nat := []
abbrev O_S_taken : List (Nat × Nat) := []
theorem v_S_taken_18 {r : Int32} {G1 : zx_G} (s0 : Int32) (G : zx_G) (hf : f_S_taken_18 s0 G = some (r, G1)) : ∀ q k, q ∉ A_S_taken → (q, k) ∉ O_S_taken → G1 q k = G q k := by
  unfold f_S_taken_18 at hf
  have hg : ∀ q k, q ∉ A_S_taken → (q, k) ∉ O_S_taken → G q k = G q k := fun _ _ _ _ => rfl
  exact zv_ret hg hf
theorem v_S_taken_0 {r : Int32} {G1 : zx_G} (G : zx_G) (hf : f_S_taken G = some (r, G1)) : ∀ q k, q ∉ A_S_taken → (q, k) ∉ O_S_taken → G1 q k = G q k := by
  unfold f_S_taken at hf
  have hg : ∀ q k, q ∉ A_S_taken → (q, k) ∉ O_S_taken → G q k = G q k := fun _ _ _ _ => rfl
  rcases zx_if_some hf with ⟨hc_1, hf⟩ | ⟨hc_1, hf⟩
  · skip
    exact zv_tr hg (v_S_taken_18 (0 : Int32) G hf)
  · skip
    exact zv_tr hg (v_S_taken_18 (G 14 8) G hf)
theorem v_S_taken (G : zx_G) {r : Int32} {G1 : zx_G} (hf : f_S_taken G = some (r, G1)) : ∀ q k, q ∉ A_S_taken → (q, k) ∉ O_S_taken → G1 q k = G q k := v_S_taken_0 G hf
abbrev A_C_numberOf : List Nat := []
abbrev O_C_numberOf : List (Nat × Nat) := []
theorem v_C_numberOf_23 {r : Int32} {G1 : zx_G} (G : zx_G) (hf : f_C_numberOf_23 G = some (r, G1)) : ∀ q k, q ∉ A_C_numberOf → (q, k) ∉ O_C_numberOf → G1 q k = G q k := by
  unfold f_C_numberOf_23 at hf
  have hg : ∀ q k, q ∉ A_C_numberOf → (q, k) ∉ O_C_numberOf → G q k = G q k := fun _ _ _ _ => rfl
  exact zv_ret hg hf
theorem v_C_numberOf_0 {r : Int32} {G1 : zx_G} (x1 x2 : Int32) (G : zx_G) (hf : f_C_numberOf x1 x2 G = some (r, G1)) : ∀ q k, q ∉ A_C_numberOf → (q, k) ∉ O_C_numberOf → G1 q k = G q k := by
  unfold f_C_numberOf at hf
  have hg : ∀ q k, q ∉ A_C_numberOf → (q, k) ∉ O_C_numberOf → G q k = G q k := fun _ _ _ _ => rfl
  rcases zx_if_some hf with ⟨hc_1, hf⟩ | ⟨hc_1, hf⟩
  · skip
    exact zv_tr hg (v_C_numberOf_23 G hf)
  · skip
    rcases zx_if_some hf with ⟨hc_2, hf⟩ | ⟨hc_2, hf⟩
    · skip
      exact zv_tr hg (v_C_numberOf_23 G hf)
    · skip
      rcases zx_if_some hf with ⟨hc_3, hf⟩ | ⟨hc_3, hf⟩
      · skip
        exact zv_tr hg (v_C_numberOf_23 G hf)
      · skip
        obtain ⟨hb_4, hf⟩ := zx_gd_some hf
        rcases zx_if_some hf with ⟨hc_5, hf⟩ | ⟨hc_5, hf⟩
        · skip
          obtain ⟨hb_6, hf⟩ := zx_gd_some hf
          exact zv_ret hg hf
        · skip
          exact zv_tr hg (v_C_numberOf_23 G hf)
theorem v_C_numberOf (x1 x2 : Int32) (G : zx_G) {r : Int32} {G1 : zx_G} (hf : f_C_numberOf x1 x2 G = some (r, G1)) : ∀ q k, q ∉ A_C_numberOf → (q, k) ∉ O_C_numberOf → G1 q k = G q k := v_C_numberOf_0 x1 x2 G hf
abbrev A_S_table : List Nat := []
abbrev O_S_table : List (Nat × Nat) := []
theorem v_S_table_20 {r : Int32} {G1 : zx_G} (s0 : Int32) (G : zx_G) (hf : f_S_table_20 s0 G = some (r, G1)) : ∀ q k, q ∉ A_S_table → (q, k) ∉ O_S_table → G1 q k = G q k := by
  unfold f_S_table_20 at hf
  have hg : ∀ q k, q ∉ A_S_table → (q, k) ∉ O_S_table → G q k = G q k := fun _ _ _ _ => rfl
  exact zv_ret hg hf
theorem v_S_table_0 {r : Int32} {G1 : zx_G} (x1 x2 : Int32) (G : zx_G) (hf : f_S_table x1 x2 G = some (r, G1)) : ∀ q k, q ∉ A_S_table → (q, k) ∉ O_S_table → G1 q k = G q k := by
  unfold f_S_table at hf
  have hg : ∀ q k, q ∉ A_S_table → (q, k) ∉ O_S_table → G q k = G q k := fun _ _ _ _ => rfl
  rcases zx_if_some hf with ⟨hc_1, hf⟩ | ⟨hc_1, hf⟩
  · skip
    exact zv_tr hg (v_S_table_20 (-1 : Int32) G hf)
  · skip
    obtain ⟨r_3, G_2, hq_4, hf⟩ := zx_bd_some hf
    have hg := zv_call hg (v_C_numberOf x1 x2 G hq_4) (by decide) (by decide)
    exact zv_tr hg (v_S_table_20 r_3 G_2 hf)
theorem v_S_table (x1 x2 : Int32) (G : zx_G) {r : Int32} {G1 : zx_G} (hf : f_S_table x1 x2 G = some (r, G1)) : ∀ q k, q ∉ A_S_table → (q, k) ∉ O_S_table → G1 q k = G q k := v_S_table_0 x1 x2 G hf
abbrev A_M_add : List Nat := [33]
abbrev O_M_add : List (Nat × Nat) := [(32, 0)]
theorem v_M_add_21 {r : Int32} {G1 : zx_G} (G : zx_G) (hf : f_M_add_21 G = some (r, G1)) : ∀ q k, q ∉ A_M_add → (q, k) ∉ O_M_add → G1 q k = G q k := by
  unfold f_M_add_21 at hf
  have hg : ∀ q k, q ∉ A_M_add → (q, k) ∉ O_M_add → G q k = G q k := fun _ _ _ _ => rfl
  obtain ⟨hb_1, hf⟩ := zx_gd_some hf
  exact zv_ret hg hf
theorem v_M_add_0 {r : Int32} {G1 : zx_G} (x1 : Int32) (G : zx_G) (hf : f_M_add x1 G = some (r, G1)) : ∀ q k, q ∉ A_M_add → (q, k) ∉ O_M_add → G1 q k = G q k := by
  unfold f_M_add at hf
  have hg : ∀ q k, q ∉ A_M_add → (q, k) ∉ O_M_add → G q k = G q k := fun _ _ _ _ => rfl
  rcases zx_if_some hf with ⟨hc_1, hf⟩ | ⟨hc_1, hf⟩
  · skip
    exact zv_tr hg (v_M_add_21 G hf)
  · skip
    rcases zx_if_some hf with ⟨hc_2, hf⟩ | ⟨hc_2, hf⟩
    · skip
      exact zv_tr hg (v_M_add_21 G hf)
    · skip
      rcases zx_if_some hf with ⟨hc_3, hf⟩ | ⟨hc_3, hf⟩
      · skip
        obtain ⟨hb_4, hf⟩ := zx_gd_some hf
        obtain ⟨G_5, eG_5, hf⟩ := zx_lt_some hf
        have hg := zv_ua hg eG_5 (by decide)
        obtain ⟨G_6, eG_6, hf⟩ := zx_lt_some hf
        have hg := zv_uo hg eG_6 (by decide)
        obtain ⟨hb_7, hf⟩ := zx_gd_some hf
        exact zv_ret hg hf
      · skip
        exact zv_tr hg (v_M_add_21 G hf)
theorem v_M_add (x1 : Int32) (G : zx_G) {r : Int32} {G1 : zx_G} (hf : f_M_add x1 G = some (r, G1)) : ∀ q k, q ∉ A_M_add → (q, k) ∉ O_M_add → G1 q k = G q k := v_M_add_0 x1 G hf
abbrev A_M_word : List Nat := [33]
abbrev O_M_word : List (Nat × Nat) := [(32, 0)]
theorem v_M_word_15 {r : Int32} {G1 : zx_G} : ∀ (n : Nat) (x1 x2 : Int32) (G : zx_G), f_M_word_15 n x1 x2 G = some (r, G1) → ∀ q k, q ∉ A_M_word → (q, k) ∉ O_M_word → G1 q k = G q k := by
  intro n
  induction n with
  | zero => intro x1 x2 G hf; cases hf
  | succ n ih =>
    intro x1 x2 G hf
    unfold f_M_word_15 at hf
    have hg : ∀ q k, q ∉ A_M_word → (q, k) ∉ O_M_word → G q k = G q k := fun _ _ _ _ => rfl
    rcases zx_if_some hf with ⟨hc_1, hf⟩ | ⟨hc_1, hf⟩
    · skip
      obtain ⟨hb_2, hf⟩ := zx_gd_some hf
      exact zv_ret hg hf
    · skip
      obtain ⟨r_4, G_3, hq_5, hf⟩ := zx_bd_some hf
      have hg := zv_call hg (v_M_add ((x1 >>> (x2 &&& 31)) &&& (255 : Int32)) G hq_5) (by decide) (by decide)
      obtain ⟨x2_6, ex2_6, hf⟩ := zx_lt_some hf
      exact zv_tr hg (ih x1 x2_6 G_3 hf)
theorem v_M_word_0 {r : Int32} {G1 : zx_G} (x1 : Int32) (G : zx_G) (hf : f_M_word x1 G = some (r, G1)) : ∀ q k, q ∉ A_M_word → (q, k) ∉ O_M_word → G1 q k = G q k := by
  unfold f_M_word at hf
  have hg : ∀ q k, q ∉ A_M_word → (q, k) ∉ O_M_word → G q k = G q k := fun _ _ _ _ => rfl
  rcases zx_if_some hf with ⟨hc_1, hf⟩ | ⟨hc_1, hf⟩
  · skip
    obtain ⟨x2_2, ex2_2, hf⟩ := zx_lt_some hf
    exact zv_tr hg (v_M_word_15 2048 x1 x2_2 G hf)
  · skip
    obtain ⟨hb_3, hf⟩ := zx_gd_some hf
    exact zv_ret hg hf
theorem v_M_word (x1 : Int32) (G : zx_G) {r : Int32} {G1 : zx_G} (hf : f_M_word x1 G = some (r, G1)) : ∀ q k, q ∉ A_M_word → (q, k) ∉ O_M_word → G1 q k = G q k := v_M_word_0 x1 G hf
abbrev A_M_patch : List Nat := [33]
abbrev O_M_patch : List (Nat × Nat) := []
theorem v_M_patch_23 {r : Int32} {G1 : zx_G} (G : zx_G) (hf : f_M_patch_23 G = some (r, G1)) : ∀ q k, q ∉ A_M_patch → (q, k) ∉ O_M_patch → G1 q k = G q k := by
  unfold f_M_patch_23 at hf
  have hg : ∀ q k, q ∉ A_M_patch → (q, k) ∉ O_M_patch → G q k = G q k := fun _ _ _ _ => rfl
  exact zv_ret hg hf
theorem v_M_patch_0 {r : Int32} {G1 : zx_G} (x1 x2 : Int32) (G : zx_G) (hf : f_M_patch x1 x2 G = some (r, G1)) : ∀ q k, q ∉ A_M_patch → (q, k) ∉ O_M_patch → G1 q k = G q k := by
  unfold f_M_patch at hf
  have hg : ∀ q k, q ∉ A_M_patch → (q, k) ∉ O_M_patch → G q k = G q k := fun _ _ _ _ => rfl
  rcases zx_if_some hf with ⟨hc_1, hf⟩ | ⟨hc_1, hf⟩
  · skip
    exact zv_tr hg (v_M_patch_23 G hf)
  · skip
    rcases zx_if_some hf with ⟨hc_2, hf⟩ | ⟨hc_2, hf⟩
    · skip
      exact zv_tr hg (v_M_patch_23 G hf)
    · skip
      rcases zx_if_some hf with ⟨hc_3, hf⟩ | ⟨hc_3, hf⟩
      · skip
        exact zv_tr hg (v_M_patch_23 G hf)
      · skip
        rcases zx_if_some hf with ⟨hc_4, hf⟩ | ⟨hc_4, hf⟩
        · skip
          obtain ⟨hb_5, hf⟩ := zx_gd_some hf
          obtain ⟨x3_6, ex3_6, hf⟩ := zx_lt_some hf
          obtain ⟨hb_7, hf⟩ := zx_gd_some hf
          obtain ⟨G_8, eG_8, hf⟩ := zx_lt_some hf
          have hg := zv_ua hg eG_8 (by decide)
          exact zv_ret hg hf
        · skip
          exact zv_tr hg (v_M_patch_23 G hf)
theorem v_M_patch (x1 x2 : Int32) (G : zx_G) {r : Int32} {G1 : zx_G} (hf : f_M_patch x1 x2 G = some (r, G1)) : ∀ q k, q ∉ A_M_patch → (q, k) ∉ O_M_patch → G1 q k = G q k := v_M_patch_0 x1 x2 G hf
abbrev A_M_clear : List Nat := []
abbrev O_M_clear : List (Nat × Nat) := [(32, 0)]
theorem v_M_clear_0 {r : Int32} {G1 : zx_G} (G : zx_G) (hf : f_M_clear G = some (r, G1)) : ∀ q k, q ∉ A_M_clear → (q, k) ∉ O_M_clear → G1 q k = G q k := by
  unfold f_M_clear at hf
  have hg : ∀ q k, q ∉ A_M_clear → (q, k) ∉ O_M_clear → G q k = G q k := fun _ _ _ _ => rfl
  obtain ⟨G_1, eG_1, hf⟩ := zx_lt_some hf
  have hg := zv_uo hg eG_1 (by decide)
  exact zv_ret hg hf
theorem v_M_clear (G : zx_G) {r : Int32} {G1 : zx_G} (hf : f_M_clear G = some (r, G1)) : ∀ q k, q ∉ A_M_clear → (q, k) ∉ O_M_clear → G1 q k = G q k := v_M_clear_0 G hf
abbrev A_M_size : List Nat := []
abbrev O_M_size : List (Nat × Nat) := []
theorem v_M_size_0 {r : Int32} {G1 : zx_G} (G : zx_G) (hf : f_M_size G = some (r, G1)) : ∀ q k, q ∉ A_M_size → (q, k) ∉ O_M_size → G1 q k = G q k := by
  unfold f_M_size at hf
  have hg : ∀ q k, q ∉ A_M_size → (q, k) ∉ O_M_size → G q k = G q k := fun _ _ _ _ => rfl
  exact zv_ret hg hf
theorem v_M_size (G : zx_G) {r : Int32} {G1 : zx_G} (hf : f_M_size G = some (r, G1)) : ∀ q k, q ∉ A_M_size → (q, k) ∉ O_M_size → G1 q k = G q k := v_M_size_0 G hf
abbrev A_M_limited : List Nat := []
abbrev O_M_limited : List (Nat × Nat) := []
theorem v_M_limited_21 {r : Int32} {G1 : zx_G} (s0 : Int32) (G : zx_G) (hf : f_M_limited_21 s0 G = some (r, G1)) : ∀ q k, q ∉ A_M_limited → (q, k) ∉ O_M_limited → G1 q k = G q k := by
  unfold f_M_limited_21 at hf
  have hg : ∀ q k, q ∉ A_M_limited → (q, k) ∉ O_M_limited → G q k = G q k := fun _ _ _ _ => rfl
  exact zv_ret hg hf
theorem v_M_limited_0 {r : Int32} {G1 : zx_G} (x0 x1 : Int32) (G : zx_G) (hf : f_M_limited x0 x1 G = some (r, G1)) : ∀ q k, q ∉ A_M_limited → (q, k) ∉ O_M_limited → G1 q k = G q k := by
  unfold f_M_limited at hf
  have hg : ∀ q k, q ∉ A_M_limited → (q, k) ∉ O_M_limited → G q k = G q k := fun _ _ _ _ => rfl
  rcases zx_if_some hf with ⟨hc_1, hf⟩ | ⟨hc_1, hf⟩
  · skip
    rcases zx_if_some hf with ⟨hc_2, hf⟩ | ⟨hc_2, hf⟩
    · skip
      exact zv_tr hg (v_M_limited_21 x0 G hf)
    · skip
      exact zv_tr hg (v_M_limited_21 x1 G hf)
  · skip
    exact zv_tr hg (v_M_limited_21 (-x1) G hf)
theorem v_M_limited (x0 x1 : Int32) (G : zx_G) {r : Int32} {G1 : zx_G} (hf : f_M_limited x0 x1 G = some (r, G1)) : ∀ q k, q ∉ A_M_limited → (q, k) ∉ O_M_limited → G1 q k = G q k := v_M_limited_0 x0 x1 G hf
abbrev A_M_far : List Nat := []
abbrev O_M_far : List (Nat × Nat) := []
theorem v_M_far_14 {r : Int32} {G1 : zx_G} (s0 : Int32) (G : zx_G) (hf : f_M_far_14 s0 G = some (r, G1)) : ∀ q k, q ∉ A_M_far → (q, k) ∉ O_M_far → G1 q k = G q k := by
  unfold f_M_far_14 at hf
  have hg : ∀ q k, q ∉ A_M_far → (q, k) ∉ O_M_far → G q k = G q k := fun _ _ _ _ => rfl
  exact zv_ret hg hf
theorem v_M_far_0 {r : Int32} {G1 : zx_G} (x0 x1 : Int32) (G : zx_G) (hf : f_M_far x0 x1 G = some (r, G1)) : ∀ q k, q ∉ A_M_far → (q, k) ∉ O_M_far → G1 q k = G q k := by
  unfold f_M_far at hf
  have hg : ∀ q k, q ∉ A_M_far → (q, k) ∉ O_M_far → G q k = G q k := fun _ _ _ _ => rfl
  rcases zx_if_some hf with ⟨hc_1, hf⟩ | ⟨hc_1, hf⟩
  · skip
    exact zv_tr hg (v_M_far_14 (x0 - x1) G hf)
  · skip
    exact zv_tr hg (v_M_far_14 (x1 - x0) G hf)
theorem v_M_far (x0 x1 : Int32) (G : zx_G) {r : Int32} {G1 : zx_G} (hf : f_M_far x0 x1 G = some (r, G1)) : ∀ q k, q ∉ A_M_far → (q, k) ∉ O_M_far → G1 q k = G q k := v_M_far_0 x0 x1 G hf
abbrev A_M_pull : List Nat := []
abbrev O_M_pull : List (Nat × Nat) := []
theorem v_M_pull_44 {r : Int32} {G1 : zx_G} (s0 s1 : Int32) (G : zx_G) (hf : f_M_pull_44 s0 s1 G = some (r, G1)) : ∀ q k, q ∉ A_M_pull → (q, k) ∉ O_M_pull → G1 q k = G q k := by
  unfold f_M_pull_44 at hf
  have hg : ∀ q k, q ∉ A_M_pull → (q, k) ∉ O_M_pull → G q k = G q k := fun _ _ _ _ => rfl
  obtain ⟨r_2, G_1, hq_3, hf⟩ := zx_bd_some hf
  have hg := zv_call hg (v_M_limited s0 s1 G hq_3) (by decide) (by decide)
  exact zv_ret hg hf
theorem v_M_pull_21 {r : Int32} {G1 : zx_G} (x1 s0 : Int32) (G : zx_G) (hf : f_M_pull_21 x1 s0 G = some (r, G1)) : ∀ q k, q ∉ A_M_pull → (q, k) ∉ O_M_pull → G1 q k = G q k := by
  unfold f_M_pull_21 at hf
  have hg : ∀ q k, q ∉ A_M_pull → (q, k) ∉ O_M_pull → G q k = G q k := fun _ _ _ _ => rfl
  obtain ⟨x2_1, ex2_1, hf⟩ := zx_lt_some hf
  obtain ⟨r_3, G_2, hq_4, hf⟩ := zx_bd_some hf
  have hg := zv_call hg (v_M_far x1 (0 : Int32) G hq_4) (by decide) (by decide)
  obtain ⟨x3_5, ex3_5, hf⟩ := zx_lt_some hf
  rcases zx_if_some hf with ⟨hc_6, hf⟩ | ⟨hc_6, hf⟩
  · skip
    exact zv_tr hg (v_M_pull_44 x1 x3_5 G_2 hf)
  · skip
    exact zv_tr hg (v_M_pull_44 x1 (0 : Int32) G_2 hf)
theorem v_M_pull_0 {r : Int32} {G1 : zx_G} (x1 : Int32) (G : zx_G) (hf : f_M_pull x1 G = some (r, G1)) : ∀ q k, q ∉ A_M_pull → (q, k) ∉ O_M_pull → G1 q k = G q k := by
  unfold f_M_pull at hf
  have hg : ∀ q k, q ∉ A_M_pull → (q, k) ∉ O_M_pull → G q k = G q k := fun _ _ _ _ => rfl
  rcases zx_if_some hf with ⟨hc_1, hf⟩ | ⟨hc_1, hf⟩
  · skip
    exact zv_tr hg (v_M_pull_21 x1 (G 32 24) G hf)
  · skip
    exact zv_tr hg (v_M_pull_21 x1 ((4 : Int32) * (G 32 24)) G hf)
theorem v_M_pull (x1 : Int32) (G : zx_G) {r : Int32} {G1 : zx_G} (hf : f_M_pull x1 G = some (r, G1)) : ∀ q k, q ∉ A_M_pull → (q, k) ∉ O_M_pull → G1 q k = G q k := v_M_pull_0 x1 G hf
abbrev A_M_soften : List Nat := [42, 43]
abbrev O_M_soften : List (Nat × Nat) := []
theorem v_M_soften_202 {r : Int32} {G1 : zx_G} {k31 : Int32 → Int32 → zx_G → Option (Int32 × zx_G)} {k41 : Int32 → Int32 → Int32 → zx_G → Option (Int32 × zx_G)} (hk31 : ∀ (x1 x2 : Int32) (G : zx_G), k31 x1 x2 G = some (r, G1) → ∀ q k, q ∉ A_M_soften → (q, k) ∉ O_M_soften → G1 q k = G q k) (hk41 : ∀ (x1 x2 x3 : Int32) (G : zx_G), k41 x1 x2 x3 G = some (r, G1) → ∀ q k, q ∉ A_M_soften → (q, k) ∉ O_M_soften → G1 q k = G q k) (x1 x2 x3 x4 s0 s1 : Int32) (G : zx_G) (hf : f_M_soften_202 k31 k41 x1 x2 x3 x4 s0 s1 G = some (r, G1)) : ∀ q k, q ∉ A_M_soften → (q, k) ∉ O_M_soften → G1 q k = G q k := by
  unfold f_M_soften_202 at hf
  have hg : ∀ q k, q ∉ A_M_soften → (q, k) ∉ O_M_soften → G q k = G q k := fun _ _ _ _ => rfl
  obtain ⟨x5_1, ex5_1, hf⟩ := zx_lt_some hf
  obtain ⟨hb_2, hf⟩ := zx_gd_some hf
  obtain ⟨G_3, eG_3, hf⟩ := zx_lt_some hf
  have hg := zv_ua hg eG_3 (by decide)
  obtain ⟨x3_4, ex3_4, hf⟩ := zx_lt_some hf
  exact zv_tr hg (hk41 x1 x2 x3_4 G_3 hf)
theorem v_M_soften_162 {r : Int32} {G1 : zx_G} {k31 : Int32 → Int32 → zx_G → Option (Int32 × zx_G)} {k41 : Int32 → Int32 → Int32 → zx_G → Option (Int32 × zx_G)} (hk31 : ∀ (x1 x2 : Int32) (G : zx_G), k31 x1 x2 G = some (r, G1) → ∀ q k, q ∉ A_M_soften → (q, k) ∉ O_M_soften → G1 q k = G q k) (hk41 : ∀ (x1 x2 x3 : Int32) (G : zx_G), k41 x1 x2 x3 G = some (r, G1) → ∀ q k, q ∉ A_M_soften → (q, k) ∉ O_M_soften → G1 q k = G q k) (x1 x2 x3 x4 s0 s1 : Int32) (G : zx_G) (hf : f_M_soften_162 k31 k41 x1 x2 x3 x4 s0 s1 G = some (r, G1)) : ∀ q k, q ∉ A_M_soften → (q, k) ∉ O_M_soften → G1 q k = G q k := by
  unfold f_M_soften_162 at hf
  have hg : ∀ q k, q ∉ A_M_soften → (q, k) ∉ O_M_soften → G q k = G q k := fun _ _ _ _ => rfl
  obtain ⟨x5_1, ex5_1, hf⟩ := zx_lt_some hf
  rcases zx_if_some hf with ⟨hc_2, hf⟩ | ⟨hc_2, hf⟩
  · skip
    exact zv_tr hg (v_M_soften_202 hk31 hk41 x1 x2 x3 x4 x5_1 (0 : Int32) G hf)
  · skip
    obtain ⟨hb_3, hf⟩ := zx_gd_some hf
    obtain ⟨r_5, G_4, hq_6, hf⟩ := zx_bd_some hf
    have hg := zv_call hg (v_M_pull ((G 43 (Int32.toNatClampNeg ((((16 : Int32) * x2) + x3) + (16 : Int32)))) - x4) G hq_6) (by decide) (by decide)
    exact zv_tr hg (v_M_soften_202 hk31 hk41 x1 x2 x3 x4 x5_1 r_5 G_4 hf)
theorem v_M_soften_128 {r : Int32} {G1 : zx_G} {k31 : Int32 → Int32 → zx_G → Option (Int32 × zx_G)} {k41 : Int32 → Int32 → Int32 → zx_G → Option (Int32 × zx_G)} (hk31 : ∀ (x1 x2 : Int32) (G : zx_G), k31 x1 x2 G = some (r, G1) → ∀ q k, q ∉ A_M_soften → (q, k) ∉ O_M_soften → G1 q k = G q k) (hk41 : ∀ (x1 x2 x3 : Int32) (G : zx_G), k41 x1 x2 x3 G = some (r, G1) → ∀ q k, q ∉ A_M_soften → (q, k) ∉ O_M_soften → G1 q k = G q k) (x1 x2 x3 x4 s0 s1 : Int32) (G : zx_G) (hf : f_M_soften_128 k31 k41 x1 x2 x3 x4 s0 s1 G = some (r, G1)) : ∀ q k, q ∉ A_M_soften → (q, k) ∉ O_M_soften → G1 q k = G q k := by
  unfold f_M_soften_128 at hf
  have hg : ∀ q k, q ∉ A_M_soften → (q, k) ∉ O_M_soften → G q k = G q k := fun _ _ _ _ => rfl
  obtain ⟨x5_1, ex5_1, hf⟩ := zx_lt_some hf
  rcases zx_if_some hf with ⟨hc_2, hf⟩ | ⟨hc_2, hf⟩
  · skip
    exact zv_tr hg (v_M_soften_162 hk31 hk41 x1 x2 x3 x4 x5_1 (0 : Int32) G hf)
  · skip
    obtain ⟨hb_3, hf⟩ := zx_gd_some hf
    obtain ⟨r_5, G_4, hq_6, hf⟩ := zx_bd_some hf
    have hg := zv_call hg (v_M_pull ((G 43 (Int32.toNatClampNeg ((((16 : Int32) * x2) + x3) - (16 : Int32)))) - x4) G hq_6) (by decide) (by decide)
    exact zv_tr hg (v_M_soften_162 hk31 hk41 x1 x2 x3 x4 x5_1 r_5 G_4 hf)
theorem v_M_soften_90 {r : Int32} {G1 : zx_G} {k31 : Int32 → Int32 → zx_G → Option (Int32 × zx_G)} {k41 : Int32 → Int32 → Int32 → zx_G → Option (Int32 × zx_G)} (hk31 : ∀ (x1 x2 : Int32) (G : zx_G), k31 x1 x2 G = some (r, G1) → ∀ q k, q ∉ A_M_soften → (q, k) ∉ O_M_soften → G1 q k = G q k) (hk41 : ∀ (x1 x2 x3 : Int32) (G : zx_G), k41 x1 x2 x3 G = some (r, G1) → ∀ q k, q ∉ A_M_soften → (q, k) ∉ O_M_soften → G1 q k = G q k) (x1 x2 x3 x4 s0 : Int32) (G : zx_G) (hf : f_M_soften_90 k31 k41 x1 x2 x3 x4 s0 G = some (r, G1)) : ∀ q k, q ∉ A_M_soften → (q, k) ∉ O_M_soften → G1 q k = G q k := by
  unfold f_M_soften_90 at hf
  have hg : ∀ q k, q ∉ A_M_soften → (q, k) ∉ O_M_soften → G q k = G q k := fun _ _ _ _ => rfl
  obtain ⟨x5_1, ex5_1, hf⟩ := zx_lt_some hf
  rcases zx_if_some hf with ⟨hc_2, hf⟩ | ⟨hc_2, hf⟩
  · skip
    exact zv_tr hg (v_M_soften_128 hk31 hk41 x1 x2 x3 x4 x5_1 (0 : Int32) G hf)
  · skip
    obtain ⟨hb_3, hf⟩ := zx_gd_some hf
    obtain ⟨r_5, G_4, hq_6, hf⟩ := zx_bd_some hf
    have hg := zv_call hg (v_M_pull ((G 43 (Int32.toNatClampNeg ((((16 : Int32) * x2) + x3) + (1 : Int32)))) - x4) G hq_6) (by decide) (by decide)
    exact zv_tr hg (v_M_soften_128 hk31 hk41 x1 x2 x3 x4 x5_1 r_5 G_4 hf)
theorem v_M_soften_41 {r : Int32} {G1 : zx_G} {k31 : Int32 → Int32 → zx_G → Option (Int32 × zx_G)} (hk31 : ∀ (x1 x2 : Int32) (G : zx_G), k31 x1 x2 G = some (r, G1) → ∀ q k, q ∉ A_M_soften → (q, k) ∉ O_M_soften → G1 q k = G q k) : ∀ (n : Nat) (x1 x2 x3 : Int32) (G : zx_G), f_M_soften_41 k31 n x1 x2 x3 G = some (r, G1) → ∀ q k, q ∉ A_M_soften → (q, k) ∉ O_M_soften → G1 q k = G q k := by
  intro n
  induction n with
  | zero => intro x1 x2 x3 G hf; cases hf
  | succ n ih =>
    intro x1 x2 x3 G hf
    unfold f_M_soften_41 at hf
    have hg : ∀ q k, q ∉ A_M_soften → (q, k) ∉ O_M_soften → G q k = G q k := fun _ _ _ _ => rfl
    rcases zx_if_some hf with ⟨hc_1, hf⟩ | ⟨hc_1, hf⟩
    · skip
      obtain ⟨x2_2, ex2_2, hf⟩ := zx_lt_some hf
      exact zv_tr hg (hk31 x1 x2_2 G hf)
    · skip
      obtain ⟨hb_3, hf⟩ := zx_gd_some hf
      obtain ⟨x4_4, ex4_4, hf⟩ := zx_lt_some hf
      rcases zx_if_some hf with ⟨hc_5, hf⟩ | ⟨hc_5, hf⟩
      · skip
        exact zv_tr hg (v_M_soften_90 hk31 ih x1 x2 x3 x4_4 (0 : Int32) G hf)
      · skip
        obtain ⟨hb_6, hf⟩ := zx_gd_some hf
        obtain ⟨r_8, G_7, hq_9, hf⟩ := zx_bd_some hf
        have hg := zv_call hg (v_M_pull ((G 43 (Int32.toNatClampNeg ((((16 : Int32) * x2) + x3) - (1 : Int32)))) - x4_4) G hq_9) (by decide) (by decide)
        exact zv_tr hg (v_M_soften_90 hk31 ih x1 x2 x3 x4_4 r_8 G_7 hf)
theorem v_M_soften_31 {r : Int32} {G1 : zx_G} : ∀ (n : Nat) (x1 x2 : Int32) (G : zx_G), f_M_soften_31 n x1 x2 G = some (r, G1) → ∀ q k, q ∉ A_M_soften → (q, k) ∉ O_M_soften → G1 q k = G q k := by
  intro n
  induction n with
  | zero => intro x1 x2 G hf; cases hf
  | succ n ih =>
    intro x1 x2 G hf
    unfold f_M_soften_31 at hf
    have hg : ∀ q k, q ∉ A_M_soften → (q, k) ∉ O_M_soften → G q k = G q k := fun _ _ _ _ => rfl
    rcases zx_if_some hf with ⟨hc_1, hf⟩ | ⟨hc_1, hf⟩
    · skip
      exact zv_ret hg hf
    · skip
      obtain ⟨x3_2, ex3_2, hf⟩ := zx_lt_some hf
      exact zv_tr hg (v_M_soften_41 ih 2048 x1 x2 x3_2 G hf)
theorem v_M_soften_2 {r : Int32} {G1 : zx_G} : ∀ (n : Nat) (x1 x2 : Int32) (G : zx_G), f_M_soften_2 n x1 x2 G = some (r, G1) → ∀ q k, q ∉ A_M_soften → (q, k) ∉ O_M_soften → G1 q k = G q k := by
  intro n
  induction n with
  | zero => intro x1 x2 G hf; cases hf
  | succ n ih =>
    intro x1 x2 G hf
    unfold f_M_soften_2 at hf
    have hg : ∀ q k, q ∉ A_M_soften → (q, k) ∉ O_M_soften → G q k = G q k := fun _ _ _ _ => rfl
    rcases zx_if_some hf with ⟨hc_1, hf⟩ | ⟨hc_1, hf⟩
    · skip
      obtain ⟨x2_2, ex2_2, hf⟩ := zx_lt_some hf
      exact zv_tr hg (v_M_soften_31 2048 x1 x2_2 G hf)
    · skip
      obtain ⟨hb_3, hf⟩ := zx_gd_some hf
      obtain ⟨hb_4, hf⟩ := zx_gd_some hf
      obtain ⟨G_5, eG_5, hf⟩ := zx_lt_some hf
      have hg := zv_ua hg eG_5 (by decide)
      obtain ⟨x2_6, ex2_6, hf⟩ := zx_lt_some hf
      exact zv_tr hg (ih x1 x2_6 G_5 hf)
theorem v_M_soften_0 {r : Int32} {G1 : zx_G} (x1 : Int32) (G : zx_G) (hf : f_M_soften x1 G = some (r, G1)) : ∀ q k, q ∉ A_M_soften → (q, k) ∉ O_M_soften → G1 q k = G q k := by
  unfold f_M_soften at hf
  have hg : ∀ q k, q ∉ A_M_soften → (q, k) ∉ O_M_soften → G q k = G q k := fun _ _ _ _ => rfl
  obtain ⟨x2_1, ex2_1, hf⟩ := zx_lt_some hf
  exact zv_tr hg (v_M_soften_2 2048 x1 x2_1 G hf)
theorem v_M_soften (x1 : Int32) (G : zx_G) {r : Int32} {G1 : zx_G} (hf : f_M_soften x1 G = some (r, G1)) : ∀ q k, q ∉ A_M_soften → (q, k) ∉ O_M_soften → G1 q k = G q k := v_M_soften_0 x1 G hf
