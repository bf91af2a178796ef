/-! the same by slots; written by a program -/
abbrev A_M_within : List Nat := []
abbrev O_M_within : List (Nat × Nat) := []
theorem v_M_within_36 {r : Int32} {G1 : zx_G} (s0 : Int32) (G : zx_G) (hf : f_M_within_36 s0 G = some (r, G1)) : ∀ q k, q ∉ A_M_within → (q, k) ∉ O_M_within → G1 q k = G q k := by
  unfold f_M_within_36 at hf
  have hg : ∀ q k, q ∉ A_M_within → (q, k) ∉ O_M_within → G q k = G q k := fun _ _ _ _ => rfl
  exact zv_ret hg hf
theorem v_M_within_17 {r : Int32} {G1 : zx_G} (x1 s0 : Int32) (G : zx_G) (hf : f_M_within_17 x1 s0 G = some (r, G1)) : ∀ q k, q ∉ A_M_within → (q, k) ∉ O_M_within → G1 q k = G q k := by
  unfold f_M_within_17 at hf
  have hg : ∀ q k, q ∉ A_M_within → (q, k) ∉ O_M_within → G q k = G q k := fun _ _ _ _ => rfl
  obtain ⟨x2_1, ex2_1, hf⟩ := zx_lt_some hf
  rcases zx_if_some hf with ⟨hc_2, hf⟩ | ⟨hc_2, hf⟩
  · skip
    rcases zx_if_some hf with ⟨hc_3, hf⟩ | ⟨hc_3, hf⟩
    · skip
      exact zv_tr hg (v_M_within_36 x1 G hf)
    · skip
      exact zv_tr hg (v_M_within_36 x2_1 G hf)
  · skip
    exact zv_tr hg (v_M_within_36 (0 : Int32) G hf)
theorem v_M_within_0 {r : Int32} {G1 : zx_G} (x1 : Int32) (G : zx_G) (hf : f_M_within x1 G = some (r, G1)) : ∀ q k, q ∉ A_M_within → (q, k) ∉ O_M_within → G1 q k = G q k := by
  unfold f_M_within at hf
  have hg : ∀ q k, q ∉ A_M_within → (q, k) ∉ O_M_within → G q k = G q k := fun _ _ _ _ => rfl
  rcases zx_if_some hf with ⟨hc_1, hf⟩ | ⟨hc_1, hf⟩
  · skip
    exact zv_tr hg (v_M_within_17 x1 (255 : Int32) G hf)
  · skip
    exact zv_tr hg (v_M_within_17 x1 (1023 : Int32) G hf)
theorem v_M_within (x1 : Int32) (G : zx_G) {r : Int32} {G1 : zx_G} (hf : f_M_within x1 G = some (r, G1)) : ∀ q k, q ∉ A_M_within → (q, k) ∉ O_M_within → G1 q k = G q k := v_M_within_0 x1 G hf
abbrev A_M_smooth : List Nat := [42]
abbrev O_M_smooth : List (Nat × Nat) := []
theorem v_M_smooth_40 {r : Int32} {G1 : zx_G} (G : zx_G) (hf : f_M_smooth_40 G = some (r, G1)) : ∀ q k, q ∉ A_M_smooth → (q, k) ∉ O_M_smooth → G1 q k = G q k := by
  unfold f_M_smooth_40 at hf
  have hg : ∀ q k, q ∉ A_M_smooth → (q, k) ∉ O_M_smooth → G q k = G q k := fun _ _ _ _ => rfl
  exact zv_ret hg hf
theorem v_M_smooth_153 {r : Int32} {G1 : zx_G} (x7 x8 x9 x10 s0 : Int32) (G : zx_G) (hf : f_M_smooth_153 x7 x8 x9 x10 s0 G = some (r, G1)) : ∀ q k, q ∉ A_M_smooth → (q, k) ∉ O_M_smooth → G1 q k = G q k := by
  unfold f_M_smooth_153 at hf
  have hg : ∀ q k, q ∉ A_M_smooth → (q, k) ∉ O_M_smooth → G q k = G q k := fun _ _ _ _ => rfl
  obtain ⟨x11_1, ex11_1, hf⟩ := zx_lt_some hf
  obtain ⟨r_3, G_2, hq_4, hf⟩ := zx_bd_some hf
  have hg := zv_call hg (v_M_far x9 x10 G hq_4) (by decide) (by decide)
  rcases zx_if_some hf with ⟨hc_5, hf⟩ | ⟨hc_5, hf⟩
  · skip
    obtain ⟨hb_6, hf⟩ := zx_gd_some hf
    obtain ⟨hb_7, hf⟩ := zx_gd_some hf
    obtain ⟨r_9, G_8, hq_10, hf⟩ := zx_bd_some hf
    have hg := zv_call hg (v_M_limited ((((((3 : Int32) * (x10 - x9)) + (G_2 42 (Int32.toNatClampNeg (x8 - ((2 : Int32) * x7))))) - (G_2 42 (Int32.toNatClampNeg (x8 + x7)))) + (4 : Int32)) >>> ((3 : Int32) &&& 31)) x11_1 G_2 hq_10) (by decide) (by decide)
    obtain ⟨x12_11, ex12_11, hf⟩ := zx_lt_some hf
    obtain ⟨r_13, G_12, hq_14, hf⟩ := zx_bd_some hf
    have hg := zv_call hg (v_M_within (x9 + x12_11) G_8 hq_14) (by decide) (by decide)
    obtain ⟨hb_15, hf⟩ := zx_gd_some hf
    obtain ⟨G_16, eG_16, hf⟩ := zx_lt_some hf
    have hg := zv_ua hg eG_16 (by decide)
    obtain ⟨r_18, G_17, hq_19, hf⟩ := zx_bd_some hf
    have hg := zv_call hg (v_M_within (x10 - x12_11) G_16 hq_19) (by decide) (by decide)
    obtain ⟨hb_20, hf⟩ := zx_gd_some hf
    obtain ⟨G_21, eG_21, hf⟩ := zx_lt_some hf
    have hg := zv_ua hg eG_21 (by decide)
    exact zv_ret hg hf
  · skip
    exact zv_ret hg hf
theorem v_M_smooth_95 {r : Int32} {G1 : zx_G} (x1 x2 x3 s0 : Int32) (G : zx_G) (hf : f_M_smooth_95 x1 x2 x3 s0 G = some (r, G1)) : ∀ q k, q ∉ A_M_smooth → (q, k) ∉ O_M_smooth → G1 q k = G q k := by
  unfold f_M_smooth_95 at hf
  have hg : ∀ q k, q ∉ A_M_smooth → (q, k) ∉ O_M_smooth → G q k = G q k := fun _ _ _ _ => rfl
  obtain ⟨x7_1, ex7_1, hf⟩ := zx_lt_some hf
  obtain ⟨x8_2, ex8_2, hf⟩ := zx_lt_some hf
  obtain ⟨hb_3, hf⟩ := zx_gd_some hf
  obtain ⟨x9_4, ex9_4, hf⟩ := zx_lt_some hf
  obtain ⟨hb_5, hf⟩ := zx_gd_some hf
  obtain ⟨x10_6, ex10_6, hf⟩ := zx_lt_some hf
  rcases zx_if_some hf with ⟨hc_7, hf⟩ | ⟨hc_7, hf⟩
  · skip
    exact zv_tr hg (v_M_smooth_153 x7_1 x8_2 x9_4 x10_6 (G 32 23) G hf)
  · skip
    exact zv_tr hg (v_M_smooth_153 x7_1 x8_2 x9_4 x10_6 ((4 : Int32) * (G 32 23)) G hf)
theorem v_M_smooth_79 {r : Int32} {G1 : zx_G} (x1 x2 x3 x4 s0 s2 : Int32) (G : zx_G) (hf : f_M_smooth_79 x1 x2 x3 x4 s0 s2 G = some (r, G1)) : ∀ q k, q ∉ A_M_smooth → (q, k) ∉ O_M_smooth → G1 q k = G q k := by
  unfold f_M_smooth_79 at hf
  have hg : ∀ q k, q ∉ A_M_smooth → (q, k) ∉ O_M_smooth → G q k = G q k := fun _ _ _ _ => rfl
  obtain ⟨hb_1, hf⟩ := zx_gd_some hf
  rcases zx_if_some hf with ⟨hc_2, hf⟩ | ⟨hc_2, hf⟩
  · skip
    rcases zx_if_some hf with ⟨hc_3, hf⟩ | ⟨hc_3, hf⟩
    · skip
      exact zv_tr hg (v_M_smooth_95 x1 x2 x3 (16 : Int32) G hf)
    · skip
      exact zv_tr hg (v_M_smooth_95 x1 x2 x3 (1 : Int32) G hf)
  · skip
    exact zv_ret hg hf
theorem v_M_smooth_10 {r : Int32} {G1 : zx_G} (x1 x2 x3 x4 s0 : Int32) (G : zx_G) (hf : f_M_smooth_10 x1 x2 x3 x4 s0 G = some (r, G1)) : ∀ q k, q ∉ A_M_smooth → (q, k) ∉ O_M_smooth → G1 q k = G q k := by
  unfold f_M_smooth_10 at hf
  have hg : ∀ q k, q ∉ A_M_smooth → (q, k) ∉ O_M_smooth → G q k = G q k := fun _ _ _ _ => rfl
  obtain ⟨x5_1, ex5_1, hf⟩ := zx_lt_some hf
  rcases zx_if_some hf with ⟨hc_2, hf⟩ | ⟨hc_2, hf⟩
  · skip
    exact zv_tr hg (v_M_smooth_40 G hf)
  · skip
    rcases zx_if_some hf with ⟨hc_3, hf⟩ | ⟨hc_3, hf⟩
    · skip
      exact zv_tr hg (v_M_smooth_40 G hf)
    · skip
      rcases zx_if_some hf with ⟨hc_4, hf⟩ | ⟨hc_4, hf⟩
      · skip
        exact zv_tr hg (v_M_smooth_40 G hf)
      · skip
        obtain ⟨hb_5, hf⟩ := zx_gd_some hf
        rcases zx_if_some hf with ⟨hc_6, hf⟩ | ⟨hc_6, hf⟩
        · skip
          obtain ⟨hb_7, hf⟩ := zx_gd_some hf
          obtain ⟨hb_8, hf⟩ := zx_gd_some hf
          obtain ⟨x6_9, ex6_9, hf⟩ := zx_lt_some hf
          obtain ⟨hb_10, hf⟩ := zx_gd_some hf
          rcases zx_if_some hf with ⟨hc_11, hf⟩ | ⟨hc_11, hf⟩
          · skip
            exact zv_tr hg (v_M_smooth_79 x1 x2 x3 x4 (G 44 (Int32.toNatClampNeg x6_9)) (x6_9 - (4 : Int32)) G hf)
          · skip
            exact zv_tr hg (v_M_smooth_79 x1 x2 x3 x4 (G 44 (Int32.toNatClampNeg x6_9)) (x6_9 - (1 : Int32)) G hf)
        · skip
          exact zv_tr hg (v_M_smooth_40 G hf)
theorem v_M_smooth_0 {r : Int32} {G1 : zx_G} (x1 x2 x3 x4 : Int32) (G : zx_G) (hf : f_M_smooth x1 x2 x3 x4 G = some (r, G1)) : ∀ q k, q ∉ A_M_smooth → (q, k) ∉ O_M_smooth → G1 q k = G q k := by
  unfold f_M_smooth at hf
  have hg : ∀ q k, q ∉ A_M_smooth → (q, k) ∉ O_M_smooth → G q k = G q k := fun _ _ _ _ => rfl
  rcases zx_if_some hf with ⟨hc_1, hf⟩ | ⟨hc_1, hf⟩
  · skip
    exact zv_tr hg (v_M_smooth_10 x1 x2 x3 x4 x3 G hf)
  · skip
    exact zv_tr hg (v_M_smooth_10 x1 x2 x3 x4 x2 G hf)
theorem v_M_smooth (x1 x2 x3 x4 : Int32) (G : zx_G) {r : Int32} {G1 : zx_G} (hf : f_M_smooth x1 x2 x3 x4 G = some (r, G1)) : ∀ q k, q ∉ A_M_smooth → (q, k) ∉ O_M_smooth → G1 q k = G q k := v_M_smooth_0 x1 x2 x3 x4 G hf
abbrev A_M_filter : List Nat := [42, 43]
abbrev O_M_filter : List (Nat × Nat) := []
theorem v_M_filter_95 {r : Int32} {G1 : zx_G} {k2 : Int32 → zx_G → Option (Int32 × zx_G)} (hk2 : ∀ (x1 : Int32) (G : zx_G), k2 x1 G = some (r, G1) → ∀ q k, q ∉ A_M_filter → (q, k) ∉ O_M_filter → G1 q k = G q k) (x1 : Int32) (G : zx_G) (hf : f_M_filter_95 k2 x1 G = some (r, G1)) : ∀ q k, q ∉ A_M_filter → (q, k) ∉ O_M_filter → G1 q k = G q k := by
  unfold f_M_filter_95 at hf
  have hg : ∀ q k, q ∉ A_M_filter → (q, k) ∉ O_M_filter → G q k = G q k := fun _ _ _ _ => rfl
  obtain ⟨x1_1, ex1_1, hf⟩ := zx_lt_some hf
  exact zv_tr hg (hk2 x1_1 G hf)
theorem v_M_filter_79 {r : Int32} {G1 : zx_G} {k2 : Int32 → zx_G → Option (Int32 × zx_G)} (hk2 : ∀ (x1 : Int32) (G : zx_G), k2 x1 G = some (r, G1) → ∀ q k, q ∉ A_M_filter → (q, k) ∉ O_M_filter → G1 q k = G q k) (x1 : Int32) (G : zx_G) (hf : f_M_filter_79 k2 x1 G = some (r, G1)) : ∀ q k, q ∉ A_M_filter → (q, k) ∉ O_M_filter → G1 q k = G q k := by
  unfold f_M_filter_79 at hf
  have hg : ∀ q k, q ∉ A_M_filter → (q, k) ∉ O_M_filter → G q k = G q k := fun _ _ _ _ => rfl
  rcases zx_if_some hf with ⟨hc_1, hf⟩ | ⟨hc_1, hf⟩
  · skip
    exact zv_tr hg (v_M_filter_95 hk2 x1 G hf)
  · skip
    obtain ⟨r_3, G_2, hq_4, hf⟩ := zx_bd_some hf
    have hg := zv_call hg (v_M_soften ((256 : Int32) * x1) G hq_4) (by decide) (by decide)
    exact zv_tr hg (v_M_filter_95 hk2 x1 G_2 hf)
theorem v_M_filter_52 {r : Int32} {G1 : zx_G} {k2 : Int32 → zx_G → Option (Int32 × zx_G)} (hk2 : ∀ (x1 : Int32) (G : zx_G), k2 x1 G = some (r, G1) → ∀ q k, q ∉ A_M_filter → (q, k) ∉ O_M_filter → G1 q k = G q k) : ∀ (n : Nat) (x1 x2 : Int32) (G : zx_G), f_M_filter_52 k2 n x1 x2 G = some (r, G1) → ∀ q k, q ∉ A_M_filter → (q, k) ∉ O_M_filter → G1 q k = G q k := by
  intro n
  induction n with
  | zero => intro x1 x2 G hf; cases hf
  | succ n ih =>
    intro x1 x2 G hf
    unfold f_M_filter_52 at hf
    have hg : ∀ q k, q ∉ A_M_filter → (q, k) ∉ O_M_filter → G q k = G q k := fun _ _ _ _ => rfl
    rcases zx_if_some hf with ⟨hc_1, hf⟩ | ⟨hc_1, hf⟩
    · skip
      exact zv_tr hg (v_M_filter_79 hk2 x1 G hf)
    · skip
      obtain ⟨hb_2, hf⟩ := zx_gd_some hf
      obtain ⟨hb_3, hf⟩ := zx_gd_some hf
      obtain ⟨r_5, G_4, hq_6, hf⟩ := zx_bd_some hf
      have hg := zv_call hg (v_M_smooth x1 (zx_rem x2 (16 : Int32)) (zx_div x2 (16 : Int32)) (0 : Int32) G hq_6) (by decide) (by decide)
      obtain ⟨x2_7, ex2_7, hf⟩ := zx_lt_some hf
      exact zv_tr hg (ih x1 x2_7 G_4 hf)
theorem v_M_filter_23 {r : Int32} {G1 : zx_G} {k2 : Int32 → zx_G → Option (Int32 × zx_G)} (hk2 : ∀ (x1 : Int32) (G : zx_G), k2 x1 G = some (r, G1) → ∀ q k, q ∉ A_M_filter → (q, k) ∉ O_M_filter → G1 q k = G q k) : ∀ (n : Nat) (x1 x2 : Int32) (G : zx_G), f_M_filter_23 k2 n x1 x2 G = some (r, G1) → ∀ q k, q ∉ A_M_filter → (q, k) ∉ O_M_filter → G1 q k = G q k := by
  intro n
  induction n with
  | zero => intro x1 x2 G hf; cases hf
  | succ n ih =>
    intro x1 x2 G hf
    unfold f_M_filter_23 at hf
    have hg : ∀ q k, q ∉ A_M_filter → (q, k) ∉ O_M_filter → G q k = G q k := fun _ _ _ _ => rfl
    rcases zx_if_some hf with ⟨hc_1, hf⟩ | ⟨hc_1, hf⟩
    · skip
      obtain ⟨x2_2, ex2_2, hf⟩ := zx_lt_some hf
      exact zv_tr hg (v_M_filter_52 hk2 2048 x1 x2_2 G hf)
    · skip
      obtain ⟨hb_3, hf⟩ := zx_gd_some hf
      obtain ⟨hb_4, hf⟩ := zx_gd_some hf
      obtain ⟨r_6, G_5, hq_7, hf⟩ := zx_bd_some hf
      have hg := zv_call hg (v_M_smooth x1 (zx_rem x2 (16 : Int32)) (zx_div x2 (16 : Int32)) (1 : Int32) G hq_7) (by decide) (by decide)
      obtain ⟨x2_8, ex2_8, hf⟩ := zx_lt_some hf
      exact zv_tr hg (ih x1 x2_8 G_5 hf)
theorem v_M_filter_2 {r : Int32} {G1 : zx_G} : ∀ (n : Nat) (x1 : Int32) (G : zx_G), f_M_filter_2 n x1 G = some (r, G1) → ∀ q k, q ∉ A_M_filter → (q, k) ∉ O_M_filter → G1 q k = G q k := by
  intro n
  induction n with
  | zero => intro x1 G hf; cases hf
  | succ n ih =>
    intro x1 G hf
    unfold f_M_filter_2 at hf
    have hg : ∀ q k, q ∉ A_M_filter → (q, k) ∉ O_M_filter → G q k = G q k := fun _ _ _ _ => rfl
    rcases zx_if_some hf with ⟨hc_1, hf⟩ | ⟨hc_1, hf⟩
    · skip
      exact zv_ret hg hf
    · skip
      rcases zx_if_some hf with ⟨hc_2, hf⟩ | ⟨hc_2, hf⟩
      · skip
        exact zv_tr hg (v_M_filter_79 ih x1 G hf)
      · skip
        obtain ⟨x2_3, ex2_3, hf⟩ := zx_lt_some hf
        exact zv_tr hg (v_M_filter_23 ih 2048 x1 x2_3 G hf)
theorem v_M_filter_0 {r : Int32} {G1 : zx_G} (G : zx_G) (hf : f_M_filter G = some (r, G1)) : ∀ q k, q ∉ A_M_filter → (q, k) ∉ O_M_filter → G1 q k = G q k := by
  unfold f_M_filter at hf
  have hg : ∀ q k, q ∉ A_M_filter → (q, k) ∉ O_M_filter → G q k = G q k := fun _ _ _ _ => rfl
  obtain ⟨x1_1, ex1_1, hf⟩ := zx_lt_some hf
  exact zv_tr hg (v_M_filter_2 2048 x1_1 G hf)
theorem v_M_filter (G : zx_G) {r : Int32} {G1 : zx_G} (hf : f_M_filter G = some (r, G1)) : ∀ q k, q ∉ A_M_filter → (q, k) ∉ O_M_filter → G1 q k = G q k := v_M_filter_0 G hf
abbrev A_M_tableSize : List Nat := []
abbrev O_M_tableSize : List (Nat × Nat) := []
theorem v_M_tableSize_61 {r : Int32} {G1 : zx_G} (s0 : Int32) (G : zx_G) (hf : f_M_tableSize_61 s0 G = some (r, G1)) : ∀ q k, q ∉ A_M_tableSize → (q, k) ∉ O_M_tableSize → G1 q k = G q k := by
  unfold f_M_tableSize_61 at hf
  have hg : ∀ q k, q ∉ A_M_tableSize → (q, k) ∉ O_M_tableSize → G q k = G q k := fun _ _ _ _ => rfl
  exact zv_ret hg hf
theorem v_M_tableSize_17 {r : Int32} {G1 : zx_G} (G : zx_G) (hf : f_M_tableSize_17 G = some (r, G1)) : ∀ q k, q ∉ A_M_tableSize → (q, k) ∉ O_M_tableSize → G1 q k = G q k := by
  unfold f_M_tableSize_17 at hf
  have hg : ∀ q k, q ∉ A_M_tableSize → (q, k) ∉ O_M_tableSize → G q k = G q k := fun _ _ _ _ => rfl
  exact zv_tr hg (v_M_tableSize_61 (2 : Int32) G hf)
theorem v_M_tableSize_55 {r : Int32} {G1 : zx_G} (G : zx_G) (hf : f_M_tableSize_55 G = some (r, G1)) : ∀ q k, q ∉ A_M_tableSize → (q, k) ∉ O_M_tableSize → G1 q k = G q k := by
  unfold f_M_tableSize_55 at hf
  have hg : ∀ q k, q ∉ A_M_tableSize → (q, k) ∉ O_M_tableSize → G q k = G q k := fun _ _ _ _ => rfl
  exact zv_tr hg (v_M_tableSize_61 (16 : Int32) G hf)
theorem v_M_tableSize_0 {r : Int32} {G1 : zx_G} (x0 : Int32) (G : zx_G) (hf : f_M_tableSize x0 G = some (r, G1)) : ∀ q k, q ∉ A_M_tableSize → (q, k) ∉ O_M_tableSize → G1 q k = G q k := by
  unfold f_M_tableSize at hf
  have hg : ∀ q k, q ∉ A_M_tableSize → (q, k) ∉ O_M_tableSize → G q k = G q k := fun _ _ _ _ => rfl
  rcases zx_if_some hf with ⟨hc_1, hf⟩ | ⟨hc_1, hf⟩
  · skip
    exact zv_tr hg (v_M_tableSize_17 G hf)
  · skip
    rcases zx_if_some hf with ⟨hc_2, hf⟩ | ⟨hc_2, hf⟩
    · skip
      exact zv_tr hg (v_M_tableSize_17 G hf)
    · skip
      rcases zx_if_some hf with ⟨hc_3, hf⟩ | ⟨hc_3, hf⟩
      · skip
        rcases zx_if_some hf with ⟨hc_4, hf⟩ | ⟨hc_4, hf⟩
        · skip
          rcases zx_if_some hf with ⟨hc_5, hf⟩ | ⟨hc_5, hf⟩
          · skip
            rcases zx_if_some hf with ⟨hc_6, hf⟩ | ⟨hc_6, hf⟩
            · skip
              exact zv_tr hg (v_M_tableSize_55 G hf)
            · skip
              rcases zx_if_some hf with ⟨hc_7, hf⟩ | ⟨hc_7, hf⟩
              · skip
                exact zv_tr hg (v_M_tableSize_61 (4 : Int32) G hf)
              · skip
                exact zv_tr hg (v_M_tableSize_55 G hf)
          · skip
            exact zv_tr hg (v_M_tableSize_61 (7 : Int32) G hf)
        · skip
          exact zv_tr hg (v_M_tableSize_61 (6 : Int32) G hf)
      · skip
        exact zv_tr hg (v_M_tableSize_17 G hf)
theorem v_M_tableSize (x0 : Int32) (G : zx_G) {r : Int32} {G1 : zx_G} (hf : f_M_tableSize x0 G = some (r, G1)) : ∀ q k, q ∉ A_M_tableSize → (q, k) ∉ O_M_tableSize → G1 q k = G q k := v_M_tableSize_0 x0 G hf
abbrev A_M_predicted : List Nat := []
abbrev O_M_predicted : List (Nat × Nat) := []
theorem v_M_predicted_197 {r : Int32} {G1 : zx_G} (x4 s0 : Int32) (G : zx_G) (hf : f_M_predicted_197 x4 s0 G = some (r, G1)) : ∀ q k, q ∉ A_M_predicted → (q, k) ∉ O_M_predicted → G1 q k = G q k := by
  unfold f_M_predicted_197 at hf
  have hg : ∀ q k, q ∉ A_M_predicted → (q, k) ∉ O_M_predicted → G q k = G q k := fun _ _ _ _ => rfl
  obtain ⟨x5_1, ex5_1, hf⟩ := zx_lt_some hf
  obtain ⟨hb_2, hf⟩ := zx_gd_some hf
  obtain ⟨hb_3, hf⟩ := zx_gd_some hf
  exact zv_ret hg hf
theorem v_M_predicted_179 {r : Int32} {G1 : zx_G} (x2 x3 s0 : Int32) (G : zx_G) (hf : f_M_predicted_179 x2 x3 s0 G = some (r, G1)) : ∀ q k, q ∉ A_M_predicted → (q, k) ∉ O_M_predicted → G1 q k = G q k := by
  unfold f_M_predicted_179 at hf
  have hg : ∀ q k, q ∉ A_M_predicted → (q, k) ∉ O_M_predicted → G q k = G q k := fun _ _ _ _ => rfl
  obtain ⟨x4_1, ex4_1, hf⟩ := zx_lt_some hf
  rcases zx_if_some hf with ⟨hc_2, hf⟩ | ⟨hc_2, hf⟩
  · skip
    exact zv_tr hg (v_M_predicted_197 x4_1 (3 : Int32) G hf)
  · skip
    exact zv_tr hg (v_M_predicted_197 x4_1 ((x2 + x3) + (1 : Int32)) G hf)
theorem v_M_predicted_304 {r : Int32} {G1 : zx_G} (s0 : Int32) (G : zx_G) (hf : f_M_predicted_304 s0 G = some (r, G1)) : ∀ q k, q ∉ A_M_predicted → (q, k) ∉ O_M_predicted → G1 q k = G q k := by
  unfold f_M_predicted_304 at hf
  have hg : ∀ q k, q ∉ A_M_predicted → (q, k) ∉ O_M_predicted → G q k = G q k := fun _ _ _ _ => rfl
  exact zv_ret hg hf
theorem v_M_predicted_276 {r : Int32} {G1 : zx_G} (x4 x5 : Int32) (G : zx_G) (hf : f_M_predicted_276 x4 x5 G = some (r, G1)) : ∀ q k, q ∉ A_M_predicted → (q, k) ∉ O_M_predicted → G1 q k = G q k := by
  unfold f_M_predicted_276 at hf
  have hg : ∀ q k, q ∉ A_M_predicted → (q, k) ∉ O_M_predicted → G q k = G q k := fun _ _ _ _ => rfl
  obtain ⟨r_2, G_1, hq_3, hf⟩ := zx_bd_some hf
  have hg := zv_call hg (v_M_far (G 32 44) x4 G hq_3) (by decide) (by decide)
  obtain ⟨r_5, G_4, hq_6, hf⟩ := zx_bd_some hf
  have hg := zv_call hg (v_M_far x5 x4 G_1 hq_6) (by decide) (by decide)
  rcases zx_if_some hf with ⟨hc_7, hf⟩ | ⟨hc_7, hf⟩
  · skip
    exact zv_tr hg (v_M_predicted_304 x5 G_4 hf)
  · skip
    exact zv_tr hg (v_M_predicted_304 (G_4 32 44) G_4 hf)
theorem v_M_predicted_0 {r : Int32} {G1 : zx_G} (x1 x2 x3 : Int32) (G : zx_G) (hf : f_M_predicted x1 x2 x3 G = some (r, G1)) : ∀ q k, q ∉ A_M_predicted → (q, k) ∉ O_M_predicted → G1 q k = G q k := by
  unfold f_M_predicted at hf
  have hg : ∀ q k, q ∉ A_M_predicted → (q, k) ∉ O_M_predicted → G q k = G q k := fun _ _ _ _ => rfl
  rcases zx_if_some hf with ⟨hc_1, hf⟩ | ⟨hc_1, hf⟩
  · skip
    rcases zx_if_some hf with ⟨hc_2, hf⟩ | ⟨hc_2, hf⟩
    · skip
      rcases zx_if_some hf with ⟨hc_3, hf⟩ | ⟨hc_3, hf⟩
      · skip
        rcases zx_if_some hf with ⟨hc_4, hf⟩ | ⟨hc_4, hf⟩
        · skip
          rcases zx_if_some hf with ⟨hc_5, hf⟩ | ⟨hc_5, hf⟩
          · skip
            obtain ⟨hb_6, hf⟩ := zx_gd_some hf
            obtain ⟨hb_7, hf⟩ := zx_gd_some hf
            obtain ⟨x4_8, ex4_8, hf⟩ := zx_lt_some hf
            obtain ⟨hb_9, hf⟩ := zx_gd_some hf
            obtain ⟨x5_10, ex5_10, hf⟩ := zx_lt_some hf
            obtain ⟨hb_11, hf⟩ := zx_gd_some hf
            obtain ⟨r_13, G_12, hq_14, hf⟩ := zx_bd_some hf
            have hg := zv_call hg (v_M_far (G 49 (Int32.toNatClampNeg x2)) x4_8 G hq_14) (by decide) (by decide)
            obtain ⟨r_16, G_15, hq_17, hf⟩ := zx_bd_some hf
            have hg := zv_call hg (v_M_far x5_10 x4_8 G_12 hq_17) (by decide) (by decide)
            rcases zx_if_some hf with ⟨hc_18, hf⟩ | ⟨hc_18, hf⟩
            · skip
              exact zv_tr hg (v_M_predicted_276 x4_8 x5_10 G_15 hf)
            · skip
              obtain ⟨hb_19, hf⟩ := zx_gd_some hf
              obtain ⟨x5_20, ex5_20, hf⟩ := zx_lt_some hf
              exact zv_tr hg (v_M_predicted_276 x4_8 x5_20 G_15 hf)
          · skip
            rcases zx_if_some hf with ⟨hc_21, hf⟩ | ⟨hc_21, hf⟩
            · skip
              exact zv_tr hg (v_M_predicted_179 x2 x3 (3 : Int32) G hf)
            · skip
              exact zv_tr hg (v_M_predicted_179 x2 x3 (x2 + x3) G hf)
        · skip
          obtain ⟨x4_22, ex4_22, hf⟩ := zx_lt_some hf
          obtain ⟨x5_23, ex5_23, hf⟩ := zx_lt_some hf
          obtain ⟨hb_24, hf⟩ := zx_gd_some hf
          obtain ⟨hb_25, hf⟩ := zx_gd_some hf
          obtain ⟨hb_26, hf⟩ := zx_gd_some hf
          obtain ⟨hb_27, hf⟩ := zx_gd_some hf
          exact zv_ret hg hf
      · skip
        obtain ⟨hb_28, hf⟩ := zx_gd_some hf
        exact zv_ret hg hf
    · skip
      obtain ⟨hb_29, hf⟩ := zx_gd_some hf
      exact zv_ret hg hf
  · skip
    obtain ⟨hb_30, hf⟩ := zx_gd_some hf
    obtain ⟨hb_31, hf⟩ := zx_gd_some hf
    obtain ⟨hb_32, hf⟩ := zx_gd_some hf
    obtain ⟨hb_33, hf⟩ := zx_gd_some hf
    obtain ⟨hb_34, hf⟩ := zx_gd_some hf
    obtain ⟨hb_35, hf⟩ := zx_gd_some hf
    obtain ⟨hb_36, hf⟩ := zx_gd_some hf
    obtain ⟨hb_37, hf⟩ := zx_gd_some hf
    exact zv_ret hg hf
theorem v_M_predicted (x1 x2 x3 : Int32) (G : zx_G) {r : Int32} {G1 : zx_G} (hf : f_M_predicted x1 x2 x3 G = some (r, G1)) : ∀ q k, q ∉ A_M_predicted → (q, k) ∉ O_M_predicted → G1 q k = G q k := v_M_predicted_0 x1 x2 x3 G hf
abbrev A_M_nextBit : List Nat := []
abbrev O_M_nextBit : List (Nat × Nat) := [(32, 29)]
theorem v_M_nextBit_51 {r : Int32} {G1 : zx_G} (s0 : Int32) (G : zx_G) (hf : f_M_nextBit_51 s0 G = some (r, G1)) : ∀ q k, q ∉ A_M_nextBit → (q, k) ∉ O_M_nextBit → G1 q k = G q k := by
  unfold f_M_nextBit_51 at hf
  have hg : ∀ q k, q ∉ A_M_nextBit → (q, k) ∉ O_M_nextBit → G q k = G q k := fun _ _ _ _ => rfl
  exact zv_ret hg hf
theorem v_M_nextBit_0 {r : Int32} {G1 : zx_G} (G : zx_G) (hf : f_M_nextBit G = some (r, G1)) : ∀ q k, q ∉ A_M_nextBit → (q, k) ∉ O_M_nextBit → G1 q k = G q k := by
  unfold f_M_nextBit at hf
  have hg : ∀ q k, q ∉ A_M_nextBit → (q, k) ∉ O_M_nextBit → G q k = G q k := fun _ _ _ _ => rfl
  obtain ⟨x1_1, ex1_1, hf⟩ := zx_lt_some hf
  obtain ⟨G_2, eG_2, hf⟩ := zx_lt_some hf
  have hg := zv_uo hg eG_2 (by decide)
  rcases zx_if_some hf with ⟨hc_3, hf⟩ | ⟨hc_3, hf⟩
  · skip
    exact zv_tr hg (v_M_nextBit_51 (0 : Int32) G_2 hf)
  · skip
    obtain ⟨hb_4, hf⟩ := zx_gd_some hf
    obtain ⟨hb_5, hf⟩ := zx_gd_some hf
    obtain ⟨hb_6, hf⟩ := zx_gd_some hf
    exact zv_tr hg (v_M_nextBit_51 (((G_2 39 (Int32.toNatClampNeg (zx_div x1_1 (8 : Int32)))) >>> (((7 : Int32) - (zx_rem x1_1 (8 : Int32))) &&& 31)) &&& (1 : Int32)) G_2 hf)
theorem v_M_nextBit (G : zx_G) {r : Int32} {G1 : zx_G} (hf : f_M_nextBit G = some (r, G1)) : ∀ q k, q ∉ A_M_nextBit → (q, k) ∉ O_M_nextBit → G1 q k = G q k := v_M_nextBit_0 G hf
abbrev A_M_narrow : List Nat := []
abbrev O_M_narrow : List (Nat × Nat) := [(32, 27), (32, 28), (32, 29), (32, 30)]
theorem v_M_narrow_27 {r : Int32} {G1 : zx_G} : ∀ (n : Nat) (G : zx_G), f_M_narrow_27 n G = some (r, G1) → ∀ q k, q ∉ A_M_narrow → (q, k) ∉ O_M_narrow → G1 q k = G q k := by
  intro n
  induction n with
  | zero => intro G hf; cases hf
  | succ n ih =>
    intro G hf
    unfold f_M_narrow_27 at hf
    have hg : ∀ q k, q ∉ A_M_narrow → (q, k) ∉ O_M_narrow → G q k = G q k := fun _ _ _ _ => rfl
    rcases zx_if_some hf with ⟨hc_1, hf⟩ | ⟨hc_1, hf⟩
    · skip
      exact zv_ret hg hf
    · skip
      obtain ⟨G_2, eG_2, hf⟩ := zx_lt_some hf
      have hg := zv_uo hg eG_2 (by decide)
      obtain ⟨r_4, G_3, hq_5, hf⟩ := zx_bd_some hf
      have hg := zv_call hg (v_M_nextBit G_2 hq_5) (by decide) (by decide)
      obtain ⟨G_6, eG_6, hf⟩ := zx_lt_some hf
      have hg := zv_uo hg eG_6 (by decide)
      exact zv_tr hg (ih G_6 hf)
theorem v_M_narrow_0 {r : Int32} {G1 : zx_G} (x1 x2 : Int32) (G : zx_G) (hf : f_M_narrow x1 x2 G = some (r, G1)) : ∀ q k, q ∉ A_M_narrow → (q, k) ∉ O_M_narrow → G1 q k = G q k := by
  unfold f_M_narrow at hf
  have hg : ∀ q k, q ∉ A_M_narrow → (q, k) ∉ O_M_narrow → G q k = G q k := fun _ _ _ _ => rfl
  obtain ⟨G_1, eG_1, hf⟩ := zx_lt_some hf
  have hg := zv_uo hg eG_1 (by decide)
  obtain ⟨G_2, eG_2, hf⟩ := zx_lt_some hf
  have hg := zv_uo hg eG_2 (by decide)
  obtain ⟨G_3, eG_3, hf⟩ := zx_lt_some hf
  have hg := zv_uo hg eG_3 (by decide)
  exact zv_tr hg (v_M_narrow_27 2048 G_3 hf)
theorem v_M_narrow (x1 x2 : Int32) (G : zx_G) {r : Int32} {G1 : zx_G} (hf : f_M_narrow x1 x2 G = some (r, G1)) : ∀ q k, q ∉ A_M_narrow → (q, k) ∉ O_M_narrow → G1 q k = G q k := v_M_narrow_0 x1 x2 G hf
abbrev A_M_bit : List Nat := []
abbrev O_M_bit : List (Nat × Nat) := [(32, 27), (32, 28), (32, 29), (32, 30)]
theorem v_M_bit_55 {r : Int32} {G1 : zx_G} (s0 : Int32) (G : zx_G) (hf : f_M_bit_55 s0 G = some (r, G1)) : ∀ q k, q ∉ A_M_bit → (q, k) ∉ O_M_bit → G1 q k = G q k := by
  unfold f_M_bit_55 at hf
  have hg : ∀ q k, q ∉ A_M_bit → (q, k) ∉ O_M_bit → G q k = G q k := fun _ _ _ _ => rfl
  exact zv_ret hg hf
theorem v_M_bit_43 {r : Int32} {G1 : zx_G} (x2 s1 s2 : Int32) (G : zx_G) (hf : f_M_bit_43 x2 s1 s2 G = some (r, G1)) : ∀ q k, q ∉ A_M_bit → (q, k) ∉ O_M_bit → G1 q k = G q k := by
  unfold f_M_bit_43 at hf
  have hg : ∀ q k, q ∉ A_M_bit → (q, k) ∉ O_M_bit → G q k = G q k := fun _ _ _ _ => rfl
  obtain ⟨r_2, G_1, hq_3, hf⟩ := zx_bd_some hf
  have hg := zv_call hg (v_M_narrow s1 s2 G hq_3) (by decide) (by decide)
  rcases zx_if_some hf with ⟨hc_4, hf⟩ | ⟨hc_4, hf⟩
  · skip
    exact zv_tr hg (v_M_bit_55 (0 : Int32) G_1 hf)
  · skip
    exact zv_tr hg (v_M_bit_55 (1 : Int32) G_1 hf)
theorem v_M_bit_31 {r : Int32} {G1 : zx_G} (x1 x2 s1 : Int32) (G : zx_G) (hf : f_M_bit_31 x1 x2 s1 G = some (r, G1)) : ∀ q k, q ∉ A_M_bit → (q, k) ∉ O_M_bit → G1 q k = G q k := by
  unfold f_M_bit_31 at hf
  have hg : ∀ q k, q ∉ A_M_bit → (q, k) ∉ O_M_bit → G q k = G q k := fun _ _ _ _ => rfl
  rcases zx_if_some hf with ⟨hc_1, hf⟩ | ⟨hc_1, hf⟩
  · skip
    exact zv_tr hg (v_M_bit_43 x2 s1 x1 G hf)
  · skip
    exact zv_tr hg (v_M_bit_43 x2 s1 (G 32 27) G hf)
theorem v_M_bit_20 {r : Int32} {G1 : zx_G} (x1 s0 : Int32) (G : zx_G) (hf : f_M_bit_20 x1 s0 G = some (r, G1)) : ∀ q k, q ∉ A_M_bit → (q, k) ∉ O_M_bit → G1 q k = G q k := by
  unfold f_M_bit_20 at hf
  have hg : ∀ q k, q ∉ A_M_bit → (q, k) ∉ O_M_bit → G q k = G q k := fun _ _ _ _ => rfl
  obtain ⟨x2_1, ex2_1, hf⟩ := zx_lt_some hf
  rcases zx_if_some hf with ⟨hc_2, hf⟩ | ⟨hc_2, hf⟩
  · skip
    exact zv_tr hg (v_M_bit_31 x1 x2_1 (0 : Int32) G hf)
  · skip
    exact zv_tr hg (v_M_bit_31 x1 x2_1 x1 G hf)
theorem v_M_bit_0 {r : Int32} {G1 : zx_G} (G : zx_G) (hf : f_M_bit G = some (r, G1)) : ∀ q k, q ∉ A_M_bit → (q, k) ∉ O_M_bit → G1 q k = G q k := by
  unfold f_M_bit at hf
  have hg : ∀ q k, q ∉ A_M_bit → (q, k) ∉ O_M_bit → G q k = G q k := fun _ _ _ _ => rfl
  obtain ⟨x1_1, ex1_1, hf⟩ := zx_lt_some hf
  rcases zx_if_some hf with ⟨hc_2, hf⟩ | ⟨hc_2, hf⟩
  · skip
    exact zv_tr hg (v_M_bit_20 x1_1 (0 : Int32) G hf)
  · skip
    exact zv_tr hg (v_M_bit_20 x1_1 (1 : Int32) G hf)
theorem v_M_bit (G : zx_G) {r : Int32} {G1 : zx_G} (hf : f_M_bit G = some (r, G1)) : ∀ q k, q ∉ A_M_bit → (q, k) ∉ O_M_bit → G1 q k = G q k := v_M_bit_0 G hf
abbrev A_M_fail : List Nat := []
abbrev O_M_fail : List (Nat × Nat) := [(32, 10)]
theorem v_M_fail_16 {r : Int32} {G1 : zx_G} (s1 : Int32) (G : zx_G) (hf : f_M_fail_16 s1 G = some (r, G1)) : ∀ q k, q ∉ A_M_fail → (q, k) ∉ O_M_fail → G1 q k = G q k := by
  unfold f_M_fail_16 at hf
  have hg : ∀ q k, q ∉ A_M_fail → (q, k) ∉ O_M_fail → G q k = G q k := fun _ _ _ _ => rfl
  obtain ⟨G_1, eG_1, hf⟩ := zx_lt_some hf
  have hg := zv_uo hg eG_1 (by decide)
  exact zv_ret hg hf
theorem v_M_fail_0 {r : Int32} {G1 : zx_G} (x1 : Int32) (G : zx_G) (hf : f_M_fail x1 G = some (r, G1)) : ∀ q k, q ∉ A_M_fail → (q, k) ∉ O_M_fail → G1 q k = G q k := by
  unfold f_M_fail at hf
  have hg : ∀ q k, q ∉ A_M_fail → (q, k) ∉ O_M_fail → G q k = G q k := fun _ _ _ _ => rfl
  rcases zx_if_some hf with ⟨hc_1, hf⟩ | ⟨hc_1, hf⟩
  · skip
    exact zv_tr hg (v_M_fail_16 (G 32 10) G hf)
  · skip
    exact zv_tr hg (v_M_fail_16 x1 G hf)
theorem v_M_fail (x1 : Int32) (G : zx_G) {r : Int32} {G1 : zx_G} (hf : f_M_fail x1 G = some (r, G1)) : ∀ q k, q ∉ A_M_fail → (q, k) ∉ O_M_fail → G1 q k = G q k := v_M_fail_0 x1 G hf
abbrev A_M_more : List Nat := []
abbrev O_M_more : List (Nat × Nat) := [(32, 10), (32, 27), (32, 28), (32, 29), (32, 30)]
theorem v_M_more_39 {r : Int32} {G1 : zx_G} : ∀ (n : Nat) (x1 x2 x3 : Int32) (G : zx_G), f_M_more_39 n x1 x2 x3 G = some (r, G1) → ∀ q k, q ∉ A_M_more → (q, k) ∉ O_M_more → G1 q k = G q k := by
  intro n
  induction n with
  | zero => intro x1 x2 x3 G hf; cases hf
  | succ n ih =>
    intro x1 x2 x3 G hf
    unfold f_M_more_39 at hf
    have hg : ∀ q k, q ∉ A_M_more → (q, k) ∉ O_M_more → G q k = G q k := fun _ _ _ _ => rfl
    rcases zx_if_some hf with ⟨hc_1, hf⟩ | ⟨hc_1, hf⟩
    · skip
      exact zv_ret hg hf
    · skip
      obtain ⟨r_3, G_2, hq_4, hf⟩ := zx_bd_some hf
      have hg := zv_call hg (v_M_bit G hq_4) (by decide) (by decide)
      obtain ⟨x2_5, ex2_5, hf⟩ := zx_lt_some hf
      obtain ⟨x3_6, ex3_6, hf⟩ := zx_lt_some hf
      exact zv_tr hg (ih x1 x2_5 x3_6 G_2 hf)
theorem v_M_more_21 {r : Int32} {G1 : zx_G} (x1 : Int32) (G : zx_G) (hf : f_M_more_21 x1 G = some (r, G1)) : ∀ q k, q ∉ A_M_more → (q, k) ∉ O_M_more → G1 q k = G q k := by
  unfold f_M_more_21 at hf
  have hg : ∀ q k, q ∉ A_M_more → (q, k) ∉ O_M_more → G q k = G q k := fun _ _ _ _ => rfl
  rcases zx_if_some hf with ⟨hc_1, hf⟩ | ⟨hc_1, hf⟩
  · skip
    obtain ⟨x2_2, ex2_2, hf⟩ := zx_lt_some hf
    obtain ⟨x3_3, ex3_3, hf⟩ := zx_lt_some hf
    exact zv_tr hg (v_M_more_39 2048 x1 x2_2 x3_3 G hf)
  · skip
    obtain ⟨r_5, G_4, hq_6, hf⟩ := zx_bd_some hf
    have hg := zv_call hg (v_M_fail (8 : Int32) G hq_6) (by decide) (by decide)
    exact zv_ret hg hf
theorem v_M_more_2 {r : Int32} {G1 : zx_G} : ∀ (n : Nat) (x1 : Int32) (G : zx_G), f_M_more_2 n x1 G = some (r, G1) → ∀ q k, q ∉ A_M_more → (q, k) ∉ O_M_more → G1 q k = G q k := by
  intro n
  induction n with
  | zero => intro x1 G hf; cases hf
  | succ n ih =>
    intro x1 G hf
    unfold f_M_more_2 at hf
    have hg : ∀ q k, q ∉ A_M_more → (q, k) ∉ O_M_more → G q k = G q k := fun _ _ _ _ => rfl
    rcases zx_if_some hf with ⟨hc_1, hf⟩ | ⟨hc_1, hf⟩
    · skip
      exact zv_tr hg (v_M_more_21 x1 G hf)
    · skip
      obtain ⟨r_3, G_2, hq_4, hf⟩ := zx_bd_some hf
      have hg := zv_call hg (v_M_bit G hq_4) (by decide) (by decide)
      rcases zx_if_some hf with ⟨hc_5, hf⟩ | ⟨hc_5, hf⟩
      · skip
        exact zv_tr hg (v_M_more_21 x1 G_2 hf)
      · skip
        obtain ⟨x1_6, ex1_6, hf⟩ := zx_lt_some hf
        exact zv_tr hg (ih x1_6 G_2 hf)
theorem v_M_more_0 {r : Int32} {G1 : zx_G} (G : zx_G) (hf : f_M_more G = some (r, G1)) : ∀ q k, q ∉ A_M_more → (q, k) ∉ O_M_more → G1 q k = G q k := by
  unfold f_M_more at hf
  have hg : ∀ q k, q ∉ A_M_more → (q, k) ∉ O_M_more → G q k = G q k := fun _ _ _ _ => rfl
  obtain ⟨x1_1, ex1_1, hf⟩ := zx_lt_some hf
  exact zv_tr hg (v_M_more_2 2048 x1_1 G hf)
theorem v_M_more (G : zx_G) {r : Int32} {G1 : zx_G} (hf : f_M_more G = some (r, G1)) : ∀ q k, q ∉ A_M_more → (q, k) ∉ O_M_more → G1 q k = G q k := v_M_more_0 G hf
abbrev A_M_symbol : List Nat := [40, 41]
abbrev O_M_symbol : List (Nat × Nat) := [(32, 27), (32, 28), (32, 29), (32, 30)]
theorem v_M_symbol_214 {r : Int32} {G1 : zx_G} {k146 : Int32 → Int32 → Int32 → Int32 → Int32 → zx_G → Option (Int32 × zx_G)} (hk146 : ∀ (x1 x2 x3 x5 x6 : Int32) (G : zx_G), k146 x1 x2 x3 x5 x6 G = some (r, G1) → ∀ q k, q ∉ A_M_symbol → (q, k) ∉ O_M_symbol → G1 q k = G q k) (x1 x2 x3 x5 x6 s1 s2 : Int32) (G : zx_G) (hf : f_M_symbol_214 k146 x1 x2 x3 x5 x6 s1 s2 G = some (r, G1)) : ∀ q k, q ∉ A_M_symbol → (q, k) ∉ O_M_symbol → G1 q k = G q k := by
  unfold f_M_symbol_214 at hf
  have hg : ∀ q k, q ∉ A_M_symbol → (q, k) ∉ O_M_symbol → G q k = G q k := fun _ _ _ _ => rfl
  obtain ⟨hb_1, hf⟩ := zx_gd_some hf
  obtain ⟨G_2, eG_2, hf⟩ := zx_lt_some hf
  have hg := zv_ua hg eG_2 (by decide)
  obtain ⟨x6_3, ex6_3, hf⟩ := zx_lt_some hf
  exact zv_tr hg (hk146 x1 x2 x3 x5 x6_3 G_2 hf)
theorem v_M_symbol_221 {r : Int32} {G1 : zx_G} (x3 : Int32) (G : zx_G) (hf : f_M_symbol_221 x3 G = some (r, G1)) : ∀ q k, q ∉ A_M_symbol → (q, k) ∉ O_M_symbol → G1 q k = G q k := by
  unfold f_M_symbol_221 at hf
  have hg : ∀ q k, q ∉ A_M_symbol → (q, k) ∉ O_M_symbol → G q k = G q k := fun _ _ _ _ => rfl
  exact zv_ret hg hf
theorem v_M_symbol_146 {r : Int32} {G1 : zx_G} : ∀ (n : Nat) (x1 x2 x3 x5 x6 : Int32) (G : zx_G), f_M_symbol_146 n x1 x2 x3 x5 x6 G = some (r, G1) → ∀ q k, q ∉ A_M_symbol → (q, k) ∉ O_M_symbol → G1 q k = G q k := by
  intro n
  induction n with
  | zero => intro x1 x2 x3 x5 x6 G hf; cases hf
  | succ n ih =>
    intro x1 x2 x3 x5 x6 G hf
    unfold f_M_symbol_146 at hf
    have hg : ∀ q k, q ∉ A_M_symbol → (q, k) ∉ O_M_symbol → G q k = G q k := fun _ _ _ _ => rfl
    rcases zx_if_some hf with ⟨hc_1, hf⟩ | ⟨hc_1, hf⟩
    · skip
      exact zv_tr hg (v_M_symbol_221 x3 G hf)
    · skip
      rcases zx_if_some hf with ⟨hc_2, hf⟩ | ⟨hc_2, hf⟩
      · skip
        exact zv_tr hg (v_M_symbol_221 x3 G hf)
      · skip
        obtain ⟨hb_3, hf⟩ := zx_gd_some hf
        obtain ⟨x7_4, ex7_4, hf⟩ := zx_lt_some hf
        rcases zx_if_some hf with ⟨hc_5, hf⟩ | ⟨hc_5, hf⟩
        · skip
          exact zv_tr hg (v_M_symbol_214 ih x1 x2 x3 x5 x6 (((16 : Int32) * x1) + x6) (x7_4 - (x7_4 >>> (x5 &&& 31))) G hf)
        · skip
          exact zv_tr hg (v_M_symbol_214 ih x1 x2 x3 x5 x6 (((16 : Int32) * x1) + x6) (x7_4 + (((32768 : Int32) - x7_4) >>> (x5 &&& 31))) G hf)
theorem v_M_symbol_130 {r : Int32} {G1 : zx_G} (x1 x2 x3 s0 s1 : Int32) (G : zx_G) (hf : f_M_symbol_130 x1 x2 x3 s0 s1 G = some (r, G1)) : ∀ q k, q ∉ A_M_symbol → (q, k) ∉ O_M_symbol → G1 q k = G q k := by
  unfold f_M_symbol_130 at hf
  have hg : ∀ q k, q ∉ A_M_symbol → (q, k) ∉ O_M_symbol → G q k = G q k := fun _ _ _ _ => rfl
  obtain ⟨x5_1, ex5_1, hf⟩ := zx_lt_some hf
  obtain ⟨hb_2, hf⟩ := zx_gd_some hf
  obtain ⟨hb_3, hf⟩ := zx_gd_some hf
  obtain ⟨G_4, eG_4, hf⟩ := zx_lt_some hf
  have hg := zv_ua hg eG_4 (by decide)
  obtain ⟨x6_5, ex6_5, hf⟩ := zx_lt_some hf
  exact zv_tr hg (v_M_symbol_146 2048 x1 x2 x3 x5_1 x6_5 G_4 hf)
theorem v_M_symbol_119 {r : Int32} {G1 : zx_G} (x1 x2 x3 s0 s1 : Int32) (G : zx_G) (hf : f_M_symbol_119 x1 x2 x3 s0 s1 G = some (r, G1)) : ∀ q k, q ∉ A_M_symbol → (q, k) ∉ O_M_symbol → G1 q k = G q k := by
  unfold f_M_symbol_119 at hf
  have hg : ∀ q k, q ∉ A_M_symbol → (q, k) ∉ O_M_symbol → G q k = G q k := fun _ _ _ _ => rfl
  rcases zx_if_some hf with ⟨hc_1, hf⟩ | ⟨hc_1, hf⟩
  · skip
    exact zv_tr hg (v_M_symbol_130 x1 x2 x3 (s0 + s1) (0 : Int32) G hf)
  · skip
    exact zv_tr hg (v_M_symbol_130 x1 x2 x3 (s0 + s1) (1 : Int32) G hf)
theorem v_M_symbol_75 {r : Int32} {G1 : zx_G} (x1 x2 x3 s0 : Int32) (G : zx_G) (hf : f_M_symbol_75 x1 x2 x3 s0 G = some (r, G1)) : ∀ q k, q ∉ A_M_symbol → (q, k) ∉ O_M_symbol → G1 q k = G q k := by
  unfold f_M_symbol_75 at hf
  have hg : ∀ q k, q ∉ A_M_symbol → (q, k) ∉ O_M_symbol → G q k = G q k := fun _ _ _ _ => rfl
  obtain ⟨x4_1, ex4_1, hf⟩ := zx_lt_some hf
  obtain ⟨hb_2, hf⟩ := zx_gd_some hf
  obtain ⟨r_4, G_3, hq_5, hf⟩ := zx_bd_some hf
  have hg := zv_call hg (v_M_narrow x4_1 (((G 32 27) * (G 40 (Int32.toNatClampNeg (((16 : Int32) * x1) + x3)))) >>> ((15 : Int32) &&& 31)) G hq_5) (by decide) (by decide)
  obtain ⟨hb_6, hf⟩ := zx_gd_some hf
  rcases zx_if_some hf with ⟨hc_7, hf⟩ | ⟨hc_7, hf⟩
  · skip
    exact zv_tr hg (v_M_symbol_119 x1 x2 x3 (4 : Int32) (0 : Int32) G_3 hf)
  · skip
    exact zv_tr hg (v_M_symbol_119 x1 x2 x3 (4 : Int32) (1 : Int32) G_3 hf)
theorem v_M_symbol_46 {r : Int32} {G1 : zx_G} (x1 x2 x3 : Int32) (G : zx_G) (hf : f_M_symbol_46 x1 x2 x3 G = some (r, G1)) : ∀ q k, q ∉ A_M_symbol → (q, k) ∉ O_M_symbol → G1 q k = G q k := by
  unfold f_M_symbol_46 at hf
  have hg : ∀ q k, q ∉ A_M_symbol → (q, k) ∉ O_M_symbol → G q k = G q k := fun _ _ _ _ => rfl
  rcases zx_if_some hf with ⟨hc_1, hf⟩ | ⟨hc_1, hf⟩
  · skip
    obtain ⟨hb_2, hf⟩ := zx_gd_some hf
    exact zv_tr hg (v_M_symbol_75 x1 x2 x3 (((G 32 27) * (G 40 (Int32.toNatClampNeg ((((16 : Int32) * x1) + x3) - (1 : Int32))))) >>> ((15 : Int32) &&& 31)) G hf)
  · skip
    exact zv_tr hg (v_M_symbol_75 x1 x2 x3 (0 : Int32) G hf)
theorem v_M_symbol_7 {r : Int32} {G1 : zx_G} : ∀ (n : Nat) (x1 x2 x3 : Int32) (G : zx_G), f_M_symbol_7 n x1 x2 x3 G = some (r, G1) → ∀ q k, q ∉ A_M_symbol → (q, k) ∉ O_M_symbol → G1 q k = G q k := by
  intro n
  induction n with
  | zero => intro x1 x2 x3 G hf; cases hf
  | succ n ih =>
    intro x1 x2 x3 G hf
    unfold f_M_symbol_7 at hf
    have hg : ∀ q k, q ∉ A_M_symbol → (q, k) ∉ O_M_symbol → G q k = G q k := fun _ _ _ _ => rfl
    rcases zx_if_some hf with ⟨hc_1, hf⟩ | ⟨hc_1, hf⟩
    · skip
      exact zv_tr hg (v_M_symbol_46 x1 x2 x3 G hf)
    · skip
      obtain ⟨hb_2, hf⟩ := zx_gd_some hf
      rcases zx_if_some hf with ⟨hc_3, hf⟩ | ⟨hc_3, hf⟩
      · skip
        exact zv_tr hg (v_M_symbol_46 x1 x2 x3 G hf)
      · skip
        obtain ⟨x3_4, ex3_4, hf⟩ := zx_lt_some hf
        exact zv_tr hg (ih x1 x2 x3_4 G hf)
theorem v_M_symbol_0 {r : Int32} {G1 : zx_G} (x1 : Int32) (G : zx_G) (hf : f_M_symbol x1 G = some (r, G1)) : ∀ q k, q ∉ A_M_symbol → (q, k) ∉ O_M_symbol → G1 q k = G q k := by
  unfold f_M_symbol at hf
  have hg : ∀ q k, q ∉ A_M_symbol → (q, k) ∉ O_M_symbol → G q k = G q k := fun _ _ _ _ => rfl
  obtain ⟨r_2, G_1, hq_3, hf⟩ := zx_bd_some hf
  have hg := zv_call hg (v_M_tableSize x1 G hq_3) (by decide) (by decide)
  obtain ⟨x2_4, ex2_4, hf⟩ := zx_lt_some hf
  obtain ⟨x3_5, ex3_5, hf⟩ := zx_lt_some hf
  exact zv_tr hg (v_M_symbol_7 2048 x1 x2_4 x3_5 G_1 hf)
theorem v_M_symbol (x1 : Int32) (G : zx_G) {r : Int32} {G1 : zx_G} (hf : f_M_symbol x1 G = some (r, G1)) : ∀ q k, q ∉ A_M_symbol → (q, k) ∉ O_M_symbol → G1 q k = G q k := v_M_symbol_0 x1 G hf
abbrev A_M_turn : List Nat := [47, 48]
abbrev O_M_turn : List (Nat × Nat) := []
theorem v_M_turn_260 {r : Int32} {G1 : zx_G} {k36 : Int32 → Int32 → Int32 → Int32 → Int32 → zx_G → Option (Int32 × zx_G)} (hk36 : ∀ (x1 x2 x3 x4 x5 : Int32) (G : zx_G), k36 x1 x2 x3 x4 x5 G = some (r, G1) → ∀ q k, q ∉ A_M_turn → (q, k) ∉ O_M_turn → G1 q k = G q k) (x1 x2 x3 x4 x5 s1 s2 : Int32) (G : zx_G) (hf : f_M_turn_260 k36 x1 x2 x3 x4 x5 s1 s2 G = some (r, G1)) : ∀ q k, q ∉ A_M_turn → (q, k) ∉ O_M_turn → G1 q k = G q k := by
  unfold f_M_turn_260 at hf
  have hg : ∀ q k, q ∉ A_M_turn → (q, k) ∉ O_M_turn → G q k = G q k := fun _ _ _ _ => rfl
  obtain ⟨hb_1, hf⟩ := zx_gd_some hf
  obtain ⟨G_2, eG_2, hf⟩ := zx_lt_some hf
  have hg := zv_ua hg eG_2 (by decide)
  obtain ⟨x5_3, ex5_3, hf⟩ := zx_lt_some hf
  exact zv_tr hg (hk36 x1 x2 x3 x4 x5_3 G_2 hf)
theorem v_M_turn_219 {r : Int32} {G1 : zx_G} {k36 : Int32 → Int32 → Int32 → Int32 → Int32 → zx_G → Option (Int32 × zx_G)} (hk36 : ∀ (x1 x2 x3 x4 x5 : Int32) (G : zx_G), k36 x1 x2 x3 x4 x5 G = some (r, G1) → ∀ q k, q ∉ A_M_turn → (q, k) ∉ O_M_turn → G1 q k = G q k) (x1 x2 x3 x4 x5 x6 x7 x8 s0 : Int32) (G : zx_G) (hf : f_M_turn_219 k36 x1 x2 x3 x4 x5 x6 x7 x8 s0 G = some (r, G1)) : ∀ q k, q ∉ A_M_turn → (q, k) ∉ O_M_turn → G1 q k = G q k := by
  unfold f_M_turn_219 at hf
  have hg : ∀ q k, q ∉ A_M_turn → (q, k) ∉ O_M_turn → G q k = G q k := fun _ _ _ _ => rfl
  obtain ⟨x9_1, ex9_1, hf⟩ := zx_lt_some hf
  rcases zx_if_some hf with ⟨hc_2, hf⟩ | ⟨hc_2, hf⟩
  · skip
    obtain ⟨r_4, G_3, hq_5, hf⟩ := zx_bd_some hf
    have hg := zv_call hg (v_M_limited x6 x4 G hq_5) (by decide) (by decide)
    exact zv_tr hg (v_M_turn_260 hk36 x1 x2 x3 x4 x5 (x1 + (x5 * x2)) r_4 G_3 hf)
  · skip
    obtain ⟨hb_6, hf⟩ := zx_gd_some hf
    exact zv_tr hg (v_M_turn_260 hk36 x1 x2 x3 x4 x5 (x1 + (x5 * x2)) ((((G 48 (Int32.toNatClampNeg (0 : Int32))) + x7) + x8) + x9_1) G hf)
theorem v_M_turn_194 {r : Int32} {G1 : zx_G} {k36 : Int32 → Int32 → Int32 → Int32 → Int32 → zx_G → Option (Int32 × zx_G)} (hk36 : ∀ (x1 x2 x3 x4 x5 : Int32) (G : zx_G), k36 x1 x2 x3 x4 x5 G = some (r, G1) → ∀ q k, q ∉ A_M_turn → (q, k) ∉ O_M_turn → G1 q k = G q k) (x1 x2 x3 x4 x5 x6 x7 s0 : Int32) (G : zx_G) (hf : f_M_turn_194 k36 x1 x2 x3 x4 x5 x6 x7 s0 G = some (r, G1)) : ∀ q k, q ∉ A_M_turn → (q, k) ∉ O_M_turn → G1 q k = G q k := by
  unfold f_M_turn_194 at hf
  have hg : ∀ q k, q ∉ A_M_turn → (q, k) ∉ O_M_turn → G q k = G q k := fun _ _ _ _ => rfl
  obtain ⟨x8_1, ex8_1, hf⟩ := zx_lt_some hf
  obtain ⟨hb_2, hf⟩ := zx_gd_some hf
  rcases zx_if_some hf with ⟨hc_3, hf⟩ | ⟨hc_3, hf⟩
  · skip
    obtain ⟨hb_4, hf⟩ := zx_gd_some hf
    exact zv_tr hg (v_M_turn_219 hk36 x1 x2 x3 x4 x5 x6 x7 x8_1 (-(G 48 (Int32.toNatClampNeg (3 : Int32)))) G hf)
  · skip
    obtain ⟨hb_5, hf⟩ := zx_gd_some hf
    exact zv_tr hg (v_M_turn_219 hk36 x1 x2 x3 x4 x5 x6 x7 x8_1 (G 48 (Int32.toNatClampNeg (3 : Int32))) G hf)
theorem v_M_turn_178 {r : Int32} {G1 : zx_G} {k36 : Int32 → Int32 → Int32 → Int32 → Int32 → zx_G → Option (Int32 × zx_G)} (hk36 : ∀ (x1 x2 x3 x4 x5 : Int32) (G : zx_G), k36 x1 x2 x3 x4 x5 G = some (r, G1) → ∀ q k, q ∉ A_M_turn → (q, k) ∉ O_M_turn → G1 q k = G q k) (x1 x2 x3 x4 x5 x6 x7 : Int32) (G : zx_G) (hf : f_M_turn_178 k36 x1 x2 x3 x4 x5 x6 x7 G = some (r, G1)) : ∀ q k, q ∉ A_M_turn → (q, k) ∉ O_M_turn → G1 q k = G q k := by
  unfold f_M_turn_178 at hf
  have hg : ∀ q k, q ∉ A_M_turn → (q, k) ∉ O_M_turn → G q k = G q k := fun _ _ _ _ => rfl
  obtain ⟨hb_1, hf⟩ := zx_gd_some hf
  exact zv_tr hg (v_M_turn_194 hk36 x1 x2 x3 x4 x5 x6 x7 (G 48 (Int32.toNatClampNeg (2 : Int32))) G hf)
theorem v_M_turn_165 {r : Int32} {G1 : zx_G} {k36 : Int32 → Int32 → Int32 → Int32 → Int32 → zx_G → Option (Int32 × zx_G)} (hk36 : ∀ (x1 x2 x3 x4 x5 : Int32) (G : zx_G), k36 x1 x2 x3 x4 x5 G = some (r, G1) → ∀ q k, q ∉ A_M_turn → (q, k) ∉ O_M_turn → G1 q k = G q k) (x1 x2 x3 x4 x5 x6 s0 : Int32) (G : zx_G) (hf : f_M_turn_165 k36 x1 x2 x3 x4 x5 x6 s0 G = some (r, G1)) : ∀ q k, q ∉ A_M_turn → (q, k) ∉ O_M_turn → G1 q k = G q k := by
  unfold f_M_turn_165 at hf
  have hg : ∀ q k, q ∉ A_M_turn → (q, k) ∉ O_M_turn → G q k = G q k := fun _ _ _ _ => rfl
  obtain ⟨x7_1, ex7_1, hf⟩ := zx_lt_some hf
  rcases zx_if_some hf with ⟨hc_2, hf⟩ | ⟨hc_2, hf⟩
  · skip
    exact zv_tr hg (v_M_turn_178 hk36 x1 x2 x3 x4 x5 x6 x7_1 G hf)
  · skip
    rcases zx_if_some hf with ⟨hc_3, hf⟩ | ⟨hc_3, hf⟩
    · skip
      obtain ⟨hb_4, hf⟩ := zx_gd_some hf
      exact zv_tr hg (v_M_turn_194 hk36 x1 x2 x3 x4 x5 x6 x7_1 (-(G 48 (Int32.toNatClampNeg (2 : Int32)))) G hf)
    · skip
      exact zv_tr hg (v_M_turn_178 hk36 x1 x2 x3 x4 x5 x6 x7_1 G hf)
theorem v_M_turn_134 {r : Int32} {G1 : zx_G} {k36 : Int32 → Int32 → Int32 → Int32 → Int32 → zx_G → Option (Int32 × zx_G)} (hk36 : ∀ (x1 x2 x3 x4 x5 : Int32) (G : zx_G), k36 x1 x2 x3 x4 x5 G = some (r, G1) → ∀ q k, q ∉ A_M_turn → (q, k) ∉ O_M_turn → G1 q k = G q k) (x1 x2 x3 x4 x5 s0 : Int32) (G : zx_G) (hf : f_M_turn_134 k36 x1 x2 x3 x4 x5 s0 G = some (r, G1)) : ∀ q k, q ∉ A_M_turn → (q, k) ∉ O_M_turn → G1 q k = G q k := by
  unfold f_M_turn_134 at hf
  have hg : ∀ q k, q ∉ A_M_turn → (q, k) ∉ O_M_turn → G q k = G q k := fun _ _ _ _ => rfl
  obtain ⟨x6_1, ex6_1, hf⟩ := zx_lt_some hf
  rcases zx_if_some hf with ⟨hc_2, hf⟩ | ⟨hc_2, hf⟩
  · skip
    obtain ⟨hb_3, hf⟩ := zx_gd_some hf
    exact zv_tr hg (v_M_turn_165 hk36 x1 x2 x3 x4 x5 x6_1 (-(G 48 (Int32.toNatClampNeg (1 : Int32)))) G hf)
  · skip
    obtain ⟨hb_4, hf⟩ := zx_gd_some hf
    exact zv_tr hg (v_M_turn_165 hk36 x1 x2 x3 x4 x5 x6_1 (G 48 (Int32.toNatClampNeg (1 : Int32))) G hf)
theorem v_M_turn_36 {r : Int32} {G1 : zx_G} : ∀ (n : Nat) (x1 x2 x3 x4 x5 : Int32) (G : zx_G), f_M_turn_36 n x1 x2 x3 x4 x5 G = some (r, G1) → ∀ q k, q ∉ A_M_turn → (q, k) ∉ O_M_turn → G1 q k = G q k := by
  intro n
  induction n with
  | zero => intro x1 x2 x3 x4 x5 G hf; cases hf
  | succ n ih =>
    intro x1 x2 x3 x4 x5 G hf
    unfold f_M_turn_36 at hf
    have hg : ∀ q k, q ∉ A_M_turn → (q, k) ∉ O_M_turn → G q k = G q k := fun _ _ _ _ => rfl
    rcases zx_if_some hf with ⟨hc_1, hf⟩ | ⟨hc_1, hf⟩
    · skip
      exact zv_ret hg hf
    · skip
      rcases zx_if_some hf with ⟨hc_2, hf⟩ | ⟨hc_2, hf⟩
      · skip
        obtain ⟨hb_3, hf⟩ := zx_gd_some hf
        obtain ⟨hb_4, hf⟩ := zx_gd_some hf
        obtain ⟨hb_5, hf⟩ := zx_gd_some hf
        obtain ⟨hb_6, hf⟩ := zx_gd_some hf
        obtain ⟨hb_7, hf⟩ := zx_gd_some hf
        obtain ⟨hb_8, hf⟩ := zx_gd_some hf
        obtain ⟨hb_9, hf⟩ := zx_gd_some hf
        obtain ⟨hb_10, hf⟩ := zx_gd_some hf
        exact zv_tr hg (v_M_turn_134 ih x1 x2 x3 x4 x5 (((((G 52 (Int32.toNatClampNeg ((4 : Int32) * x5))) * (G 48 (Int32.toNatClampNeg (0 : Int32)))) + ((G 52 (Int32.toNatClampNeg (((4 : Int32) * x5) + (1 : Int32)))) * (G 48 (Int32.toNatClampNeg (1 : Int32))))) + ((G 52 (Int32.toNatClampNeg (((4 : Int32) * x5) + (2 : Int32)))) * (G 48 (Int32.toNatClampNeg (2 : Int32))))) + ((G 52 (Int32.toNatClampNeg (((4 : Int32) * x5) + (3 : Int32)))) * (G 48 (Int32.toNatClampNeg (3 : Int32))))) G hf)
      · skip
        obtain ⟨hb_11, hf⟩ := zx_gd_some hf
        exact zv_tr hg (v_M_turn_134 ih x1 x2 x3 x4 x5 ((5793 : Int32) * (G 48 (Int32.toNatClampNeg x5))) G hf)
theorem v_M_turn_3 {r : Int32} {G1 : zx_G} : ∀ (n : Nat) (x1 x2 x3 x4 x5 : Int32) (G : zx_G), f_M_turn_3 n x1 x2 x3 x4 x5 G = some (r, G1) → ∀ q k, q ∉ A_M_turn → (q, k) ∉ O_M_turn → G1 q k = G q k := by
  intro n
  induction n with
  | zero => intro x1 x2 x3 x4 x5 G hf; cases hf
  | succ n ih =>
    intro x1 x2 x3 x4 x5 G hf
    unfold f_M_turn_3 at hf
    have hg : ∀ q k, q ∉ A_M_turn → (q, k) ∉ O_M_turn → G q k = G q k := fun _ _ _ _ => rfl
    rcases zx_if_some hf with ⟨hc_1, hf⟩ | ⟨hc_1, hf⟩
    · skip
      obtain ⟨x5_2, ex5_2, hf⟩ := zx_lt_some hf
      exact zv_tr hg (v_M_turn_36 2048 x1 x2 x3 x4 x5_2 G hf)
    · skip
      obtain ⟨hb_3, hf⟩ := zx_gd_some hf
      obtain ⟨hb_4, hf⟩ := zx_gd_some hf
      obtain ⟨G_5, eG_5, hf⟩ := zx_lt_some hf
      have hg := zv_ua hg eG_5 (by decide)
      obtain ⟨x5_6, ex5_6, hf⟩ := zx_lt_some hf
      exact zv_tr hg (ih x1 x2 x3 x4 x5_6 G_5 hf)
theorem v_M_turn_0 {r : Int32} {G1 : zx_G} (x1 x2 x3 x4 : Int32) (G : zx_G) (hf : f_M_turn x1 x2 x3 x4 G = some (r, G1)) : ∀ q k, q ∉ A_M_turn → (q, k) ∉ O_M_turn → G1 q k = G q k := by
  unfold f_M_turn at hf
  have hg : ∀ q k, q ∉ A_M_turn → (q, k) ∉ O_M_turn → G q k = G q k := fun _ _ _ _ => rfl
  obtain ⟨x5_1, ex5_1, hf⟩ := zx_lt_some hf
  exact zv_tr hg (v_M_turn_3 2048 x1 x2 x3 x4 x5_1 G hf)
theorem v_M_turn (x1 x2 x3 x4 : Int32) (G : zx_G) {r : Int32} {G1 : zx_G} (hf : f_M_turn x1 x2 x3 x4 G = some (r, G1)) : ∀ q k, q ∉ A_M_turn → (q, k) ∉ O_M_turn → G1 q k = G q k := v_M_turn_0 x1 x2 x3 x4 G hf
abbrev A_M_differences : List Nat := [40, 41, 47, 48]
abbrev O_M_differences : List (Nat × Nat) := [(32, 10), (32, 27), (32, 28), (32, 29), (32, 30)]
theorem v_M_differences_168 {r : Int32} {G1 : zx_G} {k59 : Int32 → Int32 → Int32 → zx_G → Option (Int32 × zx_G)} (hk59 : ∀ (x1 x2 x3 : Int32) (G : zx_G), k59 x1 x2 x3 G = some (r, G1) → ∀ q k, q ∉ A_M_differences → (q, k) ∉ O_M_differences → G1 q k = G q k) (x1 x2 x3 s1 s2 : Int32) (G : zx_G) (hf : f_M_differences_168 k59 x1 x2 x3 s1 s2 G = some (r, G1)) : ∀ q k, q ∉ A_M_differences → (q, k) ∉ O_M_differences → G1 q k = G q k := by
  unfold f_M_differences_168 at hf
  have hg : ∀ q k, q ∉ A_M_differences → (q, k) ∉ O_M_differences → G q k = G q k := fun _ _ _ _ => rfl
  obtain ⟨hb_1, hf⟩ := zx_gd_some hf
  obtain ⟨G_2, eG_2, hf⟩ := zx_lt_some hf
  have hg := zv_ua hg eG_2 (by decide)
  obtain ⟨x3_3, ex3_3, hf⟩ := zx_lt_some hf
  exact zv_tr hg (hk59 x1 x2 x3_3 G_2 hf)
theorem v_M_differences_166 {r : Int32} {G1 : zx_G} {k59 : Int32 → Int32 → Int32 → zx_G → Option (Int32 × zx_G)} (hk59 : ∀ (x1 x2 x3 : Int32) (G : zx_G), k59 x1 x2 x3 G = some (r, G1) → ∀ q k, q ∉ A_M_differences → (q, k) ∉ O_M_differences → G1 q k = G q k) (x1 x2 x3 x5 s1 : Int32) (G : zx_G) (hf : f_M_differences_166 k59 x1 x2 x3 x5 s1 G = some (r, G1)) : ∀ q k, q ∉ A_M_differences → (q, k) ∉ O_M_differences → G1 q k = G q k := by
  unfold f_M_differences_166 at hf
  have hg : ∀ q k, q ∉ A_M_differences → (q, k) ∉ O_M_differences → G q k = G q k := fun _ _ _ _ => rfl
  exact zv_tr hg (v_M_differences_168 hk59 x1 x2 x3 s1 x5 G hf)
theorem v_M_differences_134 {r : Int32} {G1 : zx_G} {k59 : Int32 → Int32 → Int32 → zx_G → Option (Int32 × zx_G)} (hk59 : ∀ (x1 x2 x3 : Int32) (G : zx_G), k59 x1 x2 x3 G = some (r, G1) → ∀ q k, q ∉ A_M_differences → (q, k) ∉ O_M_differences → G1 q k = G q k) (x1 x2 x3 s0 s1 : Int32) (G : zx_G) (hf : f_M_differences_134 k59 x1 x2 x3 s0 s1 G = some (r, G1)) : ∀ q k, q ∉ A_M_differences → (q, k) ∉ O_M_differences → G1 q k = G q k := by
  unfold f_M_differences_134 at hf
  have hg : ∀ q k, q ∉ A_M_differences → (q, k) ∉ O_M_differences → G q k = G q k := fun _ _ _ _ => rfl
  obtain ⟨x5_1, ex5_1, hf⟩ := zx_lt_some hf
  obtain ⟨hb_2, hf⟩ := zx_gd_some hf
  rcases zx_if_some hf with ⟨hc_3, hf⟩ | ⟨hc_3, hf⟩
  · skip
    exact zv_tr hg (v_M_differences_166 hk59 x1 x2 x3 x5_1 (G 51 (Int32.toNatClampNeg x3)) G hf)
  · skip
    obtain ⟨r_5, G_4, hq_6, hf⟩ := zx_bd_some hf
    have hg := zv_call hg (v_M_bit G hq_6) (by decide) (by decide)
    rcases zx_if_some hf with ⟨hc_7, hf⟩ | ⟨hc_7, hf⟩
    · skip
      exact zv_tr hg (v_M_differences_166 hk59 x1 x2 x3 x5_1 (G 51 (Int32.toNatClampNeg x3)) G_4 hf)
    · skip
      exact zv_tr hg (v_M_differences_168 hk59 x1 x2 x3 (G 51 (Int32.toNatClampNeg x3)) (-x5_1) G_4 hf)
theorem v_M_differences_120 {r : Int32} {G1 : zx_G} {k59 : Int32 → Int32 → Int32 → zx_G → Option (Int32 × zx_G)} (hk59 : ∀ (x1 x2 x3 : Int32) (G : zx_G), k59 x1 x2 x3 G = some (r, G1) → ∀ q k, q ∉ A_M_differences → (q, k) ∉ O_M_differences → G1 q k = G q k) (x1 x2 x3 x4 s0 : Int32) (G : zx_G) (hf : f_M_differences_120 k59 x1 x2 x3 x4 s0 G = some (r, G1)) : ∀ q k, q ∉ A_M_differences → (q, k) ∉ O_M_differences → G1 q k = G q k := by
  unfold f_M_differences_120 at hf
  have hg : ∀ q k, q ∉ A_M_differences → (q, k) ∉ O_M_differences → G q k = G q k := fun _ _ _ _ => rfl
  rcases zx_if_some hf with ⟨hc_1, hf⟩ | ⟨hc_1, hf⟩
  · skip
    exact zv_tr hg (v_M_differences_134 hk59 x1 x2 x3 s0 (0 : Int32) G hf)
  · skip
    obtain ⟨r_3, G_2, hq_4, hf⟩ := zx_bd_some hf
    have hg := zv_call hg (v_M_more G hq_4) (by decide) (by decide)
    exact zv_tr hg (v_M_differences_134 hk59 x1 x2 x3 s0 r_3 G_2 hf)
theorem v_M_differences_100 {r : Int32} {G1 : zx_G} {k59 : Int32 → Int32 → Int32 → zx_G → Option (Int32 × zx_G)} (hk59 : ∀ (x1 x2 x3 : Int32) (G : zx_G), k59 x1 x2 x3 G = some (r, G1) → ∀ q k, q ∉ A_M_differences → (q, k) ∉ O_M_differences → G1 q k = G q k) (x1 x2 x3 s1 s2 : Int32) (G : zx_G) (hf : f_M_differences_100 k59 x1 x2 x3 s1 s2 G = some (r, G1)) : ∀ q k, q ∉ A_M_differences → (q, k) ∉ O_M_differences → G1 q k = G q k := by
  unfold f_M_differences_100 at hf
  have hg : ∀ q k, q ∉ A_M_differences → (q, k) ∉ O_M_differences → G q k = G q k := fun _ _ _ _ => rfl
  obtain ⟨r_2, G_1, hq_3, hf⟩ := zx_bd_some hf
  have hg := zv_call hg (v_M_symbol (s1 + s2) G hq_3) (by decide) (by decide)
  obtain ⟨x4_4, ex4_4, hf⟩ := zx_lt_some hf
  rcases zx_if_some hf with ⟨hc_5, hf⟩ | ⟨hc_5, hf⟩
  · skip
    exact zv_tr hg (v_M_differences_120 hk59 x1 x2 x3 x4_4 x4_4 G_1 hf)
  · skip
    exact zv_tr hg (v_M_differences_120 hk59 x1 x2 x3 x4_4 (x4_4 + (1 : Int32)) G_1 hf)
theorem v_M_differences_82 {r : Int32} {G1 : zx_G} {k59 : Int32 → Int32 → Int32 → zx_G → Option (Int32 × zx_G)} (hk59 : ∀ (x1 x2 x3 : Int32) (G : zx_G), k59 x1 x2 x3 G = some (r, G1) → ∀ q k, q ∉ A_M_differences → (q, k) ∉ O_M_differences → G1 q k = G q k) (x1 x2 x3 s1 : Int32) (G : zx_G) (hf : f_M_differences_82 k59 x1 x2 x3 s1 G = some (r, G1)) : ∀ q k, q ∉ A_M_differences → (q, k) ∉ O_M_differences → G1 q k = G q k := by
  unfold f_M_differences_82 at hf
  have hg : ∀ q k, q ∉ A_M_differences → (q, k) ∉ O_M_differences → G q k = G q k := fun _ _ _ _ => rfl
  rcases zx_if_some hf with ⟨hc_1, hf⟩ | ⟨hc_1, hf⟩
  · skip
    rcases zx_if_some hf with ⟨hc_2, hf⟩ | ⟨hc_2, hf⟩
    · skip
      exact zv_tr hg (v_M_differences_100 hk59 x1 x2 x3 s1 (2 : Int32) G hf)
    · skip
      exact zv_tr hg (v_M_differences_100 hk59 x1 x2 x3 s1 (1 : Int32) G hf)
  · skip
    exact zv_tr hg (v_M_differences_100 hk59 x1 x2 x3 s1 (0 : Int32) G hf)
theorem v_M_differences_243 {r : Int32} {G1 : zx_G} {k192 : Int32 → Int32 → zx_G → Option (Int32 × zx_G)} (hk192 : ∀ (x3 x4 : Int32) (G : zx_G), k192 x3 x4 G = some (r, G1) → ∀ q k, q ∉ A_M_differences → (q, k) ∉ O_M_differences → G1 q k = G q k) (x3 x4 s1 s2 s3 : Int32) (G : zx_G) (hf : f_M_differences_243 k192 x3 x4 s1 s2 s3 G = some (r, G1)) : ∀ q k, q ∉ A_M_differences → (q, k) ∉ O_M_differences → G1 q k = G q k := by
  unfold f_M_differences_243 at hf
  have hg : ∀ q k, q ∉ A_M_differences → (q, k) ∉ O_M_differences → G q k = G q k := fun _ _ _ _ => rfl
  obtain ⟨r_2, G_1, hq_3, hf⟩ := zx_bd_some hf
  have hg := zv_call hg (v_M_limited (s2 * s3) (32767 : Int32) G hq_3) (by decide) (by decide)
  obtain ⟨hb_4, hf⟩ := zx_gd_some hf
  obtain ⟨G_5, eG_5, hf⟩ := zx_lt_some hf
  have hg := zv_ua hg eG_5 (by decide)
  obtain ⟨x4_6, ex4_6, hf⟩ := zx_lt_some hf
  exact zv_tr hg (hk192 x3 x4_6 G_5 hf)
theorem v_M_differences_295 {r : Int32} {G1 : zx_G} {k260 : Int32 → Int32 → zx_G → Option (Int32 × zx_G)} (hk260 : ∀ (x3 x4 : Int32) (G : zx_G), k260 x3 x4 G = some (r, G1) → ∀ q k, q ∉ A_M_differences → (q, k) ∉ O_M_differences → G1 q k = G q k) (x3 x4 s1 s2 s3 : Int32) (G : zx_G) (hf : f_M_differences_295 k260 x3 x4 s1 s2 s3 G = some (r, G1)) : ∀ q k, q ∉ A_M_differences → (q, k) ∉ O_M_differences → G1 q k = G q k := by
  unfold f_M_differences_295 at hf
  have hg : ∀ q k, q ∉ A_M_differences → (q, k) ∉ O_M_differences → G q k = G q k := fun _ _ _ _ => rfl
  obtain ⟨r_2, G_1, hq_3, hf⟩ := zx_bd_some hf
  have hg := zv_call hg (v_M_turn s1 s2 s3 (32767 : Int32) G hq_3) (by decide) (by decide)
  obtain ⟨x4_4, ex4_4, hf⟩ := zx_lt_some hf
  exact zv_tr hg (hk260 x3 x4_4 G_1 hf)
theorem v_M_differences_343 {r : Int32} {G1 : zx_G} {k310 : Int32 → Int32 → zx_G → Option (Int32 × zx_G)} (hk310 : ∀ (x3 x4 : Int32) (G : zx_G), k310 x3 x4 G = some (r, G1) → ∀ q k, q ∉ A_M_differences → (q, k) ∉ O_M_differences → G1 q k = G q k) (x3 x4 s1 s2 s3 : Int32) (G : zx_G) (hf : f_M_differences_343 k310 x3 x4 s1 s2 s3 G = some (r, G1)) : ∀ q k, q ∉ A_M_differences → (q, k) ∉ O_M_differences → G1 q k = G q k := by
  unfold f_M_differences_343 at hf
  have hg : ∀ q k, q ∉ A_M_differences → (q, k) ∉ O_M_differences → G q k = G q k := fun _ _ _ _ => rfl
  obtain ⟨r_2, G_1, hq_3, hf⟩ := zx_bd_some hf
  have hg := zv_call hg (v_M_turn s1 s2 s3 (2000000000 : Int32) G hq_3) (by decide) (by decide)
  obtain ⟨x4_4, ex4_4, hf⟩ := zx_lt_some hf
  exact zv_tr hg (hk310 x3 x4_4 G_1 hf)
theorem v_M_differences_402 {r : Int32} {G1 : zx_G} {k358 : Int32 → zx_G → Option (Int32 × zx_G)} (hk358 : ∀ (x4 : Int32) (G : zx_G), k358 x4 G = some (r, G1) → ∀ q k, q ∉ A_M_differences → (q, k) ∉ O_M_differences → G1 q k = G q k) (x4 s1 s2 : Int32) (G : zx_G) (hf : f_M_differences_402 k358 x4 s1 s2 G = some (r, G1)) : ∀ q k, q ∉ A_M_differences → (q, k) ∉ O_M_differences → G1 q k = G q k := by
  unfold f_M_differences_402 at hf
  have hg : ∀ q k, q ∉ A_M_differences → (q, k) ∉ O_M_differences → G q k = G q k := fun _ _ _ _ => rfl
  obtain ⟨hb_1, hf⟩ := zx_gd_some hf
  obtain ⟨G_2, eG_2, hf⟩ := zx_lt_some hf
  have hg := zv_ua hg eG_2 (by decide)
  obtain ⟨x4_3, ex4_3, hf⟩ := zx_lt_some hf
  exact zv_tr hg (hk358 x4_3 G_2 hf)
theorem v_M_differences_358 {r : Int32} {G1 : zx_G} : ∀ (n : Nat) (x4 : Int32) (G : zx_G), f_M_differences_358 n x4 G = some (r, G1) → ∀ q k, q ∉ A_M_differences → (q, k) ∉ O_M_differences → G1 q k = G q k := by
  intro n
  induction n with
  | zero => intro x4 G hf; cases hf
  | succ n ih =>
    intro x4 G hf
    unfold f_M_differences_358 at hf
    have hg : ∀ q k, q ∉ A_M_differences → (q, k) ∉ O_M_differences → G q k = G q k := fun _ _ _ _ => rfl
    rcases zx_if_some hf with ⟨hc_1, hf⟩ | ⟨hc_1, hf⟩
    · skip
      exact zv_ret hg hf
    · skip
      rcases zx_if_some hf with ⟨hc_2, hf⟩ | ⟨hc_2, hf⟩
      · skip
        obtain ⟨hb_3, hf⟩ := zx_gd_some hf
        exact zv_tr hg (v_M_differences_402 ih x4 x4 (((G 47 (Int32.toNatClampNeg x4)) + (8 : Int32)) >>> ((4 : Int32) &&& 31)) G hf)
      · skip
        obtain ⟨hb_4, hf⟩ := zx_gd_some hf
        exact zv_tr hg (v_M_differences_402 ih x4 x4 ((G 47 (Int32.toNatClampNeg x4)) >>> ((2 : Int32) &&& 31)) G hf)
theorem v_M_differences_310 {r : Int32} {G1 : zx_G} : ∀ (n : Nat) (x3 x4 : Int32) (G : zx_G), f_M_differences_310 n x3 x4 G = some (r, G1) → ∀ q k, q ∉ A_M_differences → (q, k) ∉ O_M_differences → G1 q k = G q k := by
  intro n
  induction n with
  | zero => intro x3 x4 G hf; cases hf
  | succ n ih =>
    intro x3 x4 G hf
    unfold f_M_differences_310 at hf
    have hg : ∀ q k, q ∉ A_M_differences → (q, k) ∉ O_M_differences → G q k = G q k := fun _ _ _ _ => rfl
    rcases zx_if_some hf with ⟨hc_1, hf⟩ | ⟨hc_1, hf⟩
    · skip
      obtain ⟨x4_2, ex4_2, hf⟩ := zx_lt_some hf
      exact zv_tr hg (v_M_differences_358 2048 x4_2 G hf)
    · skip
      rcases zx_if_some hf with ⟨hc_3, hf⟩ | ⟨hc_3, hf⟩
      · skip
        obtain ⟨hb_4, hf⟩ := zx_gd_some hf
        rcases zx_if_some hf with ⟨hc_5, hf⟩ | ⟨hc_5, hf⟩
        · skip
          exact zv_tr hg (v_M_differences_343 ih x3 x4 x4 (4 : Int32) (2 : Int32) G hf)
        · skip
          exact zv_tr hg (v_M_differences_343 ih x3 x4 x4 (4 : Int32) (1 : Int32) G hf)
      · skip
        exact zv_tr hg (v_M_differences_343 ih x3 x4 x4 (4 : Int32) (0 : Int32) G hf)
theorem v_M_differences_260 {r : Int32} {G1 : zx_G} : ∀ (n : Nat) (x3 x4 : Int32) (G : zx_G), f_M_differences_260 n x3 x4 G = some (r, G1) → ∀ q k, q ∉ A_M_differences → (q, k) ∉ O_M_differences → G1 q k = G q k := by
  intro n
  induction n with
  | zero => intro x3 x4 G hf; cases hf
  | succ n ih =>
    intro x3 x4 G hf
    unfold f_M_differences_260 at hf
    have hg : ∀ q k, q ∉ A_M_differences → (q, k) ∉ O_M_differences → G q k = G q k := fun _ _ _ _ => rfl
    rcases zx_if_some hf with ⟨hc_1, hf⟩ | ⟨hc_1, hf⟩
    · skip
      obtain ⟨x4_2, ex4_2, hf⟩ := zx_lt_some hf
      exact zv_tr hg (v_M_differences_310 2048 x3 x4_2 G hf)
    · skip
      rcases zx_if_some hf with ⟨hc_3, hf⟩ | ⟨hc_3, hf⟩
      · skip
        obtain ⟨hb_4, hf⟩ := zx_gd_some hf
        rcases zx_if_some hf with ⟨hc_5, hf⟩ | ⟨hc_5, hf⟩
        · skip
          exact zv_tr hg (v_M_differences_295 ih x3 x4 ((4 : Int32) * x4) (1 : Int32) (2 : Int32) G hf)
        · skip
          exact zv_tr hg (v_M_differences_295 ih x3 x4 ((4 : Int32) * x4) (1 : Int32) (1 : Int32) G hf)
      · skip
        exact zv_tr hg (v_M_differences_295 ih x3 x4 ((4 : Int32) * x4) (1 : Int32) (0 : Int32) G hf)
theorem v_M_differences_257 {r : Int32} {G1 : zx_G} (x3 : Int32) (G : zx_G) (hf : f_M_differences_257 x3 G = some (r, G1)) : ∀ q k, q ∉ A_M_differences → (q, k) ∉ O_M_differences → G1 q k = G q k := by
  unfold f_M_differences_257 at hf
  have hg : ∀ q k, q ∉ A_M_differences → (q, k) ∉ O_M_differences → G q k = G q k := fun _ _ _ _ => rfl
  obtain ⟨x4_1, ex4_1, hf⟩ := zx_lt_some hf
  exact zv_tr hg (v_M_differences_260 2048 x3 x4_1 G hf)
theorem v_M_differences_192 {r : Int32} {G1 : zx_G} : ∀ (n : Nat) (x3 x4 : Int32) (G : zx_G), f_M_differences_192 n x3 x4 G = some (r, G1) → ∀ q k, q ∉ A_M_differences → (q, k) ∉ O_M_differences → G1 q k = G q k := by
  intro n
  induction n with
  | zero => intro x3 x4 G hf; cases hf
  | succ n ih =>
    intro x3 x4 G hf
    unfold f_M_differences_192 at hf
    have hg : ∀ q k, q ∉ A_M_differences → (q, k) ∉ O_M_differences → G q k = G q k := fun _ _ _ _ => rfl
    rcases zx_if_some hf with ⟨hc_1, hf⟩ | ⟨hc_1, hf⟩
    · skip
      exact zv_tr hg (v_M_differences_257 x3 G hf)
    · skip
      rcases zx_if_some hf with ⟨hc_2, hf⟩ | ⟨hc_2, hf⟩
      · skip
        exact zv_tr hg (v_M_differences_257 x3 G hf)
      · skip
        obtain ⟨hb_3, hf⟩ := zx_gd_some hf
        rcases zx_if_some hf with ⟨hc_4, hf⟩ | ⟨hc_4, hf⟩
        · skip
          exact zv_tr hg (v_M_differences_243 ih x3 x4 x4 (G 47 (Int32.toNatClampNeg x4)) ((4 : Int32) + ((3 : Int32) * (G 32 21))) G hf)
        · skip
          exact zv_tr hg (v_M_differences_243 ih x3 x4 x4 (G 47 (Int32.toNatClampNeg x4)) ((4 : Int32) + ((2 : Int32) * (G 32 21))) G hf)
theorem v_M_differences_175 {r : Int32} {G1 : zx_G} (G : zx_G) (hf : f_M_differences_175 G = some (r, G1)) : ∀ q k, q ∉ A_M_differences → (q, k) ∉ O_M_differences → G1 q k = G q k := by
  unfold f_M_differences_175 at hf
  have hg : ∀ q k, q ∉ A_M_differences → (q, k) ∉ O_M_differences → G q k = G q k := fun _ _ _ _ => rfl
  obtain ⟨hb_1, hf⟩ := zx_gd_some hf
  obtain ⟨x3_2, ex3_2, hf⟩ := zx_lt_some hf
  obtain ⟨x4_3, ex4_3, hf⟩ := zx_lt_some hf
  exact zv_tr hg (v_M_differences_192 2048 x3_2 x4_3 G hf)
theorem v_M_differences_59 {r : Int32} {G1 : zx_G} : ∀ (n : Nat) (x1 x2 x3 : Int32) (G : zx_G), f_M_differences_59 n x1 x2 x3 G = some (r, G1) → ∀ q k, q ∉ A_M_differences → (q, k) ∉ O_M_differences → G1 q k = G q k := by
  intro n
  induction n with
  | zero => intro x1 x2 x3 G hf; cases hf
  | succ n ih =>
    intro x1 x2 x3 G hf
    unfold f_M_differences_59 at hf
    have hg : ∀ q k, q ∉ A_M_differences → (q, k) ∉ O_M_differences → G q k = G q k := fun _ _ _ _ => rfl
    rcases zx_if_some hf with ⟨hc_1, hf⟩ | ⟨hc_1, hf⟩
    · skip
      exact zv_tr hg (v_M_differences_175 G hf)
    · skip
      rcases zx_if_some hf with ⟨hc_2, hf⟩ | ⟨hc_2, hf⟩
      · skip
        exact zv_tr hg (v_M_differences_175 G hf)
      · skip
        rcases zx_if_some hf with ⟨hc_3, hf⟩ | ⟨hc_3, hf⟩
        · skip
          exact zv_tr hg (v_M_differences_82 ih x1 x2 x3 (16 : Int32) G hf)
        · skip
          exact zv_tr hg (v_M_differences_82 ih x1 x2 x3 (13 : Int32) G hf)
theorem v_M_differences_53 {r : Int32} {G1 : zx_G} (x1 s1 : Int32) (G : zx_G) (hf : f_M_differences_53 x1 s1 G = some (r, G1)) : ∀ q k, q ∉ A_M_differences → (q, k) ∉ O_M_differences → G1 q k = G q k := by
  unfold f_M_differences_53 at hf
  have hg : ∀ q k, q ∉ A_M_differences → (q, k) ∉ O_M_differences → G q k = G q k := fun _ _ _ _ => rfl
  obtain ⟨r_2, G_1, hq_3, hf⟩ := zx_bd_some hf
  have hg := zv_call hg (v_M_symbol s1 G hq_3) (by decide) (by decide)
  obtain ⟨x2_4, ex2_4, hf⟩ := zx_lt_some hf
  obtain ⟨x3_5, ex3_5, hf⟩ := zx_lt_some hf
  exact zv_tr hg (v_M_differences_59 2048 x1 x2_4 x3_5 G_1 hf)
theorem v_M_differences_33 {r : Int32} {G1 : zx_G} (x1 s1 : Int32) (G : zx_G) (hf : f_M_differences_33 x1 s1 G = some (r, G1)) : ∀ q k, q ∉ A_M_differences → (q, k) ∉ O_M_differences → G1 q k = G q k := by
  unfold f_M_differences_33 at hf
  have hg : ∀ q k, q ∉ A_M_differences → (q, k) ∉ O_M_differences → G q k = G q k := fun _ _ _ _ => rfl
  obtain ⟨r_2, G_1, hq_3, hf⟩ := zx_bd_some hf
  have hg := zv_call hg (v_M_symbol s1 G hq_3) (by decide) (by decide)
  rcases zx_if_some hf with ⟨hc_4, hf⟩ | ⟨hc_4, hf⟩
  · skip
    rcases zx_if_some hf with ⟨hc_5, hf⟩ | ⟨hc_5, hf⟩
    · skip
      exact zv_tr hg (v_M_differences_53 x1 (12 : Int32) G_1 hf)
    · skip
      exact zv_tr hg (v_M_differences_53 x1 (11 : Int32) G_1 hf)
  · skip
    exact zv_ret hg hf
theorem v_M_differences_2 {r : Int32} {G1 : zx_G} : ∀ (n : Nat) (x1 x2 : Int32) (G : zx_G), f_M_differences_2 n x1 x2 G = some (r, G1) → ∀ q k, q ∉ A_M_differences → (q, k) ∉ O_M_differences → G1 q k = G q k := by
  intro n
  induction n with
  | zero => intro x1 x2 G hf; cases hf
  | succ n ih =>
    intro x1 x2 G hf
    unfold f_M_differences_2 at hf
    have hg : ∀ q k, q ∉ A_M_differences → (q, k) ∉ O_M_differences → G q k = G q k := fun _ _ _ _ => rfl
    rcases zx_if_some hf with ⟨hc_1, hf⟩ | ⟨hc_1, hf⟩
    · skip
      rcases zx_if_some hf with ⟨hc_2, hf⟩ | ⟨hc_2, hf⟩
      · skip
        exact zv_tr hg (v_M_differences_33 x1 (9 : Int32) G hf)
      · skip
        exact zv_tr hg (v_M_differences_33 x1 (8 : Int32) G hf)
    · skip
      obtain ⟨hb_3, hf⟩ := zx_gd_some hf
      obtain ⟨G_4, eG_4, hf⟩ := zx_lt_some hf
      have hg := zv_ua hg eG_4 (by decide)
      obtain ⟨x2_5, ex2_5, hf⟩ := zx_lt_some hf
      exact zv_tr hg (ih x1 x2_5 G_4 hf)
theorem v_M_differences_0 {r : Int32} {G1 : zx_G} (x1 : Int32) (G : zx_G) (hf : f_M_differences x1 G = some (r, G1)) : ∀ q k, q ∉ A_M_differences → (q, k) ∉ O_M_differences → G1 q k = G q k := by
  unfold f_M_differences at hf
  have hg : ∀ q k, q ∉ A_M_differences → (q, k) ∉ O_M_differences → G q k = G q k := fun _ _ _ _ => rfl
  obtain ⟨x2_1, ex2_1, hf⟩ := zx_lt_some hf
  exact zv_tr hg (v_M_differences_2 2048 x1 x2_1 G hf)
theorem v_M_differences (x1 : Int32) (G : zx_G) {r : Int32} {G1 : zx_G} (hf : f_M_differences x1 G = some (r, G1)) : ∀ q k, q ∉ A_M_differences → (q, k) ∉ O_M_differences → G1 q k = G q k := v_M_differences_0 x1 G hf
abbrev A_M_edges : List Nat := [49, 50]
abbrev O_M_edges : List (Nat × Nat) := [(32, 44)]
theorem v_M_edges_191 {r : Int32} {G1 : zx_G} {k118 : Int32 → Int32 → Int32 → Int32 → Int32 → Int32 → zx_G → Option (Int32 × zx_G)} (hk118 : ∀ (x1 x2 x3 x5 x6 x7 : Int32) (G : zx_G), k118 x1 x2 x3 x5 x6 x7 G = some (r, G1) → ∀ q k, q ∉ A_M_edges → (q, k) ∉ O_M_edges → G1 q k = G q k) (x1 x2 x3 x5 x6 x7 s1 s2 : Int32) (G : zx_G) (hf : f_M_edges_191 k118 x1 x2 x3 x5 x6 x7 s1 s2 G = some (r, G1)) : ∀ q k, q ∉ A_M_edges → (q, k) ∉ O_M_edges → G1 q k = G q k := by
  unfold f_M_edges_191 at hf
  have hg : ∀ q k, q ∉ A_M_edges → (q, k) ∉ O_M_edges → G q k = G q k := fun _ _ _ _ => rfl
  obtain ⟨hb_1, hf⟩ := zx_gd_some hf
  obtain ⟨G_2, eG_2, hf⟩ := zx_lt_some hf
  have hg := zv_ua hg eG_2 (by decide)
  obtain ⟨x7_3, ex7_3, hf⟩ := zx_lt_some hf
  exact zv_tr hg (hk118 x1 x2 x3 x5 x6 x7_3 G_2 hf)
theorem v_M_edges_157 {r : Int32} {G1 : zx_G} {k118 : Int32 → Int32 → Int32 → Int32 → Int32 → Int32 → zx_G → Option (Int32 × zx_G)} (hk118 : ∀ (x1 x2 x3 x5 x6 x7 : Int32) (G : zx_G), k118 x1 x2 x3 x5 x6 x7 G = some (r, G1) → ∀ q k, q ∉ A_M_edges → (q, k) ∉ O_M_edges → G1 q k = G q k) (x1 x2 x3 x5 x6 x7 s1 s2 : Int32) (G : zx_G) (hf : f_M_edges_157 k118 x1 x2 x3 x5 x6 x7 s1 s2 G = some (r, G1)) : ∀ q k, q ∉ A_M_edges → (q, k) ∉ O_M_edges → G1 q k = G q k := by
  unfold f_M_edges_157 at hf
  have hg : ∀ q k, q ∉ A_M_edges → (q, k) ∉ O_M_edges → G q k = G q k := fun _ _ _ _ => rfl
  obtain ⟨hb_1, hf⟩ := zx_gd_some hf
  obtain ⟨G_2, eG_2, hf⟩ := zx_lt_some hf
  have hg := zv_ua hg eG_2 (by decide)
  rcases zx_if_some hf with ⟨hc_3, hf⟩ | ⟨hc_3, hf⟩
  · skip
    exact zv_tr hg (v_M_edges_191 hk118 x1 x2 x3 x5 x6 x7 x7 x6 G_2 hf)
  · skip
    obtain ⟨hb_4, hf⟩ := zx_gd_some hf
    exact zv_tr hg (v_M_edges_191 hk118 x1 x2 x3 x5 x6 x7 x7 (G_2 42 (Int32.toNatClampNeg (((x1 + ((16 : Int32) * (x3 + x7))) + x2) - (1 : Int32)))) G_2 hf)
theorem v_M_edges_238 {r : Int32} {G1 : zx_G} (s1 : Int32) (G : zx_G) (hf : f_M_edges_238 s1 G = some (r, G1)) : ∀ q k, q ∉ A_M_edges → (q, k) ∉ O_M_edges → G1 q k = G q k := by
  unfold f_M_edges_238 at hf
  have hg : ∀ q k, q ∉ A_M_edges → (q, k) ∉ O_M_edges → G q k = G q k := fun _ _ _ _ => rfl
  obtain ⟨G_1, eG_1, hf⟩ := zx_lt_some hf
  have hg := zv_uo hg eG_1 (by decide)
  exact zv_ret hg hf
theorem v_M_edges_227 {r : Int32} {G1 : zx_G} (x3 x5 x6 : Int32) (G : zx_G) (hf : f_M_edges_227 x3 x5 x6 G = some (r, G1)) : ∀ q k, q ∉ A_M_edges → (q, k) ∉ O_M_edges → G1 q k = G q k := by
  unfold f_M_edges_227 at hf
  have hg : ∀ q k, q ∉ A_M_edges → (q, k) ∉ O_M_edges → G q k = G q k := fun _ _ _ _ => rfl
  rcases zx_if_some hf with ⟨hc_1, hf⟩ | ⟨hc_1, hf⟩
  · skip
    exact zv_tr hg (v_M_edges_238 x6 G hf)
  · skip
    exact zv_tr hg (v_M_edges_238 x5 G hf)
theorem v_M_edges_118 {r : Int32} {G1 : zx_G} : ∀ (n : Nat) (x1 x2 x3 x5 x6 x7 : Int32) (G : zx_G), f_M_edges_118 n x1 x2 x3 x5 x6 x7 G = some (r, G1) → ∀ q k, q ∉ A_M_edges → (q, k) ∉ O_M_edges → G1 q k = G q k := by
  intro n
  induction n with
  | zero => intro x1 x2 x3 x5 x6 x7 G hf; cases hf
  | succ n ih =>
    intro x1 x2 x3 x5 x6 x7 G hf
    unfold f_M_edges_118 at hf
    have hg : ∀ q k, q ∉ A_M_edges → (q, k) ∉ O_M_edges → G q k = G q k := fun _ _ _ _ => rfl
    rcases zx_if_some hf with ⟨hc_1, hf⟩ | ⟨hc_1, hf⟩
    · skip
      rcases zx_if_some hf with ⟨hc_2, hf⟩ | ⟨hc_2, hf⟩
      · skip
        exact zv_tr hg (v_M_edges_227 x3 x5 x6 G hf)
      · skip
        rcases zx_if_some hf with ⟨hc_3, hf⟩ | ⟨hc_3, hf⟩
        · skip
          exact zv_tr hg (v_M_edges_227 x3 x5 x6 G hf)
        · skip
          obtain ⟨hb_4, hf⟩ := zx_gd_some hf
          exact zv_tr hg (v_M_edges_238 (G 42 (Int32.toNatClampNeg (((x1 + ((16 : Int32) * (x3 - (1 : Int32)))) + x2) - (1 : Int32)))) G hf)
    · skip
      rcases zx_if_some hf with ⟨hc_5, hf⟩ | ⟨hc_5, hf⟩
      · skip
        exact zv_tr hg (v_M_edges_157 ih x1 x2 x3 x5 x6 x7 x7 x5 G hf)
      · skip
        obtain ⟨hb_6, hf⟩ := zx_gd_some hf
        exact zv_tr hg (v_M_edges_157 ih x1 x2 x3 x5 x6 x7 x7 (G 42 (Int32.toNatClampNeg (((x1 + ((16 : Int32) * (x3 - (1 : Int32)))) + x2) + x7))) G hf)
theorem v_M_edges_113 {r : Int32} {G1 : zx_G} (x1 x2 x3 x5 s0 : Int32) (G : zx_G) (hf : f_M_edges_113 x1 x2 x3 x5 s0 G = some (r, G1)) : ∀ q k, q ∉ A_M_edges → (q, k) ∉ O_M_edges → G1 q k = G q k := by
  unfold f_M_edges_113 at hf
  have hg : ∀ q k, q ∉ A_M_edges → (q, k) ∉ O_M_edges → G q k = G q k := fun _ _ _ _ => rfl
  obtain ⟨x6_1, ex6_1, hf⟩ := zx_lt_some hf
  obtain ⟨x7_2, ex7_2, hf⟩ := zx_lt_some hf
  exact zv_tr hg (v_M_edges_118 2048 x1 x2 x3 x5 x6_1 x7_2 G hf)
theorem v_M_edges_65 {r : Int32} {G1 : zx_G} (x1 x2 x3 x4 s0 : Int32) (G : zx_G) (hf : f_M_edges_65 x1 x2 x3 x4 s0 G = some (r, G1)) : ∀ q k, q ∉ A_M_edges → (q, k) ∉ O_M_edges → G1 q k = G q k := by
  unfold f_M_edges_65 at hf
  have hg : ∀ q k, q ∉ A_M_edges → (q, k) ∉ O_M_edges → G q k = G q k := fun _ _ _ _ => rfl
  obtain ⟨x5_1, ex5_1, hf⟩ := zx_lt_some hf
  rcases zx_if_some hf with ⟨hc_2, hf⟩ | ⟨hc_2, hf⟩
  · skip
    rcases zx_if_some hf with ⟨hc_3, hf⟩ | ⟨hc_3, hf⟩
    · skip
      exact zv_tr hg (v_M_edges_113 x1 x2 x3 x5_1 x4 G hf)
    · skip
      obtain ⟨hb_4, hf⟩ := zx_gd_some hf
      exact zv_tr hg (v_M_edges_113 x1 x2 x3 x5_1 (G 42 (Int32.toNatClampNeg ((x1 + ((16 : Int32) * (x3 - (1 : Int32)))) + x2))) G hf)
  · skip
    obtain ⟨hb_5, hf⟩ := zx_gd_some hf
    exact zv_tr hg (v_M_edges_113 x1 x2 x3 x5_1 (G 42 (Int32.toNatClampNeg (((x1 + ((16 : Int32) * x3)) + x2) - (1 : Int32)))) G hf)
theorem v_M_edges_17 {r : Int32} {G1 : zx_G} (x1 x2 x3 s0 : Int32) (G : zx_G) (hf : f_M_edges_17 x1 x2 x3 s0 G = some (r, G1)) : ∀ q k, q ∉ A_M_edges → (q, k) ∉ O_M_edges → G1 q k = G q k := by
  unfold f_M_edges_17 at hf
  have hg : ∀ q k, q ∉ A_M_edges → (q, k) ∉ O_M_edges → G q k = G q k := fun _ _ _ _ => rfl
  obtain ⟨x4_1, ex4_1, hf⟩ := zx_lt_some hf
  rcases zx_if_some hf with ⟨hc_2, hf⟩ | ⟨hc_2, hf⟩
  · skip
    rcases zx_if_some hf with ⟨hc_3, hf⟩ | ⟨hc_3, hf⟩
    · skip
      exact zv_tr hg (v_M_edges_65 x1 x2 x3 x4_1 x4_1 G hf)
    · skip
      obtain ⟨hb_4, hf⟩ := zx_gd_some hf
      exact zv_tr hg (v_M_edges_65 x1 x2 x3 x4_1 (G 42 (Int32.toNatClampNeg (((x1 + ((16 : Int32) * x3)) + x2) - (1 : Int32)))) G hf)
  · skip
    obtain ⟨hb_5, hf⟩ := zx_gd_some hf
    exact zv_tr hg (v_M_edges_65 x1 x2 x3 x4_1 (G 42 (Int32.toNatClampNeg ((x1 + ((16 : Int32) * (x3 - (1 : Int32)))) + x2))) G hf)
theorem v_M_edges_0 {r : Int32} {G1 : zx_G} (x1 x2 x3 : Int32) (G : zx_G) (hf : f_M_edges x1 x2 x3 G = some (r, G1)) : ∀ q k, q ∉ A_M_edges → (q, k) ∉ O_M_edges → G1 q k = G q k := by
  unfold f_M_edges at hf
  have hg : ∀ q k, q ∉ A_M_edges → (q, k) ∉ O_M_edges → G q k = G q k := fun _ _ _ _ => rfl
  rcases zx_if_some hf with ⟨hc_1, hf⟩ | ⟨hc_1, hf⟩
  · skip
    exact zv_tr hg (v_M_edges_17 x1 x2 x3 (128 : Int32) G hf)
  · skip
    exact zv_tr hg (v_M_edges_17 x1 x2 x3 (512 : Int32) G hf)
theorem v_M_edges (x1 x2 x3 : Int32) (G : zx_G) {r : Int32} {G1 : zx_G} (hf : f_M_edges x1 x2 x3 G = some (r, G1)) : ∀ q k, q ∉ A_M_edges → (q, k) ∉ O_M_edges → G1 q k = G q k := v_M_edges_0 x1 x2 x3 G hf
abbrev A_M_piece : List Nat := [40, 41, 42, 47, 48, 49, 50]
abbrev O_M_piece : List (Nat × Nat) := [(32, 10), (32, 27), (32, 28), (32, 29), (32, 30), (32, 44)]
theorem v_M_piece_23 {r : Int32} {G1 : zx_G} (G : zx_G) (hf : f_M_piece_23 G = some (r, G1)) : ∀ q k, q ∉ A_M_piece → (q, k) ∉ O_M_piece → G1 q k = G q k := by
  unfold f_M_piece_23 at hf
  have hg : ∀ q k, q ∉ A_M_piece → (q, k) ∉ O_M_piece → G q k = G q k := fun _ _ _ _ => rfl
  exact zv_ret hg hf
theorem v_M_piece_212 {r : Int32} {G1 : zx_G} {k112 : Int32 → Int32 → Int32 → Int32 → Int32 → Int32 → zx_G → Option (Int32 × zx_G)} (hk112 : ∀ (x1 x2 x3 x4 x5 x6 : Int32) (G : zx_G), k112 x1 x2 x3 x4 x5 x6 G = some (r, G1) → ∀ q k, q ∉ A_M_piece → (q, k) ∉ O_M_piece → G1 q k = G q k) (x1 x2 x3 x4 x5 x6 x7 x8 s0 : Int32) (G : zx_G) (hf : f_M_piece_212 k112 x1 x2 x3 x4 x5 x6 x7 x8 s0 G = some (r, G1)) : ∀ q k, q ∉ A_M_piece → (q, k) ∉ O_M_piece → G1 q k = G q k := by
  unfold f_M_piece_212 at hf
  have hg : ∀ q k, q ∉ A_M_piece → (q, k) ∉ O_M_piece → G q k = G q k := fun _ _ _ _ => rfl
  obtain ⟨x10_1, ex10_1, hf⟩ := zx_lt_some hf
  obtain ⟨hb_2, hf⟩ := zx_gd_some hf
  obtain ⟨r_4, G_3, hq_5, hf⟩ := zx_bd_some hf
  have hg := zv_call hg (v_M_within (x10_1 + (G 47 (Int32.toNatClampNeg x6))) G hq_5) (by decide) (by decide)
  obtain ⟨hb_6, hf⟩ := zx_gd_some hf
  obtain ⟨G_7, eG_7, hf⟩ := zx_lt_some hf
  have hg := zv_ua hg eG_7 (by decide)
  obtain ⟨x6_8, ex6_8, hf⟩ := zx_lt_some hf
  exact zv_tr hg (hk112 x1 x2 x3 x4 x5 x6_8 G_7 hf)
theorem v_M_piece_182 {r : Int32} {G1 : zx_G} {k112 : Int32 → Int32 → Int32 → Int32 → Int32 → Int32 → zx_G → Option (Int32 × zx_G)} (hk112 : ∀ (x1 x2 x3 x4 x5 x6 : Int32) (G : zx_G), k112 x1 x2 x3 x4 x5 x6 G = some (r, G1) → ∀ q k, q ∉ A_M_piece → (q, k) ∉ O_M_piece → G1 q k = G q k) (x1 x2 x3 x4 x5 x6 x7 x8 x9 s1 s3 : Int32) (G : zx_G) (hf : f_M_piece_182 k112 x1 x2 x3 x4 x5 x6 x7 x8 x9 s1 s3 G = some (r, G1)) : ∀ q k, q ∉ A_M_piece → (q, k) ∉ O_M_piece → G1 q k = G q k := by
  unfold f_M_piece_182 at hf
  have hg : ∀ q k, q ∉ A_M_piece → (q, k) ∉ O_M_piece → G q k = G q k := fun _ _ _ _ => rfl
  obtain ⟨hb_1, hf⟩ := zx_gd_some hf
  obtain ⟨r_3, G_2, hq_4, hf⟩ := zx_bd_some hf
  have hg := zv_call hg (v_M_within (s1 + ((((G 46 (Int32.toNatClampNeg s3)) * (x9 - (x5 >>> ((4 : Int32) &&& 31)))) + (2 : Int32)) >>> ((2 : Int32) &&& 31))) G hq_4) (by decide) (by decide)
  exact zv_tr hg (v_M_piece_212 hk112 x1 x2 x3 x4 x5 x6 x7 x8 r_3 G_2 hf)
theorem v_M_piece_112 {r : Int32} {G1 : zx_G} : ∀ (n : Nat) (x1 x2 x3 x4 x5 x6 : Int32) (G : zx_G), f_M_piece_112 n x1 x2 x3 x4 x5 x6 G = some (r, G1) → ∀ q k, q ∉ A_M_piece → (q, k) ∉ O_M_piece → G1 q k = G q k := by
  intro n
  induction n with
  | zero => intro x1 x2 x3 x4 x5 x6 G hf; cases hf
  | succ n ih =>
    intro x1 x2 x3 x4 x5 x6 G hf
    unfold f_M_piece_112 at hf
    have hg : ∀ q k, q ∉ A_M_piece → (q, k) ∉ O_M_piece → G q k = G q k := fun _ _ _ _ => rfl
    rcases zx_if_some hf with ⟨hc_1, hf⟩ | ⟨hc_1, hf⟩
    · skip
      exact zv_ret hg hf
    · skip
      obtain ⟨hb_2, hf⟩ := zx_gd_some hf
      obtain ⟨x7_3, ex7_3, hf⟩ := zx_lt_some hf
      obtain ⟨hb_4, hf⟩ := zx_gd_some hf
      obtain ⟨x8_5, ex8_5, hf⟩ := zx_lt_some hf
      obtain ⟨hb_6, hf⟩ := zx_gd_some hf
      obtain ⟨x9_7, ex9_7, hf⟩ := zx_lt_some hf
      rcases zx_if_some hf with ⟨hc_8, hf⟩ | ⟨hc_8, hf⟩
      · skip
        obtain ⟨r_10, G_9, hq_11, hf⟩ := zx_bd_some hf
        have hg := zv_call hg (v_M_predicted x4 x7_3 x8_5 G hq_11) (by decide) (by decide)
        exact zv_tr hg (v_M_piece_212 ih x1 x2 x3 x4 x5 x6 x7_3 x8_5 r_10 G_9 hf)
      · skip
        obtain ⟨r_13, G_12, hq_14, hf⟩ := zx_bd_some hf
        have hg := zv_call hg (v_M_predicted (0 : Int32) x7_3 x8_5 G hq_14) (by decide) (by decide)
        rcases zx_if_some hf with ⟨hc_15, hf⟩ | ⟨hc_15, hf⟩
        · skip
          exact zv_tr hg (v_M_piece_182 ih x1 x2 x3 x4 x5 x6 x7_3 x8_5 x9_7 r_13 (x1 - (1 : Int32)) G_12 hf)
        · skip
          exact zv_tr hg (v_M_piece_182 ih x1 x2 x3 x4 x5 x6 x7_3 x8_5 x9_7 r_13 (0 : Int32) G_12 hf)
theorem v_M_piece_70 {r : Int32} {G1 : zx_G} : ∀ (n : Nat) (x1 x2 x3 x4 x5 x6 : Int32) (G : zx_G), f_M_piece_70 n x1 x2 x3 x4 x5 x6 G = some (r, G1) → ∀ q k, q ∉ A_M_piece → (q, k) ∉ O_M_piece → G1 q k = G q k := by
  intro n
  induction n with
  | zero => intro x1 x2 x3 x4 x5 x6 G hf; cases hf
  | succ n ih =>
    intro x1 x2 x3 x4 x5 x6 G hf
    unfold f_M_piece_70 at hf
    have hg : ∀ q k, q ∉ A_M_piece → (q, k) ∉ O_M_piece → G q k = G q k := fun _ _ _ _ => rfl
    rcases zx_if_some hf with ⟨hc_1, hf⟩ | ⟨hc_1, hf⟩
    · skip
      obtain ⟨x6_2, ex6_2, hf⟩ := zx_lt_some hf
      exact zv_tr hg (v_M_piece_112 2048 x1 x2 x3 x4 x5 x6_2 G hf)
    · skip
      obtain ⟨hb_3, hf⟩ := zx_gd_some hf
      obtain ⟨hb_4, hf⟩ := zx_gd_some hf
      obtain ⟨hb_5, hf⟩ := zx_gd_some hf
      obtain ⟨x5_6, ex5_6, hf⟩ := zx_lt_some hf
      obtain ⟨x6_7, ex6_7, hf⟩ := zx_lt_some hf
      exact zv_tr hg (ih x1 x2 x3 x4 x5_6 x6_7 G hf)
theorem v_M_piece_59 {r : Int32} {G1 : zx_G} (x1 x2 x3 s1 s2 : Int32) (G : zx_G) (hf : f_M_piece_59 x1 x2 x3 s1 s2 G = some (r, G1)) : ∀ q k, q ∉ A_M_piece → (q, k) ∉ O_M_piece → G1 q k = G q k := by
  unfold f_M_piece_59 at hf
  have hg : ∀ q k, q ∉ A_M_piece → (q, k) ∉ O_M_piece → G q k = G q k := fun _ _ _ _ => rfl
  obtain ⟨hb_1, hf⟩ := zx_gd_some hf
  obtain ⟨x4_2, ex4_2, hf⟩ := zx_lt_some hf
  obtain ⟨x5_3, ex5_3, hf⟩ := zx_lt_some hf
  obtain ⟨x6_4, ex6_4, hf⟩ := zx_lt_some hf
  exact zv_tr hg (v_M_piece_70 2048 x1 x2 x3 x4_2 x5_3 x6_4 G hf)
theorem v_M_piece_0 {r : Int32} {G1 : zx_G} (x1 x2 x3 : Int32) (G : zx_G) (hf : f_M_piece x1 x2 x3 G = some (r, G1)) : ∀ q k, q ∉ A_M_piece → (q, k) ∉ O_M_piece → G1 q k = G q k := by
  unfold f_M_piece at hf
  have hg : ∀ q k, q ∉ A_M_piece → (q, k) ∉ O_M_piece → G q k = G q k := fun _ _ _ _ => rfl
  rcases zx_if_some hf with ⟨hc_1, hf⟩ | ⟨hc_1, hf⟩
  · skip
    exact zv_tr hg (v_M_piece_23 G hf)
  · skip
    rcases zx_if_some hf with ⟨hc_2, hf⟩ | ⟨hc_2, hf⟩
    · skip
      exact zv_tr hg (v_M_piece_23 G hf)
    · skip
      rcases zx_if_some hf with ⟨hc_3, hf⟩ | ⟨hc_3, hf⟩
      · skip
        obtain ⟨r_5, G_4, hq_6, hf⟩ := zx_bd_some hf
        have hg := zv_call hg (v_M_differences x1 G hq_6) (by decide) (by decide)
        obtain ⟨r_8, G_7, hq_9, hf⟩ := zx_bd_some hf
        have hg := zv_call hg (v_M_edges ((256 : Int32) * x1) x2 x3 G_4 hq_9) (by decide) (by decide)
        rcases zx_if_some hf with ⟨hc_10, hf⟩ | ⟨hc_10, hf⟩
        · skip
          exact zv_tr hg (v_M_piece_59 x1 x2 x3 ((4 : Int32) * (G_7 32 37)) (2 : Int32) G_7 hf)
        · skip
          exact zv_tr hg (v_M_piece_59 x1 x2 x3 ((4 : Int32) * (G_7 32 37)) (1 : Int32) G_7 hf)
      · skip
        exact zv_tr hg (v_M_piece_23 G hf)
theorem v_M_piece (x1 x2 x3 : Int32) (G : zx_G) {r : Int32} {G1 : zx_G} (hf : f_M_piece x1 x2 x3 G = some (r, G1)) : ∀ q k, q ∉ A_M_piece → (q, k) ∉ O_M_piece → G1 q k = G q k := v_M_piece_0 x1 x2 x3 G hf
abbrev A_M_readBlock : List Nat := [40, 41, 42, 44, 45, 46, 47, 48, 49, 50]
abbrev O_M_readBlock : List (Nat × Nat) := [(32, 10), (32, 27), (32, 28), (32, 29), (32, 30), (32, 37), (32, 44)]
theorem v_M_readBlock_23 {r : Int32} {G1 : zx_G} (G : zx_G) (hf : f_M_readBlock_23 G = some (r, G1)) : ∀ q k, q ∉ A_M_readBlock → (q, k) ∉ O_M_readBlock → G1 q k = G q k := by
  unfold f_M_readBlock_23 at hf
  have hg : ∀ q k, q ∉ A_M_readBlock → (q, k) ∉ O_M_readBlock → G q k = G q k := fun _ _ _ _ => rfl
  exact zv_ret hg hf
theorem v_M_readBlock_316 {r : Int32} {G1 : zx_G} {k300 : Int32 → Int32 → Int32 → Int32 → zx_G → Option (Int32 × zx_G)} (hk300 : ∀ (x1 x2 x3 x7 : Int32) (G : zx_G), k300 x1 x2 x3 x7 G = some (r, G1) → ∀ q k, q ∉ A_M_readBlock → (q, k) ∉ O_M_readBlock → G1 q k = G q k) : ∀ (n : Nat) (x1 x2 x3 x7 x8 : Int32) (G : zx_G), f_M_readBlock_316 k300 n x1 x2 x3 x7 x8 G = some (r, G1) → ∀ q k, q ∉ A_M_readBlock → (q, k) ∉ O_M_readBlock → G1 q k = G q k := by
  intro n
  induction n with
  | zero => intro x1 x2 x3 x7 x8 G hf; cases hf
  | succ n ih =>
    intro x1 x2 x3 x7 x8 G hf
    unfold f_M_readBlock_316 at hf
    have hg : ∀ q k, q ∉ A_M_readBlock → (q, k) ∉ O_M_readBlock → G q k = G q k := fun _ _ _ _ => rfl
    obtain ⟨hb_1, hf⟩ := zx_gd_some hf
    rcases zx_if_some hf with ⟨hc_2, hf⟩ | ⟨hc_2, hf⟩
    · skip
      obtain ⟨x7_3, ex7_3, hf⟩ := zx_lt_some hf
      exact zv_tr hg (hk300 x1 x2 x3 x7_3 G hf)
    · skip
      obtain ⟨hb_4, hf⟩ := zx_gd_some hf
      obtain ⟨hb_5, hf⟩ := zx_gd_some hf
      obtain ⟨hb_6, hf⟩ := zx_gd_some hf
      obtain ⟨hb_7, hf⟩ := zx_gd_some hf
      obtain ⟨r_9, G_8, hq_10, hf⟩ := zx_bd_some hf
      have hg := zv_call hg (v_M_piece x7 (x1 + ((zx_rem x8 (zx_div x3 (4 : Int32))) * (4 : Int32))) (x2 + ((zx_div x8 (zx_div x3 (4 : Int32))) * (4 : Int32))) G hq_10) (by decide) (by decide)
      obtain ⟨x8_11, ex8_11, hf⟩ := zx_lt_some hf
      exact zv_tr hg (ih x1 x2 x3 x7 x8_11 G_8 hf)
theorem v_M_readBlock_300 {r : Int32} {G1 : zx_G} : ∀ (n : Nat) (x1 x2 x3 x7 : Int32) (G : zx_G), f_M_readBlock_300 n x1 x2 x3 x7 G = some (r, G1) → ∀ q k, q ∉ A_M_readBlock → (q, k) ∉ O_M_readBlock → G1 q k = G q k := by
  intro n
  induction n with
  | zero => intro x1 x2 x3 x7 G hf; cases hf
  | succ n ih =>
    intro x1 x2 x3 x7 G hf
    unfold f_M_readBlock_300 at hf
    have hg : ∀ q k, q ∉ A_M_readBlock → (q, k) ∉ O_M_readBlock → G q k = G q k := fun _ _ _ _ => rfl
    rcases zx_if_some hf with ⟨hc_1, hf⟩ | ⟨hc_1, hf⟩
    · skip
      exact zv_ret hg hf
    · skip
      obtain ⟨x8_2, ex8_2, hf⟩ := zx_lt_some hf
      exact zv_tr hg (v_M_readBlock_316 ih 2048 x1 x2 x3 x7 x8_2 G hf)
theorem v_M_readBlock_253 {r : Int32} {G1 : zx_G} : ∀ (n : Nat) (x1 x2 x3 x4 x7 : Int32) (G : zx_G), f_M_readBlock_253 n x1 x2 x3 x4 x7 G = some (r, G1) → ∀ q k, q ∉ A_M_readBlock → (q, k) ∉ O_M_readBlock → G1 q k = G q k := by
  intro n
  induction n with
  | zero => intro x1 x2 x3 x4 x7 G hf; cases hf
  | succ n ih =>
    intro x1 x2 x3 x4 x7 G hf
    unfold f_M_readBlock_253 at hf
    have hg : ∀ q k, q ∉ A_M_readBlock → (q, k) ∉ O_M_readBlock → G q k = G q k := fun _ _ _ _ => rfl
    obtain ⟨hb_1, hf⟩ := zx_gd_some hf
    rcases zx_if_some hf with ⟨hc_2, hf⟩ | ⟨hc_2, hf⟩
    · skip
      obtain ⟨x7_3, ex7_3, hf⟩ := zx_lt_some hf
      exact zv_tr hg (v_M_readBlock_300 2048 x1 x2 x3 x7_3 G hf)
    · skip
      obtain ⟨hb_4, hf⟩ := zx_gd_some hf
      obtain ⟨hb_5, hf⟩ := zx_gd_some hf
      obtain ⟨hb_6, hf⟩ := zx_gd_some hf
      obtain ⟨hb_7, hf⟩ := zx_gd_some hf
      obtain ⟨hb_8, hf⟩ := zx_gd_some hf
      obtain ⟨G_9, eG_9, hf⟩ := zx_lt_some hf
      have hg := zv_ua hg eG_9 (by decide)
      obtain ⟨x7_10, ex7_10, hf⟩ := zx_lt_some hf
      exact zv_tr hg (ih x1 x2 x3 x4 x7_10 G_9 hf)
theorem v_M_readBlock_249 {r : Int32} {G1 : zx_G} (x1 x2 x3 x4 s1 s2 : Int32) (G : zx_G) (hf : f_M_readBlock_249 x1 x2 x3 x4 s1 s2 G = some (r, G1)) : ∀ q k, q ∉ A_M_readBlock → (q, k) ∉ O_M_readBlock → G1 q k = G q k := by
  unfold f_M_readBlock_249 at hf
  have hg : ∀ q k, q ∉ A_M_readBlock → (q, k) ∉ O_M_readBlock → G q k = G q k := fun _ _ _ _ => rfl
  obtain ⟨hb_1, hf⟩ := zx_gd_some hf
  obtain ⟨G_2, eG_2, hf⟩ := zx_lt_some hf
  have hg := zv_ua hg eG_2 (by decide)
  obtain ⟨x7_3, ex7_3, hf⟩ := zx_lt_some hf
  exact zv_tr hg (v_M_readBlock_253 2048 x1 x2 x3 x4 x7_3 G_2 hf)
theorem v_M_readBlock_220 {r : Int32} {G1 : zx_G} (x1 x2 x3 x4 : Int32) (G : zx_G) (hf : f_M_readBlock_220 x1 x2 x3 x4 G = some (r, G1)) : ∀ q k, q ∉ A_M_readBlock → (q, k) ∉ O_M_readBlock → G1 q k = G q k := by
  unfold f_M_readBlock_220 at hf
  have hg : ∀ q k, q ∉ A_M_readBlock → (q, k) ∉ O_M_readBlock → G q k = G q k := fun _ _ _ _ => rfl
  rcases zx_if_some hf with ⟨hc_1, hf⟩ | ⟨hc_1, hf⟩
  · skip
    exact zv_tr hg (v_M_readBlock_249 x1 x2 x3 x4 (((4 : Int32) * (G 32 37)) + (3 : Int32)) (0 : Int32) G hf)
  · skip
    obtain ⟨r_3, G_2, hq_4, hf⟩ := zx_bd_some hf
    have hg := zv_call hg (v_M_symbol (10 : Int32) G hq_4) (by decide) (by decide)
    exact zv_tr hg (v_M_readBlock_249 x1 x2 x3 x4 (((4 : Int32) * (G 32 37)) + (3 : Int32)) r_3 G_2 hf)
theorem v_M_readBlock_175 {r : Int32} {G1 : zx_G} : ∀ (n : Nat) (x1 x2 x3 x4 x7 : Int32) (G : zx_G), f_M_readBlock_175 n x1 x2 x3 x4 x7 G = some (r, G1) → ∀ q k, q ∉ A_M_readBlock → (q, k) ∉ O_M_readBlock → G1 q k = G q k := by
  intro n
  induction n with
  | zero => intro x1 x2 x3 x4 x7 G hf; cases hf
  | succ n ih =>
    intro x1 x2 x3 x4 x7 G hf
    unfold f_M_readBlock_175 at hf
    have hg : ∀ q k, q ∉ A_M_readBlock → (q, k) ∉ O_M_readBlock → G q k = G q k := fun _ _ _ _ => rfl
    rcases zx_if_some hf with ⟨hc_1, hf⟩ | ⟨hc_1, hf⟩
    · skip
      exact zv_tr hg (v_M_readBlock_220 x1 x2 x3 x4 G hf)
    · skip
      obtain ⟨hb_2, hf⟩ := zx_gd_some hf
      rcases zx_if_some hf with ⟨hc_3, hf⟩ | ⟨hc_3, hf⟩
      · skip
        exact zv_tr hg (v_M_readBlock_220 x1 x2 x3 x4 G hf)
      · skip
        obtain ⟨r_5, G_4, hq_6, hf⟩ := zx_bd_some hf
        have hg := zv_call hg (v_M_symbol (7 : Int32) G hq_6) (by decide) (by decide)
        obtain ⟨hb_7, hf⟩ := zx_gd_some hf
        obtain ⟨G_8, eG_8, hf⟩ := zx_lt_some hf
        have hg := zv_ua hg eG_8 (by decide)
        obtain ⟨x7_9, ex7_9, hf⟩ := zx_lt_some hf
        exact zv_tr hg (ih x1 x2 x3 x4 x7_9 G_8 hf)
theorem v_M_readBlock_171 {r : Int32} {G1 : zx_G} (x1 x2 x3 x4 s1 s2 : Int32) (G : zx_G) (hf : f_M_readBlock_171 x1 x2 x3 x4 s1 s2 G = some (r, G1)) : ∀ q k, q ∉ A_M_readBlock → (q, k) ∉ O_M_readBlock → G1 q k = G q k := by
  unfold f_M_readBlock_171 at hf
  have hg : ∀ q k, q ∉ A_M_readBlock → (q, k) ∉ O_M_readBlock → G q k = G q k := fun _ _ _ _ => rfl
  obtain ⟨hb_1, hf⟩ := zx_gd_some hf
  obtain ⟨G_2, eG_2, hf⟩ := zx_lt_some hf
  have hg := zv_ua hg eG_2 (by decide)
  obtain ⟨x7_3, ex7_3, hf⟩ := zx_lt_some hf
  exact zv_tr hg (v_M_readBlock_175 2048 x1 x2 x3 x4 x7_3 G_2 hf)
theorem v_M_readBlock_93 {r : Int32} {G1 : zx_G} (x1 x2 x3 x4 x5 s0 : Int32) (G : zx_G) (hf : f_M_readBlock_93 x1 x2 x3 x4 x5 s0 G = some (r, G1)) : ∀ q k, q ∉ A_M_readBlock → (q, k) ∉ O_M_readBlock → G1 q k = G q k := by
  unfold f_M_readBlock_93 at hf
  have hg : ∀ q k, q ∉ A_M_readBlock → (q, k) ∉ O_M_readBlock → G q k = G q k := fun _ _ _ _ => rfl
  obtain ⟨x6_1, ex6_1, hf⟩ := zx_lt_some hf
  obtain ⟨G_2, eG_2, hf⟩ := zx_lt_some hf
  have hg := zv_uo hg eG_2 (by decide)
  obtain ⟨hb_3, hf⟩ := zx_gd_some hf
  obtain ⟨G_4, eG_4, hf⟩ := zx_lt_some hf
  have hg := zv_ua hg eG_4 (by decide)
  obtain ⟨r_6, G_5, hq_7, hf⟩ := zx_bd_some hf
  have hg := zv_call hg (v_M_symbol (((2 : Int32) + x5) + x6_1) G_4 hq_7) (by decide) (by decide)
  obtain ⟨hb_8, hf⟩ := zx_gd_some hf
  obtain ⟨G_9, eG_9, hf⟩ := zx_lt_some hf
  have hg := zv_ua hg eG_9 (by decide)
  rcases zx_if_some hf with ⟨hc_10, hf⟩ | ⟨hc_10, hf⟩
  · skip
    exact zv_tr hg (v_M_readBlock_171 x1 x2 x3 x4 (((4 : Int32) * (G_9 32 37)) + (2 : Int32)) (0 : Int32) G_9 hf)
  · skip
    obtain ⟨r_12, G_11, hq_13, hf⟩ := zx_bd_some hf
    have hg := zv_call hg (v_M_symbol (6 : Int32) G_9 hq_13) (by decide) (by decide)
    exact zv_tr hg (v_M_readBlock_171 x1 x2 x3 x4 (((4 : Int32) * (G_9 32 37)) + (2 : Int32)) r_12 G_11 hf)
theorem v_M_readBlock_92 {r : Int32} {G1 : zx_G} (x1 x2 x3 x4 x5 : Int32) (G : zx_G) (hf : f_M_readBlock_92 x1 x2 x3 x4 x5 G = some (r, G1)) : ∀ q k, q ∉ A_M_readBlock → (q, k) ∉ O_M_readBlock → G1 q k = G q k := by
  unfold f_M_readBlock_92 at hf
  have hg : ∀ q k, q ∉ A_M_readBlock → (q, k) ∉ O_M_readBlock → G q k = G q k := fun _ _ _ _ => rfl
  exact zv_tr hg (v_M_readBlock_93 x1 x2 x3 x4 x5 (0 : Int32) G hf)
theorem v_M_readBlock_61 {r : Int32} {G1 : zx_G} (x1 x2 x3 x4 s0 : Int32) (G : zx_G) (hf : f_M_readBlock_61 x1 x2 x3 x4 s0 G = some (r, G1)) : ∀ q k, q ∉ A_M_readBlock → (q, k) ∉ O_M_readBlock → G1 q k = G q k := by
  unfold f_M_readBlock_61 at hf
  have hg : ∀ q k, q ∉ A_M_readBlock → (q, k) ∉ O_M_readBlock → G q k = G q k := fun _ _ _ _ => rfl
  obtain ⟨x5_1, ex5_1, hf⟩ := zx_lt_some hf
  rcases zx_if_some hf with ⟨hc_2, hf⟩ | ⟨hc_2, hf⟩
  · skip
    exact zv_tr hg (v_M_readBlock_92 x1 x2 x3 x4 x5_1 G hf)
  · skip
    obtain ⟨hb_3, hf⟩ := zx_gd_some hf
    obtain ⟨hb_4, hf⟩ := zx_gd_some hf
    rcases zx_if_some hf with ⟨hc_5, hf⟩ | ⟨hc_5, hf⟩
    · skip
      exact zv_tr hg (v_M_readBlock_92 x1 x2 x3 x4 x5_1 G hf)
    · skip
      exact zv_tr hg (v_M_readBlock_93 x1 x2 x3 x4 x5_1 (2 : Int32) G hf)
theorem v_M_readBlock_60 {r : Int32} {G1 : zx_G} (x1 x2 x3 x4 : Int32) (G : zx_G) (hf : f_M_readBlock_60 x1 x2 x3 x4 G = some (r, G1)) : ∀ q k, q ∉ A_M_readBlock → (q, k) ∉ O_M_readBlock → G1 q k = G q k := by
  unfold f_M_readBlock_60 at hf
  have hg : ∀ q k, q ∉ A_M_readBlock → (q, k) ∉ O_M_readBlock → G q k = G q k := fun _ _ _ _ => rfl
  exact zv_tr hg (v_M_readBlock_61 x1 x2 x3 x4 (0 : Int32) G hf)
theorem v_M_readBlock_0 {r : Int32} {G1 : zx_G} (x1 x2 x3 : Int32) (G : zx_G) (hf : f_M_readBlock x1 x2 x3 G = some (r, G1)) : ∀ q k, q ∉ A_M_readBlock → (q, k) ∉ O_M_readBlock → G1 q k = G q k := by
  unfold f_M_readBlock at hf
  have hg : ∀ q k, q ∉ A_M_readBlock → (q, k) ∉ O_M_readBlock → G q k = G q k := fun _ _ _ _ => rfl
  rcases zx_if_some hf with ⟨hc_1, hf⟩ | ⟨hc_1, hf⟩
  · skip
    exact zv_tr hg (v_M_readBlock_23 G hf)
  · skip
    rcases zx_if_some hf with ⟨hc_2, hf⟩ | ⟨hc_2, hf⟩
    · skip
      exact zv_tr hg (v_M_readBlock_23 G hf)
    · skip
      rcases zx_if_some hf with ⟨hc_3, hf⟩ | ⟨hc_3, hf⟩
      · skip
        obtain ⟨hb_4, hf⟩ := zx_gd_some hf
        obtain ⟨x4_5, ex4_5, hf⟩ := zx_lt_some hf
        rcases zx_if_some hf with ⟨hc_6, hf⟩ | ⟨hc_6, hf⟩
        · skip
          exact zv_tr hg (v_M_readBlock_60 x1 x2 x3 x4_5 G hf)
        · skip
          obtain ⟨hb_7, hf⟩ := zx_gd_some hf
          obtain ⟨hb_8, hf⟩ := zx_gd_some hf
          rcases zx_if_some hf with ⟨hc_9, hf⟩ | ⟨hc_9, hf⟩
          · skip
            exact zv_tr hg (v_M_readBlock_60 x1 x2 x3 x4_5 G hf)
          · skip
            exact zv_tr hg (v_M_readBlock_61 x1 x2 x3 x4_5 (1 : Int32) G hf)
      · skip
        exact zv_tr hg (v_M_readBlock_23 G hf)
theorem v_M_readBlock (x1 x2 x3 : Int32) (G : zx_G) {r : Int32} {G1 : zx_G} (hf : f_M_readBlock x1 x2 x3 G = some (r, G1)) : ∀ q k, q ∉ A_M_readBlock → (q, k) ∉ O_M_readBlock → G1 q k = G q k := v_M_readBlock_0 x1 x2 x3 G hf
abbrev A_M_readTile : List Nat := [40, 41, 42, 44, 45, 46, 47, 48, 49, 50]
abbrev O_M_readTile : List (Nat × Nat) := [(32, 10), (32, 27), (32, 28), (32, 29), (32, 30), (32, 37), (32, 44)]
theorem v_M_readTile_72 {r : Int32} {G1 : zx_G} {k57 : Int32 → zx_G → Option (Int32 × zx_G)} (hk57 : ∀ (x1 : Int32) (G : zx_G), k57 x1 G = some (r, G1) → ∀ q k, q ∉ A_M_readTile → (q, k) ∉ O_M_readTile → G1 q k = G q k) : ∀ (n : Nat) (x1 x2 : Int32) (G : zx_G), f_M_readTile_72 k57 n x1 x2 G = some (r, G1) → ∀ q k, q ∉ A_M_readTile → (q, k) ∉ O_M_readTile → G1 q k = G q k := by
  intro n
  induction n with
  | zero => intro x1 x2 G hf; cases hf
  | succ n ih =>
    intro x1 x2 G hf
    unfold f_M_readTile_72 at hf
    have hg : ∀ q k, q ∉ A_M_readTile → (q, k) ∉ O_M_readTile → G q k = G q k := fun _ _ _ _ => rfl
    obtain ⟨r_2, G_1, hq_3, hf⟩ := zx_bd_some hf
    have hg := zv_call hg (v_M_tableSize x1 G hq_3) (by decide) (by decide)
    rcases zx_if_some hf with ⟨hc_4, hf⟩ | ⟨hc_4, hf⟩
    · skip
      obtain ⟨x1_5, ex1_5, hf⟩ := zx_lt_some hf
      exact zv_tr hg (hk57 x1_5 G_1 hf)
    · skip
      obtain ⟨r_7, G_6, hq_8, hf⟩ := zx_bd_some hf
      have hg := zv_call hg (v_M_tableSize x1 G_1 hq_8) (by decide) (by decide)
      obtain ⟨hb_9, hf⟩ := zx_gd_some hf
      obtain ⟨hb_10, hf⟩ := zx_gd_some hf
      obtain ⟨G_11, eG_11, hf⟩ := zx_lt_some hf
      have hg := zv_ua hg eG_11 (by decide)
      obtain ⟨x2_12, ex2_12, hf⟩ := zx_lt_some hf
      exact zv_tr hg (ih x1 x2_12 G_11 hf)
theorem v_M_readTile_244 {r : Int32} {G1 : zx_G} {k133 : Int32 → zx_G → Option (Int32 × zx_G)} (hk133 : ∀ (x1 : Int32) (G : zx_G), k133 x1 G = some (r, G1) → ∀ q k, q ∉ A_M_readTile → (q, k) ∉ O_M_readTile → G1 q k = G q k) (x1 : Int32) (G : zx_G) (hf : f_M_readTile_244 k133 x1 G = some (r, G1)) : ∀ q k, q ∉ A_M_readTile → (q, k) ∉ O_M_readTile → G1 q k = G q k := by
  unfold f_M_readTile_244 at hf
  have hg : ∀ q k, q ∉ A_M_readTile → (q, k) ∉ O_M_readTile → G q k = G q k := fun _ _ _ _ => rfl
  obtain ⟨x1_1, ex1_1, hf⟩ := zx_lt_some hf
  exact zv_tr hg (hk133 x1_1 G hf)
theorem v_M_readTile_206 {r : Int32} {G1 : zx_G} {k133 : Int32 → zx_G → Option (Int32 × zx_G)} (hk133 : ∀ (x1 : Int32) (G : zx_G), k133 x1 G = some (r, G1) → ∀ q k, q ∉ A_M_readTile → (q, k) ∉ O_M_readTile → G1 q k = G q k) : ∀ (n : Nat) (x1 x2 x3 x4 x5 : Int32) (G : zx_G), f_M_readTile_206 k133 n x1 x2 x3 x4 x5 G = some (r, G1) → ∀ q k, q ∉ A_M_readTile → (q, k) ∉ O_M_readTile → G1 q k = G q k := by
  intro n
  induction n with
  | zero => intro x1 x2 x3 x4 x5 G hf; cases hf
  | succ n ih =>
    intro x1 x2 x3 x4 x5 G hf
    unfold f_M_readTile_206 at hf
    have hg : ∀ q k, q ∉ A_M_readTile → (q, k) ∉ O_M_readTile → G q k = G q k := fun _ _ _ _ => rfl
    rcases zx_if_some hf with ⟨hc_1, hf⟩ | ⟨hc_1, hf⟩
    · skip
      exact zv_tr hg (v_M_readTile_244 hk133 x1 G hf)
    · skip
      rcases zx_if_some hf with ⟨hc_2, hf⟩ | ⟨hc_2, hf⟩
      · skip
        exact zv_tr hg (v_M_readTile_244 hk133 x1 G hf)
      · skip
        obtain ⟨hb_3, hf⟩ := zx_gd_some hf
        obtain ⟨hb_4, hf⟩ := zx_gd_some hf
        obtain ⟨r_6, G_5, hq_7, hf⟩ := zx_bd_some hf
        have hg := zv_call hg (v_M_readBlock (x2 + ((zx_rem x5 (2 : Int32)) * (4 : Int32))) (x3 + ((zx_div x5 (2 : Int32)) * (4 : Int32))) (4 : Int32) G hq_7) (by decide) (by decide)
        obtain ⟨x5_8, ex5_8, hf⟩ := zx_lt_some hf
        exact zv_tr hg (ih x1 x2 x3 x4 x5_8 G_5 hf)
theorem v_M_readTile_203 {r : Int32} {G1 : zx_G} {k133 : Int32 → zx_G → Option (Int32 × zx_G)} (hk133 : ∀ (x1 : Int32) (G : zx_G), k133 x1 G = some (r, G1) → ∀ q k, q ∉ A_M_readTile → (q, k) ∉ O_M_readTile → G1 q k = G q k) (x1 x2 x3 x4 : Int32) (G : zx_G) (hf : f_M_readTile_203 k133 x1 x2 x3 x4 G = some (r, G1)) : ∀ q k, q ∉ A_M_readTile → (q, k) ∉ O_M_readTile → G1 q k = G q k := by
  unfold f_M_readTile_203 at hf
  have hg : ∀ q k, q ∉ A_M_readTile → (q, k) ∉ O_M_readTile → G q k = G q k := fun _ _ _ _ => rfl
  obtain ⟨x5_1, ex5_1, hf⟩ := zx_lt_some hf
  exact zv_tr hg (v_M_readTile_206 hk133 2048 x1 x2 x3 x4 x5_1 G hf)
theorem v_M_readTile_188 {r : Int32} {G1 : zx_G} {k133 : Int32 → zx_G → Option (Int32 × zx_G)} (hk133 : ∀ (x1 : Int32) (G : zx_G), k133 x1 G = some (r, G1) → ∀ q k, q ∉ A_M_readTile → (q, k) ∉ O_M_readTile → G1 q k = G q k) (x1 x2 x3 s0 : Int32) (G : zx_G) (hf : f_M_readTile_188 k133 x1 x2 x3 s0 G = some (r, G1)) : ∀ q k, q ∉ A_M_readTile → (q, k) ∉ O_M_readTile → G1 q k = G q k := by
  unfold f_M_readTile_188 at hf
  have hg : ∀ q k, q ∉ A_M_readTile → (q, k) ∉ O_M_readTile → G q k = G q k := fun _ _ _ _ => rfl
  obtain ⟨x4_1, ex4_1, hf⟩ := zx_lt_some hf
  rcases zx_if_some hf with ⟨hc_2, hf⟩ | ⟨hc_2, hf⟩
  · skip
    exact zv_tr hg (v_M_readTile_203 hk133 x1 x2 x3 x4_1 G hf)
  · skip
    obtain ⟨r_4, G_3, hq_5, hf⟩ := zx_bd_some hf
    have hg := zv_call hg (v_M_readBlock x2 x3 (8 : Int32) G hq_5) (by decide) (by decide)
    exact zv_tr hg (v_M_readTile_203 hk133 x1 x2 x3 x4_1 G_3 hf)
theorem v_M_readTile_187 {r : Int32} {G1 : zx_G} {k133 : Int32 → zx_G → Option (Int32 × zx_G)} (hk133 : ∀ (x1 : Int32) (G : zx_G), k133 x1 G = some (r, G1) → ∀ q k, q ∉ A_M_readTile → (q, k) ∉ O_M_readTile → G1 q k = G q k) (x1 x2 x3 : Int32) (G : zx_G) (hf : f_M_readTile_187 k133 x1 x2 x3 G = some (r, G1)) : ∀ q k, q ∉ A_M_readTile → (q, k) ∉ O_M_readTile → G1 q k = G q k := by
  unfold f_M_readTile_187 at hf
  have hg : ∀ q k, q ∉ A_M_readTile → (q, k) ∉ O_M_readTile → G q k = G q k := fun _ _ _ _ => rfl
  exact zv_tr hg (v_M_readTile_188 hk133 x1 x2 x3 (0 : Int32) G hf)
theorem v_M_readTile_133 {r : Int32} {G1 : zx_G} : ∀ (n : Nat) (x1 : Int32) (G : zx_G), f_M_readTile_133 n x1 G = some (r, G1) → ∀ q k, q ∉ A_M_readTile → (q, k) ∉ O_M_readTile → G1 q k = G q k := by
  intro n
  induction n with
  | zero => intro x1 G hf; cases hf
  | succ n ih =>
    intro x1 G hf
    unfold f_M_readTile_133 at hf
    have hg : ∀ q k, q ∉ A_M_readTile → (q, k) ∉ O_M_readTile → G q k = G q k := fun _ _ _ _ => rfl
    rcases zx_if_some hf with ⟨hc_1, hf⟩ | ⟨hc_1, hf⟩
    · skip
      exact zv_ret hg hf
    · skip
      obtain ⟨hb_2, hf⟩ := zx_gd_some hf
      obtain ⟨x2_3, ex2_3, hf⟩ := zx_lt_some hf
      obtain ⟨hb_4, hf⟩ := zx_gd_some hf
      obtain ⟨x3_5, ex3_5, hf⟩ := zx_lt_some hf
      rcases zx_if_some hf with ⟨hc_6, hf⟩ | ⟨hc_6, hf⟩
      · skip
        exact zv_tr hg (v_M_readTile_187 ih x1 x2_3 x3_5 G hf)
      · skip
        rcases zx_if_some hf with ⟨hc_7, hf⟩ | ⟨hc_7, hf⟩
        · skip
          exact zv_tr hg (v_M_readTile_187 ih x1 x2_3 x3_5 G hf)
        · skip
          rcases zx_if_some hf with ⟨hc_8, hf⟩ | ⟨hc_8, hf⟩
          · skip
            exact zv_tr hg (v_M_readTile_187 ih x1 x2_3 x3_5 G hf)
          · skip
            obtain ⟨r_10, G_9, hq_11, hf⟩ := zx_bd_some hf
            have hg := zv_call hg (v_M_symbol (1 : Int32) G hq_11) (by decide) (by decide)
            rcases zx_if_some hf with ⟨hc_12, hf⟩ | ⟨hc_12, hf⟩
            · skip
              exact zv_tr hg (v_M_readTile_187 ih x1 x2_3 x3_5 G_9 hf)
            · skip
              exact zv_tr hg (v_M_readTile_188 ih x1 x2_3 x3_5 (1 : Int32) G_9 hf)
theorem v_M_readTile_57 {r : Int32} {G1 : zx_G} : ∀ (n : Nat) (x1 : Int32) (G : zx_G), f_M_readTile_57 n x1 G = some (r, G1) → ∀ q k, q ∉ A_M_readTile → (q, k) ∉ O_M_readTile → G1 q k = G q k := by
  intro n
  induction n with
  | zero => intro x1 G hf; cases hf
  | succ n ih =>
    intro x1 G hf
    unfold f_M_readTile_57 at hf
    have hg : ∀ q k, q ∉ A_M_readTile → (q, k) ∉ O_M_readTile → G q k = G q k := fun _ _ _ _ => rfl
    rcases zx_if_some hf with ⟨hc_1, hf⟩ | ⟨hc_1, hf⟩
    · skip
      obtain ⟨r_3, G_2, hq_4, hf⟩ := zx_bd_some hf
      have hg := zv_call hg (v_M_symbol (0 : Int32) G hq_4) (by decide) (by decide)
      rcases zx_if_some hf with ⟨hc_5, hf⟩ | ⟨hc_5, hf⟩
      · skip
        obtain ⟨x1_6, ex1_6, hf⟩ := zx_lt_some hf
        exact zv_tr hg (v_M_readTile_133 2048 x1_6 G_2 hf)
      · skip
        obtain ⟨r_8, G_7, hq_9, hf⟩ := zx_bd_some hf
        have hg := zv_call hg (v_M_readBlock (0 : Int32) (0 : Int32) (16 : Int32) G_2 hq_9) (by decide) (by decide)
        exact zv_ret hg hf
    · skip
      obtain ⟨hb_10, hf⟩ := zx_gd_some hf
      obtain ⟨G_11, eG_11, hf⟩ := zx_lt_some hf
      have hg := zv_ua hg eG_11 (by decide)
      obtain ⟨x2_12, ex2_12, hf⟩ := zx_lt_some hf
      exact zv_tr hg (v_M_readTile_72 ih 2048 x1 x2_12 G_11 hf)
theorem v_M_readTile_12 {r : Int32} {G1 : zx_G} : ∀ (n : Nat) (x1 : Int32) (G : zx_G), f_M_readTile_12 n x1 G = some (r, G1) → ∀ q k, q ∉ A_M_readTile → (q, k) ∉ O_M_readTile → G1 q k = G q k := by
  intro n
  induction n with
  | zero => intro x1 G hf; cases hf
  | succ n ih =>
    intro x1 G hf
    unfold f_M_readTile_12 at hf
    have hg : ∀ q k, q ∉ A_M_readTile → (q, k) ∉ O_M_readTile → G q k = G q k := fun _ _ _ _ => rfl
    rcases zx_if_some hf with ⟨hc_1, hf⟩ | ⟨hc_1, hf⟩
    · skip
      obtain ⟨G_2, eG_2, hf⟩ := zx_lt_some hf
      have hg := zv_uo hg eG_2 (by decide)
      obtain ⟨G_3, eG_3, hf⟩ := zx_lt_some hf
      have hg := zv_uo hg eG_3 (by decide)
      obtain ⟨G_4, eG_4, hf⟩ := zx_lt_some hf
      have hg := zv_uo hg eG_4 (by decide)
      obtain ⟨x1_5, ex1_5, hf⟩ := zx_lt_some hf
      exact zv_tr hg (v_M_readTile_57 2048 x1_5 G_4 hf)
    · skip
      obtain ⟨r_7, G_6, hq_8, hf⟩ := zx_bd_some hf
      have hg := zv_call hg (v_M_nextBit G hq_8) (by decide) (by decide)
      obtain ⟨G_9, eG_9, hf⟩ := zx_lt_some hf
      have hg := zv_uo hg eG_9 (by decide)
      obtain ⟨x1_10, ex1_10, hf⟩ := zx_lt_some hf
      exact zv_tr hg (ih x1_10 G_9 hf)
theorem v_M_readTile_0 {r : Int32} {G1 : zx_G} (G : zx_G) (hf : f_M_readTile G = some (r, G1)) : ∀ q k, q ∉ A_M_readTile → (q, k) ∉ O_M_readTile → G1 q k = G q k := by
  unfold f_M_readTile at hf
  have hg : ∀ q k, q ∉ A_M_readTile → (q, k) ∉ O_M_readTile → G q k = G q k := fun _ _ _ _ => rfl
  obtain ⟨G_1, eG_1, hf⟩ := zx_lt_some hf
  have hg := zv_uo hg eG_1 (by decide)
  obtain ⟨G_2, eG_2, hf⟩ := zx_lt_some hf
  have hg := zv_uo hg eG_2 (by decide)
  obtain ⟨x1_3, ex1_3, hf⟩ := zx_lt_some hf
  exact zv_tr hg (v_M_readTile_12 2048 x1_3 G_2 hf)
theorem v_M_readTile (G : zx_G) {r : Int32} {G1 : zx_G} (hf : f_M_readTile G = some (r, G1)) : ∀ q k, q ∉ A_M_readTile → (q, k) ∉ O_M_readTile → G1 q k = G q k := v_M_readTile_0 G hf
abbrev A_M_number : List Nat := []
abbrev O_M_number : List (Nat × Nat) := [(32, 10), (32, 11)]
theorem v_M_number_4 {r : Int32} {G1 : zx_G} : ∀ (n : Nat) (x1 x2 x3 : Int32) (G : zx_G), f_M_number_4 n x1 x2 x3 G = some (r, G1) → ∀ q k, q ∉ A_M_number → (q, k) ∉ O_M_number → G1 q k = G q k := by
  intro n
  induction n with
  | zero => intro x1 x2 x3 G hf; cases hf
  | succ n ih =>
    intro x1 x2 x3 G hf
    unfold f_M_number_4 at hf
    have hg : ∀ q k, q ∉ A_M_number → (q, k) ∉ O_M_number → G q k = G q k := fun _ _ _ _ => rfl
    rcases zx_if_some hf with ⟨hc_1, hf⟩ | ⟨hc_1, hf⟩
    · skip
      exact zv_ret hg hf
    · skip
      rcases zx_if_some hf with ⟨hc_2, hf⟩ | ⟨hc_2, hf⟩
      · skip
        obtain ⟨hb_3, hf⟩ := zx_gd_some hf
        obtain ⟨hb_4, hf⟩ := zx_gd_some hf
        obtain ⟨hb_5, hf⟩ := zx_gd_some hf
        obtain ⟨x2_6, ex2_6, hf⟩ := zx_lt_some hf
        obtain ⟨G_7, eG_7, hf⟩ := zx_lt_some hf
        have hg := zv_uo hg eG_7 (by decide)
        obtain ⟨x3_8, ex3_8, hf⟩ := zx_lt_some hf
        exact zv_tr hg (ih x1 x2_6 x3_8 G_7 hf)
      · skip
        obtain ⟨r_10, G_9, hq_11, hf⟩ := zx_bd_some hf
        have hg := zv_call hg (v_M_fail (7 : Int32) G hq_11) (by decide) (by decide)
        exact zv_ret hg hf
theorem v_M_number_0 {r : Int32} {G1 : zx_G} (x1 : Int32) (G : zx_G) (hf : f_M_number x1 G = some (r, G1)) : ∀ q k, q ∉ A_M_number → (q, k) ∉ O_M_number → G1 q k = G q k := by
  unfold f_M_number at hf
  have hg : ∀ q k, q ∉ A_M_number → (q, k) ∉ O_M_number → G q k = G q k := fun _ _ _ _ => rfl
  obtain ⟨x2_1, ex2_1, hf⟩ := zx_lt_some hf
  obtain ⟨x3_2, ex3_2, hf⟩ := zx_lt_some hf
  exact zv_tr hg (v_M_number_4 2048 x1 x2_1 x3_2 G hf)
theorem v_M_number (x1 : Int32) (G : zx_G) {r : Int32} {G1 : zx_G} (hf : f_M_number x1 G = some (r, G1)) : ∀ q k, q ∉ A_M_number → (q, k) ∉ O_M_number → G1 q k = G q k := v_M_number_0 x1 G hf
abbrev A_M_barred : List Nat := []
abbrev O_M_barred : List (Nat × Nat) := [(32, 10), (32, 11)]
theorem v_M_barred_13 {r : Int32} {G1 : zx_G} (G : zx_G) (hf : f_M_barred_13 G = some (r, G1)) : ∀ q k, q ∉ A_M_barred → (q, k) ∉ O_M_barred → G1 q k = G q k := by
  unfold f_M_barred_13 at hf
  have hg : ∀ q k, q ∉ A_M_barred → (q, k) ∉ O_M_barred → G q k = G q k := fun _ _ _ _ => rfl
  exact zv_ret hg hf
theorem v_M_barred_0 {r : Int32} {G1 : zx_G} (x1 : Int32) (G : zx_G) (hf : f_M_barred x1 G = some (r, G1)) : ∀ q k, q ∉ A_M_barred → (q, k) ∉ O_M_barred → G1 q k = G q k := by
  unfold f_M_barred at hf
  have hg : ∀ q k, q ∉ A_M_barred → (q, k) ∉ O_M_barred → G q k = G q k := fun _ _ _ _ => rfl
  obtain ⟨r_2, G_1, hq_3, hf⟩ := zx_bd_some hf
  have hg := zv_call hg (v_M_number x1 G hq_3) (by decide) (by decide)
  rcases zx_if_some hf with ⟨hc_4, hf⟩ | ⟨hc_4, hf⟩
  · skip
    exact zv_tr hg (v_M_barred_13 G_1 hf)
  · skip
    obtain ⟨r_6, G_5, hq_7, hf⟩ := zx_bd_some hf
    have hg := zv_call hg (v_M_fail (5 : Int32) G_1 hq_7) (by decide) (by decide)
    exact zv_tr hg (v_M_barred_13 G_5 hf)
theorem v_M_barred (x1 : Int32) (G : zx_G) {r : Int32} {G1 : zx_G} (hf : f_M_barred x1 G = some (r, G1)) : ∀ q k, q ∉ A_M_barred → (q, k) ∉ O_M_barred → G1 q k = G q k := v_M_barred_0 x1 G hf
abbrev A_M_frame : List Nat := []
abbrev O_M_frame : List (Nat × Nat) := [(32, 10), (32, 11), (32, 21), (32, 22), (32, 23), (32, 24), (32, 25), (32, 26)]
theorem v_M_frame_56 {r : Int32} {G1 : zx_G} (s1 : Int32) (G : zx_G) (hf : f_M_frame_56 s1 G = some (r, G1)) : ∀ q k, q ∉ A_M_frame → (q, k) ∉ O_M_frame → G1 q k = G q k := by
  unfold f_M_frame_56 at hf
  have hg : ∀ q k, q ∉ A_M_frame → (q, k) ∉ O_M_frame → G q k = G q k := fun _ _ _ _ => rfl
  obtain ⟨G_1, eG_1, hf⟩ := zx_lt_some hf
  have hg := zv_uo hg eG_1 (by decide)
  obtain ⟨hb_2, hf⟩ := zx_gd_some hf
  obtain ⟨G_3, eG_3, hf⟩ := zx_lt_some hf
  have hg := zv_uo hg eG_3 (by decide)
  obtain ⟨G_4, eG_4, hf⟩ := zx_lt_some hf
  have hg := zv_uo hg eG_4 (by decide)
  exact zv_ret hg hf
theorem v_M_frame_0 {r : Int32} {G1 : zx_G} (G : zx_G) (hf : f_M_frame G = some (r, G1)) : ∀ q k, q ∉ A_M_frame → (q, k) ∉ O_M_frame → G1 q k = G q k := by
  unfold f_M_frame at hf
  have hg : ∀ q k, q ∉ A_M_frame → (q, k) ∉ O_M_frame → G q k = G q k := fun _ _ _ _ => rfl
  obtain ⟨r_2, G_1, hq_3, hf⟩ := zx_bd_some hf
  have hg := zv_call hg (v_M_barred (2 : Int32) G hq_3) (by decide) (by decide)
  obtain ⟨r_5, G_4, hq_6, hf⟩ := zx_bd_some hf
  have hg := zv_call hg (v_M_barred (1 : Int32) G_1 hq_6) (by decide) (by decide)
  obtain ⟨r_8, G_7, hq_9, hf⟩ := zx_bd_some hf
  have hg := zv_call hg (v_M_number (6 : Int32) G_4 hq_9) (by decide) (by decide)
  obtain ⟨G_10, eG_10, hf⟩ := zx_lt_some hf
  have hg := zv_uo hg eG_10 (by decide)
  obtain ⟨r_12, G_11, hq_13, hf⟩ := zx_bd_some hf
  have hg := zv_call hg (v_M_number (1 : Int32) G_10 hq_13) (by decide) (by decide)
  obtain ⟨G_14, eG_14, hf⟩ := zx_lt_some hf
  have hg := zv_uo hg eG_14 (by decide)
  obtain ⟨r_16, G_15, hq_17, hf⟩ := zx_bd_some hf
  have hg := zv_call hg (v_M_number (3 : Int32) G_14 hq_17) (by decide) (by decide)
  obtain ⟨G_18, eG_18, hf⟩ := zx_lt_some hf
  have hg := zv_uo hg eG_18 (by decide)
  rcases zx_if_some hf with ⟨hc_19, hf⟩ | ⟨hc_19, hf⟩
  · skip
    exact zv_tr hg (v_M_frame_56 (0 : Int32) G_18 hf)
  · skip
    obtain ⟨r_21, G_20, hq_22, hf⟩ := zx_bd_some hf
    have hg := zv_call hg (v_M_number (2 : Int32) G_18 hq_22) (by decide) (by decide)
    exact zv_tr hg (v_M_frame_56 r_21 G_20 hf)
theorem v_M_frame (G : zx_G) {r : Int32} {G1 : zx_G} (hf : f_M_frame G = some (r, G1)) : ∀ q k, q ∉ A_M_frame → (q, k) ∉ O_M_frame → G1 q k = G q k := v_M_frame_0 G hf
abbrev A_M_sequence : List Nat := []
abbrev O_M_sequence : List (Nat × Nat) := [(32, 10), (32, 11), (32, 16), (32, 17), (32, 18), (32, 19), (32, 20)]
theorem v_M_sequence_232 {r : Int32} {G1 : zx_G} {k191 : Int32 → Int32 → Int32 → zx_G → Option (Int32 × zx_G)} (hk191 : ∀ (x2 x3 x4 : Int32) (G : zx_G), k191 x2 x3 x4 G = some (r, G1) → ∀ q k, q ∉ A_M_sequence → (q, k) ∉ O_M_sequence → G1 q k = G q k) (x3 x4 s0 : Int32) (G : zx_G) (hf : f_M_sequence_232 k191 x3 x4 s0 G = some (r, G1)) : ∀ q k, q ∉ A_M_sequence → (q, k) ∉ O_M_sequence → G1 q k = G q k := by
  unfold f_M_sequence_232 at hf
  have hg : ∀ q k, q ∉ A_M_sequence → (q, k) ∉ O_M_sequence → G q k = G q k := fun _ _ _ _ => rfl
  obtain ⟨x2_1, ex2_1, hf⟩ := zx_lt_some hf
  obtain ⟨x4_2, ex4_2, hf⟩ := zx_lt_some hf
  exact zv_tr hg (hk191 x2_1 x3 x4_2 G hf)
theorem v_M_sequence_231 {r : Int32} {G1 : zx_G} {k191 : Int32 → Int32 → Int32 → zx_G → Option (Int32 × zx_G)} (hk191 : ∀ (x2 x3 x4 : Int32) (G : zx_G), k191 x2 x3 x4 G = some (r, G1) → ∀ q k, q ∉ A_M_sequence → (q, k) ∉ O_M_sequence → G1 q k = G q k) (x3 x4 : Int32) (G : zx_G) (hf : f_M_sequence_231 k191 x3 x4 G = some (r, G1)) : ∀ q k, q ∉ A_M_sequence → (q, k) ∉ O_M_sequence → G1 q k = G q k := by
  unfold f_M_sequence_231 at hf
  have hg : ∀ q k, q ∉ A_M_sequence → (q, k) ∉ O_M_sequence → G q k = G q k := fun _ _ _ _ => rfl
  exact zv_tr hg (v_M_sequence_232 hk191 x3 x4 (0 : Int32) G hf)
theorem v_M_sequence_249 {r : Int32} {G1 : zx_G} (G : zx_G) (hf : f_M_sequence_249 G = some (r, G1)) : ∀ q k, q ∉ A_M_sequence → (q, k) ∉ O_M_sequence → G1 q k = G q k := by
  unfold f_M_sequence_249 at hf
  have hg : ∀ q k, q ∉ A_M_sequence → (q, k) ∉ O_M_sequence → G q k = G q k := fun _ _ _ _ => rfl
  exact zv_ret hg hf
theorem v_M_sequence_239 {r : Int32} {G1 : zx_G} (x2 : Int32) (G : zx_G) (hf : f_M_sequence_239 x2 G = some (r, G1)) : ∀ q k, q ∉ A_M_sequence → (q, k) ∉ O_M_sequence → G1 q k = G q k := by
  unfold f_M_sequence_239 at hf
  have hg : ∀ q k, q ∉ A_M_sequence → (q, k) ∉ O_M_sequence → G q k = G q k := fun _ _ _ _ => rfl
  rcases zx_if_some hf with ⟨hc_1, hf⟩ | ⟨hc_1, hf⟩
  · skip
    exact zv_tr hg (v_M_sequence_249 G hf)
  · skip
    obtain ⟨r_3, G_2, hq_4, hf⟩ := zx_bd_some hf
    have hg := zv_call hg (v_M_fail (6 : Int32) G hq_4) (by decide) (by decide)
    exact zv_tr hg (v_M_sequence_249 G_2 hf)
theorem v_M_sequence_191 {r : Int32} {G1 : zx_G} : ∀ (n : Nat) (x2 x3 x4 : Int32) (G : zx_G), f_M_sequence_191 n x2 x3 x4 G = some (r, G1) → ∀ q k, q ∉ A_M_sequence → (q, k) ∉ O_M_sequence → G1 q k = G q k := by
  intro n
  induction n with
  | zero => intro x2 x3 x4 G hf; cases hf
  | succ n ih =>
    intro x2 x3 x4 G hf
    unfold f_M_sequence_191 at hf
    have hg : ∀ q k, q ∉ A_M_sequence → (q, k) ∉ O_M_sequence → G q k = G q k := fun _ _ _ _ => rfl
    obtain ⟨hb_1, hf⟩ := zx_gd_some hf
    rcases zx_if_some hf with ⟨hc_2, hf⟩ | ⟨hc_2, hf⟩
    · skip
      exact zv_tr hg (v_M_sequence_239 x2 G hf)
    · skip
      rcases zx_if_some hf with ⟨hc_3, hf⟩ | ⟨hc_3, hf⟩
      · skip
        exact zv_tr hg (v_M_sequence_231 ih x3 x4 G hf)
      · skip
        obtain ⟨hb_4, hf⟩ := zx_gd_some hf
        rcases zx_if_some hf with ⟨hc_5, hf⟩ | ⟨hc_5, hf⟩
        · skip
          exact zv_tr hg (v_M_sequence_231 ih x3 x4 G hf)
        · skip
          exact zv_tr hg (v_M_sequence_232 ih x3 x4 (1 : Int32) G hf)
theorem v_M_sequence_187 {r : Int32} {G1 : zx_G} (x3 s0 : Int32) (G : zx_G) (hf : f_M_sequence_187 x3 s0 G = some (r, G1)) : ∀ q k, q ∉ A_M_sequence → (q, k) ∉ O_M_sequence → G1 q k = G q k := by
  unfold f_M_sequence_187 at hf
  have hg : ∀ q k, q ∉ A_M_sequence → (q, k) ∉ O_M_sequence → G q k = G q k := fun _ _ _ _ => rfl
  obtain ⟨x2_1, ex2_1, hf⟩ := zx_lt_some hf
  obtain ⟨x4_2, ex4_2, hf⟩ := zx_lt_some hf
  exact zv_tr hg (v_M_sequence_191 2048 x2_1 x3 x4_2 G hf)
theorem v_M_sequence_186 {r : Int32} {G1 : zx_G} (x3 : Int32) (G : zx_G) (hf : f_M_sequence_186 x3 G = some (r, G1)) : ∀ q k, q ∉ A_M_sequence → (q, k) ∉ O_M_sequence → G1 q k = G q k := by
  unfold f_M_sequence_186 at hf
  have hg : ∀ q k, q ∉ A_M_sequence → (q, k) ∉ O_M_sequence → G q k = G q k := fun _ _ _ _ => rfl
  exact zv_tr hg (v_M_sequence_187 x3 (0 : Int32) G hf)
theorem v_M_sequence_143 {r : Int32} {G1 : zx_G} (s0 : Int32) (G : zx_G) (hf : f_M_sequence_143 s0 G = some (r, G1)) : ∀ q k, q ∉ A_M_sequence → (q, k) ∉ O_M_sequence → G1 q k = G q k := by
  unfold f_M_sequence_143 at hf
  have hg : ∀ q k, q ∉ A_M_sequence → (q, k) ∉ O_M_sequence → G q k = G q k := fun _ _ _ _ => rfl
  obtain ⟨x2_1, ex2_1, hf⟩ := zx_lt_some hf
  rcases zx_if_some hf with ⟨hc_2, hf⟩ | ⟨hc_2, hf⟩
  · skip
    exact zv_tr hg (v_M_sequence_239 x2_1 G hf)
  · skip
    obtain ⟨hb_3, hf⟩ := zx_gd_some hf
    obtain ⟨x3_4, ex3_4, hf⟩ := zx_lt_some hf
    rcases zx_if_some hf with ⟨hc_5, hf⟩ | ⟨hc_5, hf⟩
    · skip
      exact zv_tr hg (v_M_sequence_186 x3_4 G hf)
    · skip
      obtain ⟨hb_6, hf⟩ := zx_gd_some hf
      rcases zx_if_some hf with ⟨hc_7, hf⟩ | ⟨hc_7, hf⟩
      · skip
        exact zv_tr hg (v_M_sequence_186 x3_4 G hf)
      · skip
        exact zv_tr hg (v_M_sequence_187 x3_4 (1 : Int32) G hf)
theorem v_M_sequence_142 {r : Int32} {G1 : zx_G} (G : zx_G) (hf : f_M_sequence_142 G = some (r, G1)) : ∀ q k, q ∉ A_M_sequence → (q, k) ∉ O_M_sequence → G1 q k = G q k := by
  unfold f_M_sequence_142 at hf
  have hg : ∀ q k, q ∉ A_M_sequence → (q, k) ∉ O_M_sequence → G q k = G q k := fun _ _ _ _ => rfl
  exact zv_tr hg (v_M_sequence_143 (0 : Int32) G hf)
theorem v_M_sequence_22 {r : Int32} {G1 : zx_G} (G : zx_G) (hf : f_M_sequence_22 G = some (r, G1)) : ∀ q k, q ∉ A_M_sequence → (q, k) ∉ O_M_sequence → G1 q k = G q k := by
  unfold f_M_sequence_22 at hf
  have hg : ∀ q k, q ∉ A_M_sequence → (q, k) ∉ O_M_sequence → G q k = G q k := fun _ _ _ _ => rfl
  obtain ⟨r_2, G_1, hq_3, hf⟩ := zx_bd_some hf
  have hg := zv_call hg (v_M_number (1 : Int32) G hq_3) (by decide) (by decide)
  obtain ⟨G_4, eG_4, hf⟩ := zx_lt_some hf
  have hg := zv_uo hg eG_4 (by decide)
  obtain ⟨r_6, G_5, hq_7, hf⟩ := zx_bd_some hf
  have hg := zv_call hg (v_M_number (4 : Int32) G_4 hq_7) (by decide) (by decide)
  obtain ⟨G_8, eG_8, hf⟩ := zx_lt_some hf
  have hg := zv_uo hg eG_8 (by decide)
  obtain ⟨r_10, G_9, hq_11, hf⟩ := zx_bd_some hf
  have hg := zv_call hg (v_M_number (4 : Int32) G_8 hq_11) (by decide) (by decide)
  obtain ⟨G_12, eG_12, hf⟩ := zx_lt_some hf
  have hg := zv_uo hg eG_12 (by decide)
  obtain ⟨r_14, G_13, hq_15, hf⟩ := zx_bd_some hf
  have hg := zv_call hg (v_M_barred (1 : Int32) G_12 hq_15) (by decide) (by decide)
  obtain ⟨r_17, G_16, hq_18, hf⟩ := zx_bd_some hf
  have hg := zv_call hg (v_M_barred (1 : Int32) G_13 hq_18) (by decide) (by decide)
  obtain ⟨r_20, G_19, hq_21, hf⟩ := zx_bd_some hf
  have hg := zv_call hg (v_M_number (1 : Int32) G_16 hq_21) (by decide) (by decide)
  obtain ⟨G_22, eG_22, hf⟩ := zx_lt_some hf
  have hg := zv_uo hg eG_22 (by decide)
  obtain ⟨hb_23, hf⟩ := zx_gd_some hf
  obtain ⟨x1_24, ex1_24, hf⟩ := zx_lt_some hf
  obtain ⟨hb_25, hf⟩ := zx_gd_some hf
  rcases zx_if_some hf with ⟨hc_26, hf⟩ | ⟨hc_26, hf⟩
  · skip
    exact zv_tr hg (v_M_sequence_142 G_22 hf)
  · skip
    obtain ⟨hb_27, hf⟩ := zx_gd_some hf
    rcases zx_if_some hf with ⟨hc_28, hf⟩ | ⟨hc_28, hf⟩
    · skip
      exact zv_tr hg (v_M_sequence_142 G_22 hf)
    · skip
      obtain ⟨hb_29, hf⟩ := zx_gd_some hf
      obtain ⟨hb_30, hf⟩ := zx_gd_some hf
      rcases zx_if_some hf with ⟨hc_31, hf⟩ | ⟨hc_31, hf⟩
      · skip
        exact zv_tr hg (v_M_sequence_142 G_22 hf)
      · skip
        exact zv_tr hg (v_M_sequence_143 (1 : Int32) G_22 hf)
theorem v_M_sequence_0 {r : Int32} {G1 : zx_G} (G : zx_G) (hf : f_M_sequence G = some (r, G1)) : ∀ q k, q ∉ A_M_sequence → (q, k) ∉ O_M_sequence → G1 q k = G q k := by
  unfold f_M_sequence at hf
  have hg : ∀ q k, q ∉ A_M_sequence → (q, k) ∉ O_M_sequence → G q k = G q k := fun _ _ _ _ => rfl
  obtain ⟨r_2, G_1, hq_3, hf⟩ := zx_bd_some hf
  have hg := zv_call hg (v_M_number (2 : Int32) G hq_3) (by decide) (by decide)
  obtain ⟨G_4, eG_4, hf⟩ := zx_lt_some hf
  have hg := zv_uo hg eG_4 (by decide)
  rcases zx_if_some hf with ⟨hc_5, hf⟩ | ⟨hc_5, hf⟩
  · skip
    exact zv_tr hg (v_M_sequence_22 G_4 hf)
  · skip
    obtain ⟨r_7, G_6, hq_8, hf⟩ := zx_bd_some hf
    have hg := zv_call hg (v_M_fail (5 : Int32) G_4 hq_8) (by decide) (by decide)
    exact zv_tr hg (v_M_sequence_22 G_6 hf)
theorem v_M_sequence (G : zx_G) {r : Int32} {G1 : zx_G} (hf : f_M_sequence G = some (r, G1)) : ∀ q k, q ∉ A_M_sequence → (q, k) ∉ O_M_sequence → G1 q k = G q k := v_M_sequence_0 G hf
abbrev A_M_units : List Nat := []
abbrev O_M_units : List (Nat × Nat) := [(32, 10), (32, 11), (32, 12), (32, 16), (32, 17), (32, 18), (32, 19), (32, 20), (32, 21), (32, 22), (32, 23), (32, 24), (32, 25), (32, 26)]
theorem v_M_units_198 {r : Int32} {G1 : zx_G} {k6 : Int32 → Int32 → Int32 → zx_G → Option (Int32 × zx_G)} {k82 : Int32 → Int32 → Int32 → Int32 → Int32 → Int32 → zx_G → Option (Int32 × zx_G)} (hk6 : ∀ (x1 x2 x3 : Int32) (G : zx_G), k6 x1 x2 x3 G = some (r, G1) → ∀ q k, q ∉ A_M_units → (q, k) ∉ O_M_units → G1 q k = G q k) (hk82 : ∀ (x1 x2 x3 x4 x5 x6 : Int32) (G : zx_G), k82 x1 x2 x3 x4 x5 x6 G = some (r, G1) → ∀ q k, q ∉ A_M_units → (q, k) ∉ O_M_units → G1 q k = G q k) (x1 x2 x3 x4 x5 x6 : Int32) (G : zx_G) (hf : f_M_units_198 k6 k82 x1 x2 x3 x4 x5 x6 G = some (r, G1)) : ∀ q k, q ∉ A_M_units → (q, k) ∉ O_M_units → G1 q k = G q k := by
  unfold f_M_units_198 at hf
  have hg : ∀ q k, q ∉ A_M_units → (q, k) ∉ O_M_units → G q k = G q k := fun _ _ _ _ => rfl
  obtain ⟨x6_1, ex6_1, hf⟩ := zx_lt_some hf
  exact zv_tr hg (hk82 x1 x2 x3 x4 x5 x6_1 G hf)
theorem v_M_units_179 {r : Int32} {G1 : zx_G} {k6 : Int32 → Int32 → Int32 → zx_G → Option (Int32 × zx_G)} {k82 : Int32 → Int32 → Int32 → Int32 → Int32 → Int32 → zx_G → Option (Int32 × zx_G)} (hk6 : ∀ (x1 x2 x3 : Int32) (G : zx_G), k6 x1 x2 x3 G = some (r, G1) → ∀ q k, q ∉ A_M_units → (q, k) ∉ O_M_units → G1 q k = G q k) (hk82 : ∀ (x1 x2 x3 x4 x5 x6 : Int32) (G : zx_G), k82 x1 x2 x3 x4 x5 x6 G = some (r, G1) → ∀ q k, q ∉ A_M_units → (q, k) ∉ O_M_units → G1 q k = G q k) (x1 x2 x3 x4 x6 x7 s0 : Int32) (G : zx_G) (hf : f_M_units_179 k6 k82 x1 x2 x3 x4 x6 x7 s0 G = some (r, G1)) : ∀ q k, q ∉ A_M_units → (q, k) ∉ O_M_units → G1 q k = G q k := by
  unfold f_M_units_179 at hf
  have hg : ∀ q k, q ∉ A_M_units → (q, k) ∉ O_M_units → G q k = G q k := fun _ _ _ _ => rfl
  obtain ⟨x5_1, ex5_1, hf⟩ := zx_lt_some hf
  obtain ⟨x1_2, ex1_2, hf⟩ := zx_lt_some hf
  rcases zx_if_some hf with ⟨hc_3, hf⟩ | ⟨hc_3, hf⟩
  · skip
    exact zv_tr hg (v_M_units_198 hk6 hk82 x1_2 x2 x3 x4 x5_1 x6 G hf)
  · skip
    obtain ⟨x4_4, ex4_4, hf⟩ := zx_lt_some hf
    exact zv_tr hg (v_M_units_198 hk6 hk82 x1_2 x2 x3 x4_4 x5_1 x6 G hf)
theorem v_M_units_152 {r : Int32} {G1 : zx_G} {k6 : Int32 → Int32 → Int32 → zx_G → Option (Int32 × zx_G)} {k82 : Int32 → Int32 → Int32 → Int32 → Int32 → Int32 → zx_G → Option (Int32 × zx_G)} (hk6 : ∀ (x1 x2 x3 : Int32) (G : zx_G), k6 x1 x2 x3 G = some (r, G1) → ∀ q k, q ∉ A_M_units → (q, k) ∉ O_M_units → G1 q k = G q k) (hk82 : ∀ (x1 x2 x3 x4 x5 x6 : Int32) (G : zx_G), k82 x1 x2 x3 x4 x5 x6 G = some (r, G1) → ∀ q k, q ∉ A_M_units → (q, k) ∉ O_M_units → G1 q k = G q k) (x1 x2 x3 x4 x5 x6 x7 : Int32) (G : zx_G) (hf : f_M_units_152 k6 k82 x1 x2 x3 x4 x5 x6 x7 G = some (r, G1)) : ∀ q k, q ∉ A_M_units → (q, k) ∉ O_M_units → G1 q k = G q k := by
  unfold f_M_units_152 at hf
  have hg : ∀ q k, q ∉ A_M_units → (q, k) ∉ O_M_units → G q k = G q k := fun _ _ _ _ => rfl
  rcases zx_if_some hf with ⟨hc_1, hf⟩ | ⟨hc_1, hf⟩
  · skip
    exact zv_tr hg (v_M_units_179 hk6 hk82 x1 x2 x3 x4 x6 x7 (x5 + ((x7 &&& (127 : Int32)) <<< (((7 : Int32) * x6) &&& 31))) G hf)
  · skip
    exact zv_tr hg (v_M_units_179 hk6 hk82 x1 x2 x3 x4 x6 x7 (x7 &&& (127 : Int32)) G hf)
theorem v_M_units_146 {r : Int32} {G1 : zx_G} {k6 : Int32 → Int32 → Int32 → zx_G → Option (Int32 × zx_G)} {k82 : Int32 → Int32 → Int32 → Int32 → Int32 → Int32 → zx_G → Option (Int32 × zx_G)} (hk6 : ∀ (x1 x2 x3 : Int32) (G : zx_G), k6 x1 x2 x3 G = some (r, G1) → ∀ q k, q ∉ A_M_units → (q, k) ∉ O_M_units → G1 q k = G q k) (hk82 : ∀ (x1 x2 x3 x4 x5 x6 : Int32) (G : zx_G), k82 x1 x2 x3 x4 x5 x6 G = some (r, G1) → ∀ q k, q ∉ A_M_units → (q, k) ∉ O_M_units → G1 q k = G q k) (x1 x2 x3 x4 x5 x6 x7 : Int32) (G : zx_G) (hf : f_M_units_146 k6 k82 x1 x2 x3 x4 x5 x6 x7 G = some (r, G1)) : ∀ q k, q ∉ A_M_units → (q, k) ∉ O_M_units → G1 q k = G q k := by
  unfold f_M_units_146 at hf
  have hg : ∀ q k, q ∉ A_M_units → (q, k) ∉ O_M_units → G q k = G q k := fun _ _ _ _ => rfl
  obtain ⟨r_2, G_1, hq_3, hf⟩ := zx_bd_some hf
  have hg := zv_call hg (v_M_fail (7 : Int32) G hq_3) (by decide) (by decide)
  exact zv_tr hg (v_M_units_152 hk6 hk82 x1 x2 x3 x4 x5 x6 x7 G_1 hf)
theorem v_M_units_122 {r : Int32} {G1 : zx_G} {k6 : Int32 → Int32 → Int32 → zx_G → Option (Int32 × zx_G)} {k82 : Int32 → Int32 → Int32 → Int32 → Int32 → Int32 → zx_G → Option (Int32 × zx_G)} (hk6 : ∀ (x1 x2 x3 : Int32) (G : zx_G), k6 x1 x2 x3 G = some (r, G1) → ∀ q k, q ∉ A_M_units → (q, k) ∉ O_M_units → G1 q k = G q k) (hk82 : ∀ (x1 x2 x3 x4 x5 x6 : Int32) (G : zx_G), k82 x1 x2 x3 x4 x5 x6 G = some (r, G1) → ∀ q k, q ∉ A_M_units → (q, k) ∉ O_M_units → G1 q k = G q k) (x1 x2 x3 x4 x5 x6 s0 : Int32) (G : zx_G) (hf : f_M_units_122 k6 k82 x1 x2 x3 x4 x5 x6 s0 G = some (r, G1)) : ∀ q k, q ∉ A_M_units → (q, k) ∉ O_M_units → G1 q k = G q k := by
  unfold f_M_units_122 at hf
  have hg : ∀ q k, q ∉ A_M_units → (q, k) ∉ O_M_units → G q k = G q k := fun _ _ _ _ => rfl
  obtain ⟨x7_1, ex7_1, hf⟩ := zx_lt_some hf
  rcases zx_if_some hf with ⟨hc_2, hf⟩ | ⟨hc_2, hf⟩
  · skip
    exact zv_tr hg (v_M_units_146 hk6 hk82 x1 x2 x3 x4 x5 x6 x7_1 G hf)
  · skip
    rcases zx_if_some hf with ⟨hc_3, hf⟩ | ⟨hc_3, hf⟩
    · skip
      exact zv_tr hg (v_M_units_152 hk6 hk82 x1 x2 x3 x4 x5 x6 x7_1 G hf)
    · skip
      rcases zx_if_some hf with ⟨hc_4, hf⟩ | ⟨hc_4, hf⟩
      · skip
        exact zv_tr hg (v_M_units_152 hk6 hk82 x1 x2 x3 x4 x5 x6 x7_1 G hf)
      · skip
        exact zv_tr hg (v_M_units_146 hk6 hk82 x1 x2 x3 x4 x5 x6 x7_1 G hf)
theorem v_M_units_329 {r : Int32} {G1 : zx_G} {k6 : Int32 → Int32 → Int32 → zx_G → Option (Int32 × zx_G)} (hk6 : ∀ (x1 x2 x3 : Int32) (G : zx_G), k6 x1 x2 x3 G = some (r, G1) → ∀ q k, q ∉ A_M_units → (q, k) ∉ O_M_units → G1 q k = G q k) (x1 x2 x3 : Int32) (G : zx_G) (hf : f_M_units_329 k6 x1 x2 x3 G = some (r, G1)) : ∀ q k, q ∉ A_M_units → (q, k) ∉ O_M_units → G1 q k = G q k := by
  unfold f_M_units_329 at hf
  have hg : ∀ q k, q ∉ A_M_units → (q, k) ∉ O_M_units → G q k = G q k := fun _ _ _ _ => rfl
  exact zv_tr hg (hk6 x1 x2 x3 G hf)
theorem v_M_units_323 {r : Int32} {G1 : zx_G} {k6 : Int32 → Int32 → Int32 → zx_G → Option (Int32 × zx_G)} (hk6 : ∀ (x1 x2 x3 : Int32) (G : zx_G), k6 x1 x2 x3 G = some (r, G1) → ∀ q k, q ∉ A_M_units → (q, k) ∉ O_M_units → G1 q k = G q k) (x1 x2 x5 s0 : Int32) (G : zx_G) (hf : f_M_units_323 k6 x1 x2 x5 s0 G = some (r, G1)) : ∀ q k, q ∉ A_M_units → (q, k) ∉ O_M_units → G1 q k = G q k := by
  unfold f_M_units_323 at hf
  have hg : ∀ q k, q ∉ A_M_units → (q, k) ∉ O_M_units → G q k = G q k := fun _ _ _ _ => rfl
  obtain ⟨x3_1, ex3_1, hf⟩ := zx_lt_some hf
  obtain ⟨x1_2, ex1_2, hf⟩ := zx_lt_some hf
  exact zv_tr hg (v_M_units_329 hk6 x1_2 x2 x3_1 G hf)
theorem v_M_units_308 {r : Int32} {G1 : zx_G} {k6 : Int32 → Int32 → Int32 → zx_G → Option (Int32 × zx_G)} (hk6 : ∀ (x1 x2 x3 : Int32) (G : zx_G), k6 x1 x2 x3 G = some (r, G1) → ∀ q k, q ∉ A_M_units → (q, k) ∉ O_M_units → G1 q k = G q k) (x1 x4 x5 s0 : Int32) (G : zx_G) (hf : f_M_units_308 k6 x1 x4 x5 s0 G = some (r, G1)) : ∀ q k, q ∉ A_M_units → (q, k) ∉ O_M_units → G1 q k = G q k := by
  unfold f_M_units_308 at hf
  have hg : ∀ q k, q ∉ A_M_units → (q, k) ∉ O_M_units → G q k = G q k := fun _ _ _ _ => rfl
  obtain ⟨x2_1, ex2_1, hf⟩ := zx_lt_some hf
  rcases zx_if_some hf with ⟨hc_2, hf⟩ | ⟨hc_2, hf⟩
  · skip
    exact zv_tr hg (v_M_units_323 hk6 x1 x2_1 x5 (0 : Int32) G hf)
  · skip
    exact zv_tr hg (v_M_units_323 hk6 x1 x2_1 x5 (1 : Int32) G hf)
theorem v_M_units_303 {r : Int32} {G1 : zx_G} {k6 : Int32 → Int32 → Int32 → zx_G → Option (Int32 × zx_G)} (hk6 : ∀ (x1 x2 x3 : Int32) (G : zx_G), k6 x1 x2 x3 G = some (r, G1) → ∀ q k, q ∉ A_M_units → (q, k) ∉ O_M_units → G1 q k = G q k) (x1 x4 x5 : Int32) (G : zx_G) (hf : f_M_units_303 k6 x1 x4 x5 G = some (r, G1)) : ∀ q k, q ∉ A_M_units → (q, k) ∉ O_M_units → G1 q k = G q k := by
  unfold f_M_units_303 at hf
  have hg : ∀ q k, q ∉ A_M_units → (q, k) ∉ O_M_units → G q k = G q k := fun _ _ _ _ => rfl
  exact zv_tr hg (v_M_units_308 hk6 x1 x4 x5 (1 : Int32) G hf)
theorem v_M_units_291 {r : Int32} {G1 : zx_G} {k6 : Int32 → Int32 → Int32 → zx_G → Option (Int32 × zx_G)} (hk6 : ∀ (x1 x2 x3 : Int32) (G : zx_G), k6 x1 x2 x3 G = some (r, G1) → ∀ q k, q ∉ A_M_units → (q, k) ∉ O_M_units → G1 q k = G q k) (x1 x2 x4 x5 : Int32) (G : zx_G) (hf : f_M_units_291 k6 x1 x2 x4 x5 G = some (r, G1)) : ∀ q k, q ∉ A_M_units → (q, k) ∉ O_M_units → G1 q k = G q k := by
  unfold f_M_units_291 at hf
  have hg : ∀ q k, q ∉ A_M_units → (q, k) ∉ O_M_units → G q k = G q k := fun _ _ _ _ => rfl
  rcases zx_if_some hf with ⟨hc_1, hf⟩ | ⟨hc_1, hf⟩
  · skip
    exact zv_tr hg (v_M_units_303 hk6 x1 x4 x5 G hf)
  · skip
    rcases zx_if_some hf with ⟨hc_2, hf⟩ | ⟨hc_2, hf⟩
    · skip
      exact zv_tr hg (v_M_units_308 hk6 x1 x4 x5 (0 : Int32) G hf)
    · skip
      exact zv_tr hg (v_M_units_303 hk6 x1 x4 x5 G hf)
theorem v_M_units_278 {r : Int32} {G1 : zx_G} {k6 : Int32 → Int32 → Int32 → zx_G → Option (Int32 × zx_G)} (hk6 : ∀ (x1 x2 x3 : Int32) (G : zx_G), k6 x1 x2 x3 G = some (r, G1) → ∀ q k, q ∉ A_M_units → (q, k) ∉ O_M_units → G1 q k = G q k) (x1 x2 x4 x5 : Int32) (G : zx_G) (hf : f_M_units_278 k6 x1 x2 x4 x5 G = some (r, G1)) : ∀ q k, q ∉ A_M_units → (q, k) ∉ O_M_units → G1 q k = G q k := by
  unfold f_M_units_278 at hf
  have hg : ∀ q k, q ∉ A_M_units → (q, k) ∉ O_M_units → G q k = G q k := fun _ _ _ _ => rfl
  rcases zx_if_some hf with ⟨hc_1, hf⟩ | ⟨hc_1, hf⟩
  · skip
    exact zv_tr hg (v_M_units_291 hk6 x1 x2 x4 x5 G hf)
  · skip
    obtain ⟨r_3, G_2, hq_4, hf⟩ := zx_bd_some hf
    have hg := zv_call hg (v_M_frame G hq_4) (by decide) (by decide)
    exact zv_tr hg (v_M_units_291 hk6 x1 x2 x4 x5 G_2 hf)
theorem v_M_units_247 {r : Int32} {G1 : zx_G} {k6 : Int32 → Int32 → Int32 → zx_G → Option (Int32 × zx_G)} (hk6 : ∀ (x1 x2 x3 : Int32) (G : zx_G), k6 x1 x2 x3 G = some (r, G1) → ∀ q k, q ∉ A_M_units → (q, k) ∉ O_M_units → G1 q k = G q k) (x1 x2 x4 x5 : Int32) (G : zx_G) (hf : f_M_units_247 k6 x1 x2 x4 x5 G = some (r, G1)) : ∀ q k, q ∉ A_M_units → (q, k) ∉ O_M_units → G1 q k = G q k := by
  unfold f_M_units_247 at hf
  have hg : ∀ q k, q ∉ A_M_units → (q, k) ∉ O_M_units → G q k = G q k := fun _ _ _ _ => rfl
  obtain ⟨G_1, eG_1, hf⟩ := zx_lt_some hf
  have hg := zv_uo hg eG_1 (by decide)
  obtain ⟨G_2, eG_2, hf⟩ := zx_lt_some hf
  have hg := zv_uo hg eG_2 (by decide)
  rcases zx_if_some hf with ⟨hc_3, hf⟩ | ⟨hc_3, hf⟩
  · skip
    exact zv_tr hg (v_M_units_278 hk6 x1 x2 x4 x5 G_2 hf)
  · skip
    obtain ⟨r_5, G_4, hq_6, hf⟩ := zx_bd_some hf
    have hg := zv_call hg (v_M_sequence G_2 hq_6) (by decide) (by decide)
    exact zv_tr hg (v_M_units_278 hk6 x1 x2 x4 x5 G_4 hf)
theorem v_M_units_221 {r : Int32} {G1 : zx_G} {k6 : Int32 → Int32 → Int32 → zx_G → Option (Int32 × zx_G)} (hk6 : ∀ (x1 x2 x3 : Int32) (G : zx_G), k6 x1 x2 x3 G = some (r, G1) → ∀ q k, q ∉ A_M_units → (q, k) ∉ O_M_units → G1 q k = G q k) (x1 x2 x3 x4 x5 : Int32) (G : zx_G) (hf : f_M_units_221 k6 x1 x2 x3 x4 x5 G = some (r, G1)) : ∀ q k, q ∉ A_M_units → (q, k) ∉ O_M_units → G1 q k = G q k := by
  unfold f_M_units_221 at hf
  have hg : ∀ q k, q ∉ A_M_units → (q, k) ∉ O_M_units → G q k = G q k := fun _ _ _ _ => rfl
  rcases zx_if_some hf with ⟨hc_1, hf⟩ | ⟨hc_1, hf⟩
  · skip
    exact zv_tr hg (v_M_units_329 hk6 x1 x2 x3 G hf)
  · skip
    rcases zx_if_some hf with ⟨hc_2, hf⟩ | ⟨hc_2, hf⟩
    · skip
      exact zv_tr hg (v_M_units_247 hk6 x1 x2 x4 x5 G hf)
    · skip
      rcases zx_if_some hf with ⟨hc_3, hf⟩ | ⟨hc_3, hf⟩
      · skip
        exact zv_tr hg (v_M_units_247 hk6 x1 x2 x4 x5 G hf)
      · skip
        obtain ⟨r_5, G_4, hq_6, hf⟩ := zx_bd_some hf
        have hg := zv_call hg (v_M_fail (7 : Int32) G hq_6) (by decide) (by decide)
        exact zv_tr hg (v_M_units_247 hk6 x1 x2 x4 x5 G_4 hf)
theorem v_M_units_204 {r : Int32} {G1 : zx_G} {k6 : Int32 → Int32 → Int32 → zx_G → Option (Int32 × zx_G)} (hk6 : ∀ (x1 x2 x3 : Int32) (G : zx_G), k6 x1 x2 x3 G = some (r, G1) → ∀ q k, q ∉ A_M_units → (q, k) ∉ O_M_units → G1 q k = G q k) (x1 x2 x3 x4 x5 : Int32) (G : zx_G) (hf : f_M_units_204 k6 x1 x2 x3 x4 x5 G = some (r, G1)) : ∀ q k, q ∉ A_M_units → (q, k) ∉ O_M_units → G1 q k = G q k := by
  unfold f_M_units_204 at hf
  have hg : ∀ q k, q ∉ A_M_units → (q, k) ∉ O_M_units → G q k = G q k := fun _ _ _ _ => rfl
  rcases zx_if_some hf with ⟨hc_1, hf⟩ | ⟨hc_1, hf⟩
  · skip
    exact zv_tr hg (v_M_units_221 hk6 x1 x2 x3 x4 x5 G hf)
  · skip
    obtain ⟨r_3, G_2, hq_4, hf⟩ := zx_bd_some hf
    have hg := zv_call hg (v_M_fail (7 : Int32) G hq_4) (by decide) (by decide)
    exact zv_tr hg (v_M_units_221 hk6 x1 x2 x3 x4 x5 G_2 hf)
theorem v_M_units_82 {r : Int32} {G1 : zx_G} {k6 : Int32 → Int32 → Int32 → zx_G → Option (Int32 × zx_G)} (hk6 : ∀ (x1 x2 x3 : Int32) (G : zx_G), k6 x1 x2 x3 G = some (r, G1) → ∀ q k, q ∉ A_M_units → (q, k) ∉ O_M_units → G1 q k = G q k) : ∀ (n : Nat) (x1 x2 x3 x4 x5 x6 : Int32) (G : zx_G), f_M_units_82 k6 n x1 x2 x3 x4 x5 x6 G = some (r, G1) → ∀ q k, q ∉ A_M_units → (q, k) ∉ O_M_units → G1 q k = G q k := by
  intro n
  induction n with
  | zero => intro x1 x2 x3 x4 x5 x6 G hf; cases hf
  | succ n ih =>
    intro x1 x2 x3 x4 x5 x6 G hf
    unfold f_M_units_82 at hf
    have hg : ∀ q k, q ∉ A_M_units → (q, k) ∉ O_M_units → G q k = G q k := fun _ _ _ _ => rfl
    rcases zx_if_some hf with ⟨hc_1, hf⟩ | ⟨hc_1, hf⟩
    · skip
      exact zv_tr hg (v_M_units_204 hk6 x1 x2 x3 x4 x5 G hf)
    · skip
      rcases zx_if_some hf with ⟨hc_2, hf⟩ | ⟨hc_2, hf⟩
      · skip
        exact zv_tr hg (v_M_units_204 hk6 x1 x2 x3 x4 x5 G hf)
      · skip
        rcases zx_if_some hf with ⟨hc_3, hf⟩ | ⟨hc_3, hf⟩
        · skip
          exact zv_tr hg (v_M_units_204 hk6 x1 x2 x3 x4 x5 G hf)
        · skip
          rcases zx_if_some hf with ⟨hc_4, hf⟩ | ⟨hc_4, hf⟩
          · skip
            exact zv_tr hg (v_M_units_122 hk6 ih x1 x2 x3 x4 x5 x6 (255 : Int32) G hf)
          · skip
            obtain ⟨hb_5, hf⟩ := zx_gd_some hf
            exact zv_tr hg (v_M_units_122 hk6 ih x1 x2 x3 x4 x5 x6 (G 39 (Int32.toNatClampNeg x1)) G hf)
theorem v_M_units_68 {r : Int32} {G1 : zx_G} {k6 : Int32 → Int32 → Int32 → zx_G → Option (Int32 × zx_G)} (hk6 : ∀ (x1 x2 x3 : Int32) (G : zx_G), k6 x1 x2 x3 G = some (r, G1) → ∀ q k, q ∉ A_M_units → (q, k) ∉ O_M_units → G1 q k = G q k) (x1 x2 x3 x4 : Int32) (G : zx_G) (hf : f_M_units_68 k6 x1 x2 x3 x4 G = some (r, G1)) : ∀ q k, q ∉ A_M_units → (q, k) ∉ O_M_units → G1 q k = G q k := by
  unfold f_M_units_68 at hf
  have hg : ∀ q k, q ∉ A_M_units → (q, k) ∉ O_M_units → G q k = G q k := fun _ _ _ _ => rfl
  obtain ⟨x1_1, ex1_1, hf⟩ := zx_lt_some hf
  obtain ⟨x5_2, ex5_2, hf⟩ := zx_lt_some hf
  obtain ⟨x6_3, ex6_3, hf⟩ := zx_lt_some hf
  exact zv_tr hg (v_M_units_82 hk6 2048 x1_1 x2 x3 x4 x5_2 x6_3 G hf)
theorem v_M_units_37 {r : Int32} {G1 : zx_G} {k6 : Int32 → Int32 → Int32 → zx_G → Option (Int32 × zx_G)} (hk6 : ∀ (x1 x2 x3 : Int32) (G : zx_G), k6 x1 x2 x3 G = some (r, G1) → ∀ q k, q ∉ A_M_units → (q, k) ∉ O_M_units → G1 q k = G q k) (x1 x2 x3 s0 : Int32) (G : zx_G) (hf : f_M_units_37 k6 x1 x2 x3 s0 G = some (r, G1)) : ∀ q k, q ∉ A_M_units → (q, k) ∉ O_M_units → G1 q k = G q k := by
  unfold f_M_units_37 at hf
  have hg : ∀ q k, q ∉ A_M_units → (q, k) ∉ O_M_units → G q k = G q k := fun _ _ _ _ => rfl
  obtain ⟨x4_1, ex4_1, hf⟩ := zx_lt_some hf
  rcases zx_if_some hf with ⟨hc_2, hf⟩ | ⟨hc_2, hf⟩
  · skip
    rcases zx_if_some hf with ⟨hc_3, hf⟩ | ⟨hc_3, hf⟩
    · skip
      exact zv_tr hg (v_M_units_68 hk6 x1 x2 x3 x4_1 G hf)
    · skip
      obtain ⟨r_5, G_4, hq_6, hf⟩ := zx_bd_some hf
      have hg := zv_call hg (v_M_fail (5 : Int32) G hq_6) (by decide) (by decide)
      exact zv_tr hg (v_M_units_68 hk6 x1 x2 x3 x4_1 G_4 hf)
  · skip
    obtain ⟨r_8, G_7, hq_9, hf⟩ := zx_bd_some hf
    have hg := zv_call hg (v_M_fail (7 : Int32) G hq_9) (by decide) (by decide)
    exact zv_tr hg (v_M_units_68 hk6 x1 x2 x3 x4_1 G_7 hf)
theorem v_M_units_332 {r : Int32} {G1 : zx_G} (G : zx_G) (hf : f_M_units_332 G = some (r, G1)) : ∀ q k, q ∉ A_M_units → (q, k) ∉ O_M_units → G1 q k = G q k := by
  unfold f_M_units_332 at hf
  have hg : ∀ q k, q ∉ A_M_units → (q, k) ∉ O_M_units → G q k = G q k := fun _ _ _ _ => rfl
  exact zv_ret hg hf
theorem v_M_units_6 {r : Int32} {G1 : zx_G} : ∀ (n : Nat) (x1 x2 x3 : Int32) (G : zx_G), f_M_units_6 n x1 x2 x3 G = some (r, G1) → ∀ q k, q ∉ A_M_units → (q, k) ∉ O_M_units → G1 q k = G q k := by
  intro n
  induction n with
  | zero => intro x1 x2 x3 G hf; cases hf
  | succ n ih =>
    intro x1 x2 x3 G hf
    unfold f_M_units_6 at hf
    have hg : ∀ q k, q ∉ A_M_units → (q, k) ∉ O_M_units → G q k = G q k := fun _ _ _ _ => rfl
    rcases zx_if_some hf with ⟨hc_1, hf⟩ | ⟨hc_1, hf⟩
    · skip
      exact zv_tr hg (v_M_units_332 G hf)
    · skip
      rcases zx_if_some hf with ⟨hc_2, hf⟩ | ⟨hc_2, hf⟩
      · skip
        exact zv_tr hg (v_M_units_332 G hf)
      · skip
        rcases zx_if_some hf with ⟨hc_3, hf⟩ | ⟨hc_3, hf⟩
        · skip
          exact zv_tr hg (v_M_units_37 ih x1 x2 x3 (255 : Int32) G hf)
        · skip
          obtain ⟨hb_4, hf⟩ := zx_gd_some hf
          exact zv_tr hg (v_M_units_37 ih x1 x2 x3 (G 39 (Int32.toNatClampNeg x1)) G hf)
theorem v_M_units_0 {r : Int32} {G1 : zx_G} (G : zx_G) (hf : f_M_units G = some (r, G1)) : ∀ q k, q ∉ A_M_units → (q, k) ∉ O_M_units → G1 q k = G q k := by
  unfold f_M_units at hf
  have hg : ∀ q k, q ∉ A_M_units → (q, k) ∉ O_M_units → G q k = G q k := fun _ _ _ _ => rfl
  obtain ⟨x1_1, ex1_1, hf⟩ := zx_lt_some hf
  obtain ⟨x2_2, ex2_2, hf⟩ := zx_lt_some hf
  obtain ⟨x3_3, ex3_3, hf⟩ := zx_lt_some hf
  exact zv_tr hg (v_M_units_6 2048 x1_1 x2_2 x3_3 G hf)
theorem v_M_units (G : zx_G) {r : Int32} {G1 : zx_G} (hf : f_M_units G = some (r, G1)) : ∀ q k, q ∉ A_M_units → (q, k) ∉ O_M_units → G1 q k = G q k := v_M_units_0 G hf
