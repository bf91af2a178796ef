/-! what each function leaves as it was; written by a program -/
abbrev R_M_split : List Nat := [32, 34, 35, 36, 37, 38]
theorem w_M_split_80 {r : Int32} {G1 : zx_G} {k18 : Int32 → zx_G → Option (Int32 × zx_G)} (hk18 : ∀ (x1 : Int32) (G : zx_G), k18 x1 G = some (r, G1) → ∀ q, q ∉ R_M_split → G1 q = G q) (x1 : Int32) (G : zx_G) (hf : f_M_split_80 k18 x1 G = some (r, G1)) : ∀ q, q ∉ R_M_split → G1 q = G q := by
  unfold f_M_split_80 at hf
  have hg : ∀ q, q ∉ R_M_split → G q = G q := fun _ _ => rfl
  obtain ⟨x1_1, ex1_1, hf⟩ := zx_lt_some hf
  exact zf_tr hg (hk18 x1_1 G hf)
theorem w_M_split_55 {r : Int32} {G1 : zx_G} {k18 : Int32 → zx_G → Option (Int32 × zx_G)} (hk18 : ∀ (x1 : Int32) (G : zx_G), k18 x1 G = some (r, G1) → ∀ q, q ∉ R_M_split → G1 q = G q) (x1 : Int32) (G : zx_G) (hf : f_M_split_55 k18 x1 G = some (r, G1)) : ∀ q, q ∉ R_M_split → G1 q = G q := by
  unfold f_M_split_55 at hf
  have hg : ∀ q, q ∉ R_M_split → G q = G q := fun _ _ => rfl
  obtain ⟨hb_1, hf⟩ := zx_gd_some hf
  obtain ⟨hb_2, hf⟩ := zx_gd_some hf
  obtain ⟨hb_3, hf⟩ := zx_gd_some hf
  obtain ⟨r_5, G_4, hq_6, hf⟩ := zx_bd_some hf
  have hg := zf_call hg (w_M_stretch (G 34 (Int32.toNatClampNeg x1)) (G 35 (Int32.toNatClampNeg x1)) x1 ((G 38 (Int32.toNatClampNeg x1)) + (1 : Int32)) G hq_6) (by decide)
  exact zf_tr hg (w_M_split_80 hk18 x1 G_4 hf)
theorem w_M_split_86 {r : Int32} {G1 : zx_G} (G : zx_G) (hf : f_M_split_86 G = some (r, G1)) : ∀ q, q ∉ R_M_split → G1 q = G q := by
  unfold f_M_split_86 at hf
  have hg : ∀ q, q ∉ R_M_split → G q = G q := fun _ _ => rfl
  exact zf_ret hg hf
theorem w_M_split_18 {r : Int32} {G1 : zx_G} : ∀ (n : Nat) (x1 : Int32) (G : zx_G), f_M_split_18 n x1 G = some (r, G1) → ∀ q, q ∉ R_M_split → G1 q = G q := by
  intro n
  induction n with
  | zero => intro x1 G hf; cases hf
  | succ n ih =>
    intro x1 G hf
    unfold f_M_split_18 at hf
    have hg : ∀ q, q ∉ R_M_split → G q = G q := fun _ _ => rfl
    rcases zx_if_some hf with ⟨hc_1, hf⟩ | ⟨hc_1, hf⟩
    · skip
      exact zf_tr hg (w_M_split_86 G hf)
    · skip
      rcases zx_if_some hf with ⟨hc_2, hf⟩ | ⟨hc_2, hf⟩
      · skip
        exact zf_tr hg (w_M_split_86 G hf)
      · skip
        obtain ⟨hb_3, hf⟩ := zx_gd_some hf
        rcases zx_if_some hf with ⟨hc_4, hf⟩ | ⟨hc_4, hf⟩
        · skip
          exact zf_tr hg (w_M_split_55 ih x1 G hf)
        · skip
          obtain ⟨hb_5, hf⟩ := zx_gd_some hf
          rcases zx_if_some hf with ⟨hc_6, hf⟩ | ⟨hc_6, hf⟩
          · skip
            exact zf_tr hg (w_M_split_80 ih x1 G hf)
          · skip
            exact zf_tr hg (w_M_split_55 ih x1 G hf)
theorem w_M_split_0 {r : Int32} {G1 : zx_G} (G : zx_G) (hf : f_M_split G = some (r, G1)) : ∀ q, q ∉ R_M_split → G1 q = G q := by
  unfold f_M_split at hf
  have hg : ∀ q, q ∉ R_M_split → G q = G q := fun _ _ => rfl
  obtain ⟨G_1, eG_1, hf⟩ := zx_lt_some hf
  have hg := zf_up hg eG_1 (by decide)
  obtain ⟨r_3, G_2, hq_4, hf⟩ := zx_bd_some hf
  have hg := zf_call hg (w_M_stretch (0 : Int32) (G_1 32 0) (-1 : Int32) (1 : Int32) G_1 hq_4) (by decide)
  obtain ⟨x1_5, ex1_5, hf⟩ := zx_lt_some hf
  exact zf_tr hg (w_M_split_18 2048 x1_5 G_2 hf)
theorem w_M_split (G : zx_G) {r : Int32} {G1 : zx_G} (hf : f_M_split G = some (r, G1)) : ∀ q, q ∉ R_M_split → G1 q = G q := w_M_split_0 G hf
abbrev R_M_brand : List Nat := [32]
theorem w_M_brand_61 {r : Int32} {G1 : zx_G} {k23 : Int32 → Int32 → zx_G → Option (Int32 × zx_G)} (hk23 : ∀ (x1 x2 : Int32) (G : zx_G), k23 x1 x2 G = some (r, G1) → ∀ q, q ∉ R_M_brand → G1 q = G q) (x2 s0 : Int32) (G : zx_G) (hf : f_M_brand_61 k23 x2 s0 G = some (r, G1)) : ∀ q, q ∉ R_M_brand → G1 q = G q := by
  unfold f_M_brand_61 at hf
  have hg : ∀ q, q ∉ R_M_brand → G q = G q := fun _ _ => rfl
  obtain ⟨x1_1, ex1_1, hf⟩ := zx_lt_some hf
  obtain ⟨x2_2, ex2_2, hf⟩ := zx_lt_some hf
  exact zf_tr hg (hk23 x1_1 x2_2 G hf)
theorem w_M_brand_56 {r : Int32} {G1 : zx_G} {k23 : Int32 → Int32 → zx_G → Option (Int32 × zx_G)} (hk23 : ∀ (x1 x2 : Int32) (G : zx_G), k23 x1 x2 G = some (r, G1) → ∀ q, q ∉ R_M_brand → G1 q = G q) (x2 : Int32) (G : zx_G) (hf : f_M_brand_56 k23 x2 G = some (r, G1)) : ∀ q, q ∉ R_M_brand → G1 q = G q := by
  unfold f_M_brand_56 at hf
  have hg : ∀ q, q ∉ R_M_brand → G q = G q := fun _ _ => rfl
  exact zf_tr hg (w_M_brand_61 hk23 x2 (1 : Int32) G hf)
theorem w_M_brand_95 {r : Int32} {G1 : zx_G} (G : zx_G) (hf : f_M_brand_95 G = some (r, G1)) : ∀ q, q ∉ R_M_brand → G1 q = G q := by
  unfold f_M_brand_95 at hf
  have hg : ∀ q, q ∉ R_M_brand → G q = G q := fun _ _ => rfl
  exact zf_ret hg hf
theorem w_M_brand_90 {r : Int32} {G1 : zx_G} (G : zx_G) (hf : f_M_brand_90 G = some (r, G1)) : ∀ q, q ∉ R_M_brand → G1 q = G q := by
  unfold f_M_brand_90 at hf
  have hg : ∀ q, q ∉ R_M_brand → G q = G q := fun _ _ => rfl
  obtain ⟨r_2, G_1, hq_3, hf⟩ := zx_bd_some hf
  have hg := zf_call hg (w_M_fail (2 : Int32) G hq_3) (by decide)
  exact zf_tr hg (w_M_brand_95 G_1 hf)
theorem w_M_brand_68 {r : Int32} {G1 : zx_G} (x1 : Int32) (G : zx_G) (hf : f_M_brand_68 x1 G = some (r, G1)) : ∀ q, q ∉ R_M_brand → G1 q = G q := by
  unfold f_M_brand_68 at hf
  have hg : ∀ q, q ∉ R_M_brand → G q = G q := fun _ _ => rfl
  rcases zx_if_some hf with ⟨hc_1, hf⟩ | ⟨hc_1, hf⟩
  · skip
    exact zf_tr hg (w_M_brand_90 G hf)
  · skip
    obtain ⟨hb_2, hf⟩ := zx_gd_some hf
    rcases zx_if_some hf with ⟨hc_3, hf⟩ | ⟨hc_3, hf⟩
    · skip
      exact zf_tr hg (w_M_brand_90 G hf)
    · skip
      rcases zx_if_some hf with ⟨hc_4, hf⟩ | ⟨hc_4, hf⟩
      · skip
        exact zf_tr hg (w_M_brand_95 G hf)
      · skip
        exact zf_tr hg (w_M_brand_90 G hf)
theorem w_M_brand_23 {r : Int32} {G1 : zx_G} : ∀ (n : Nat) (x1 x2 : Int32) (G : zx_G), f_M_brand_23 n x1 x2 G = some (r, G1) → ∀ q, q ∉ R_M_brand → G1 q = G q := by
  intro n
  induction n with
  | zero => intro x1 x2 G hf; cases hf
  | succ n ih =>
    intro x1 x2 G hf
    unfold f_M_brand_23 at hf
    have hg : ∀ q, q ∉ R_M_brand → G q = G q := fun _ _ => rfl
    rcases zx_if_some hf with ⟨hc_1, hf⟩ | ⟨hc_1, hf⟩
    · skip
      exact zf_tr hg (w_M_brand_68 x1 G hf)
    · skip
      obtain ⟨hb_2, hf⟩ := zx_gd_some hf
      rcases zx_if_some hf with ⟨hc_3, hf⟩ | ⟨hc_3, hf⟩
      · skip
        exact zf_tr hg (w_M_brand_68 x1 G hf)
      · skip
        rcases zx_if_some hf with ⟨hc_4, hf⟩ | ⟨hc_4, hf⟩
        · skip
          exact zf_tr hg (w_M_brand_56 ih x2 G hf)
        · skip
          obtain ⟨hb_5, hf⟩ := zx_gd_some hf
          rcases zx_if_some hf with ⟨hc_6, hf⟩ | ⟨hc_6, hf⟩
          · skip
            exact zf_tr hg (w_M_brand_61 ih x2 (0 : Int32) G hf)
          · skip
            exact zf_tr hg (w_M_brand_56 ih x2 G hf)
theorem w_M_brand_22 {r : Int32} {G1 : zx_G} (x1 s0 : Int32) (G : zx_G) (hf : f_M_brand_22 x1 s0 G = some (r, G1)) : ∀ q, q ∉ R_M_brand → G1 q = G q := by
  unfold f_M_brand_22 at hf
  have hg : ∀ q, q ∉ R_M_brand → G q = G q := fun _ _ => rfl
  obtain ⟨x2_1, ex2_1, hf⟩ := zx_lt_some hf
  exact zf_tr hg (w_M_brand_23 2048 x1 x2_1 G hf)
theorem w_M_brand_0 {r : Int32} {G1 : zx_G} (G : zx_G) (hf : f_M_brand G = some (r, G1)) : ∀ q, q ∉ R_M_brand → G1 q = G q := by
  unfold f_M_brand at hf
  have hg : ∀ q, q ∉ R_M_brand → G q = G q := fun _ _ => rfl
  obtain ⟨x1_1, ex1_1, hf⟩ := zx_lt_some hf
  rcases zx_if_some hf with ⟨hc_2, hf⟩ | ⟨hc_2, hf⟩
  · skip
    exact zf_tr hg (w_M_brand_22 x1_1 (G 32 0) G hf)
  · skip
    obtain ⟨hb_3, hf⟩ := zx_gd_some hf
    exact zf_tr hg (w_M_brand_22 x1_1 (G 34 (Int32.toNatClampNeg (0 : Int32))) G hf)
theorem w_M_brand (G : zx_G) {r : Int32} {G1 : zx_G} (hf : f_M_brand G = some (r, G1)) : ∀ q, q ∉ R_M_brand → G1 q = G q := w_M_brand_0 G hf
abbrev R_M_decode : List Nat := [32, 34, 35, 36, 37, 38, 39, 40, 41, 42, 43, 44, 45, 46, 47, 48, 49, 50]
theorem w_M_decode_150 {r : Int32} {G1 : zx_G} (s1 : Int32) (G : zx_G) (hf : f_M_decode_150 s1 G = some (r, G1)) : ∀ q, q ∉ R_M_decode → G1 q = G q := by
  unfold f_M_decode_150 at hf
  have hg : ∀ q, q ∉ R_M_decode → G q = G q := fun _ _ => rfl
  obtain ⟨hb_1, hf⟩ := zx_gd_some hf
  obtain ⟨G_2, eG_2, hf⟩ := zx_lt_some hf
  have hg := zf_up hg eG_2 (by decide)
  exact zf_ret hg hf
theorem w_M_decode_137 {r : Int32} {G1 : zx_G} (G : zx_G) (hf : f_M_decode_137 G = some (r, G1)) : ∀ q, q ∉ R_M_decode → G1 q = G q := by
  unfold f_M_decode_137 at hf
  have hg : ∀ q, q ∉ R_M_decode → G q = G q := fun _ _ => rfl
  rcases zx_if_some hf with ⟨hc_1, hf⟩ | ⟨hc_1, hf⟩
  · skip
    exact zf_tr hg (w_M_decode_150 (0 : Int32) G hf)
  · skip
    exact zf_tr hg (w_M_decode_150 (1 : Int32) G hf)
theorem w_M_decode_126 {r : Int32} {G1 : zx_G} (G : zx_G) (hf : f_M_decode_126 G = some (r, G1)) : ∀ q, q ∉ R_M_decode → G1 q = G q := by
  unfold f_M_decode_126 at hf
  have hg : ∀ q, q ∉ R_M_decode → G q = G q := fun _ _ => rfl
  rcases zx_if_some hf with ⟨hc_1, hf⟩ | ⟨hc_1, hf⟩
  · skip
    exact zf_tr hg (w_M_decode_137 G hf)
  · skip
    obtain ⟨r_3, G_2, hq_4, hf⟩ := zx_bd_some hf
    have hg := zf_call hg (w_M_filter G hq_4) (by decide)
    exact zf_tr hg (w_M_decode_137 G_2 hf)
theorem w_M_decode_115 {r : Int32} {G1 : zx_G} (G : zx_G) (hf : f_M_decode_115 G = some (r, G1)) : ∀ q, q ∉ R_M_decode → G1 q = G q := by
  unfold f_M_decode_115 at hf
  have hg : ∀ q, q ∉ R_M_decode → G q = G q := fun _ _ => rfl
  rcases zx_if_some hf with ⟨hc_1, hf⟩ | ⟨hc_1, hf⟩
  · skip
    exact zf_tr hg (w_M_decode_126 G hf)
  · skip
    obtain ⟨r_3, G_2, hq_4, hf⟩ := zx_bd_some hf
    have hg := zf_call hg (w_M_readTile G hq_4) (by decide)
    exact zf_tr hg (w_M_decode_126 G_2 hf)
theorem w_M_decode_104 {r : Int32} {G1 : zx_G} (G : zx_G) (hf : f_M_decode_104 G = some (r, G1)) : ∀ q, q ∉ R_M_decode → G1 q = G q := by
  unfold f_M_decode_104 at hf
  have hg : ∀ q, q ∉ R_M_decode → G q = G q := fun _ _ => rfl
  rcases zx_if_some hf with ⟨hc_1, hf⟩ | ⟨hc_1, hf⟩
  · skip
    exact zf_tr hg (w_M_decode_115 G hf)
  · skip
    obtain ⟨r_3, G_2, hq_4, hf⟩ := zx_bd_some hf
    have hg := zf_call hg (w_M_units G hq_4) (by decide)
    exact zf_tr hg (w_M_decode_115 G_2 hf)
theorem w_M_decode_68 {r : Int32} {G1 : zx_G} (x1 x2 : Int32) (G : zx_G) (hf : f_M_decode_68 x1 x2 G = some (r, G1)) : ∀ q, q ∉ R_M_decode → G1 q = G q := by
  unfold f_M_decode_68 at hf
  have hg : ∀ q, q ∉ R_M_decode → G q = G q := fun _ _ => rfl
  rcases zx_if_some hf with ⟨hc_1, hf⟩ | ⟨hc_1, hf⟩
  · skip
    exact zf_tr hg (w_M_decode_104 G hf)
  · skip
    obtain ⟨r_3, G_2, hq_4, hf⟩ := zx_bd_some hf
    have hg := zf_call hg (w_M_child x2 (97 : Int32) G hq_4) (by decide)
    obtain ⟨r_6, G_5, hq_7, hf⟩ := zx_bd_some hf
    have hg := zf_call hg (w_M_child x1 (112 : Int32) G_2 hq_7) (by decide)
    obtain ⟨hb_8, hf⟩ := zx_gd_some hf
    obtain ⟨hb_9, hf⟩ := zx_gd_some hf
    obtain ⟨r_11, G_10, hq_12, hf⟩ := zx_bd_some hf
    have hg := zf_call hg (w_M_properties x2 r_3 (G_5 33 (Int32.toNatClampNeg (G_5 34 (Int32.toNatClampNeg r_6)))) G_5 hq_12) (by decide)
    exact zf_tr hg (w_M_decode_104 G_10 hf)
theorem w_M_decode_54 {r : Int32} {G1 : zx_G} (x1 s0 : Int32) (G : zx_G) (hf : f_M_decode_54 x1 s0 G = some (r, G1)) : ∀ q, q ∉ R_M_decode → G1 q = G q := by
  unfold f_M_decode_54 at hf
  have hg : ∀ q, q ∉ R_M_decode → G q = G q := fun _ _ => rfl
  obtain ⟨x2_1, ex2_1, hf⟩ := zx_lt_some hf
  rcases zx_if_some hf with ⟨hc_2, hf⟩ | ⟨hc_2, hf⟩
  · skip
    exact zf_tr hg (w_M_decode_68 x1 x2_1 G hf)
  · skip
    obtain ⟨r_4, G_3, hq_5, hf⟩ := zx_bd_some hf
    have hg := zf_call hg (w_M_extents x1 x2_1 G hq_5) (by decide)
    exact zf_tr hg (w_M_decode_68 x1 x2_1 G_3 hf)
theorem w_M_decode_38 {r : Int32} {G1 : zx_G} (s0 : Int32) (G : zx_G) (hf : f_M_decode_38 s0 G = some (r, G1)) : ∀ q, q ∉ R_M_decode → G1 q = G q := by
  unfold f_M_decode_38 at hf
  have hg : ∀ q, q ∉ R_M_decode → G q = G q := fun _ _ => rfl
  obtain ⟨x1_1, ex1_1, hf⟩ := zx_lt_some hf
  rcases zx_if_some hf with ⟨hc_2, hf⟩ | ⟨hc_2, hf⟩
  · skip
    exact zf_tr hg (w_M_decode_54 x1_1 (-1 : Int32) G hf)
  · skip
    obtain ⟨r_4, G_3, hq_5, hf⟩ := zx_bd_some hf
    have hg := zf_call hg (w_M_child x1_1 (114 : Int32) G hq_5) (by decide)
    exact zf_tr hg (w_M_decode_54 x1_1 r_4 G_3 hf)
theorem w_M_decode_20 {r : Int32} {G1 : zx_G} (G : zx_G) (hf : f_M_decode_20 G = some (r, G1)) : ∀ q, q ∉ R_M_decode → G1 q = G q := by
  unfold f_M_decode_20 at hf
  have hg : ∀ q, q ∉ R_M_decode → G q = G q := fun _ _ => rfl
  rcases zx_if_some hf with ⟨hc_1, hf⟩ | ⟨hc_1, hf⟩
  · skip
    exact zf_tr hg (w_M_decode_38 (-1 : Int32) G hf)
  · skip
    obtain ⟨r_3, G_2, hq_4, hf⟩ := zx_bd_some hf
    have hg := zf_call hg (w_M_child (-1 : Int32) (109 : Int32) G hq_4) (by decide)
    exact zf_tr hg (w_M_decode_38 r_3 G_2 hf)
theorem w_M_decode_0 {r : Int32} {G1 : zx_G} (G : zx_G) (hf : f_M_decode G = some (r, G1)) : ∀ q, q ∉ R_M_decode → G1 q = G q := by
  unfold f_M_decode at hf
  have hg : ∀ q, q ∉ R_M_decode → G q = G q := fun _ _ => rfl
  obtain ⟨G_1, eG_1, hf⟩ := zx_lt_some hf
  have hg := zf_up hg eG_1 (by decide)
  obtain ⟨r_3, G_2, hq_4, hf⟩ := zx_bd_some hf
  have hg := zf_call hg (w_M_split G_1 hq_4) (by decide)
  rcases zx_if_some hf with ⟨hc_5, hf⟩ | ⟨hc_5, hf⟩
  · skip
    exact zf_tr hg (w_M_decode_20 G_2 hf)
  · skip
    obtain ⟨r_7, G_6, hq_8, hf⟩ := zx_bd_some hf
    have hg := zf_call hg (w_M_brand G_2 hq_8) (by decide)
    exact zf_tr hg (w_M_decode_20 G_6 hf)
theorem w_M_decode (G : zx_G) {r : Int32} {G1 : zx_G} (hf : f_M_decode G = some (r, G1)) : ∀ q, q ∉ R_M_decode → G1 q = G q := w_M_decode_0 G hf
abbrev R_M_planes : List Nat := []
theorem w_M_planes_19 {r : Int32} {G1 : zx_G} (s0 : Int32) (G : zx_G) (hf : f_M_planes_19 s0 G = some (r, G1)) : ∀ q, q ∉ R_M_planes → G1 q = G q := by
  unfold f_M_planes_19 at hf
  have hg : ∀ q, q ∉ R_M_planes → G q = G q := fun _ _ => rfl
  exact zf_ret hg hf
theorem w_M_planes_0 {r : Int32} {G1 : zx_G} (G : zx_G) (hf : f_M_planes G = some (r, G1)) : ∀ q, q ∉ R_M_planes → G1 q = G q := by
  unfold f_M_planes at hf
  have hg : ∀ q, q ∉ R_M_planes → G q = G q := fun _ _ => rfl
  rcases zx_if_some hf with ⟨hc_1, hf⟩ | ⟨hc_1, hf⟩
  · skip
    exact zf_tr hg (w_M_planes_19 (0 : Int32) G hf)
  · skip
    exact zf_tr hg (w_M_planes_19 ((1 : Int32) + ((2 : Int32) * (G 32 16))) G hf)
theorem w_M_planes (G : zx_G) {r : Int32} {G1 : zx_G} (hf : f_M_planes G = some (r, G1)) : ∀ q, q ∉ R_M_planes → G1 q = G q := w_M_planes_0 G hf
abbrev R_M_width : List Nat := []
theorem w_M_width_15 {r : Int32} {G1 : zx_G} (s0 : Int32) (G : zx_G) (hf : f_M_width_15 s0 G = some (r, G1)) : ∀ q, q ∉ R_M_width → G1 q = G q := by
  unfold f_M_width_15 at hf
  have hg : ∀ q, q ∉ R_M_width → G q = G q := fun _ _ => rfl
  exact zf_ret hg hf
theorem w_M_width_0 {r : Int32} {G1 : zx_G} (G : zx_G) (hf : f_M_width G = some (r, G1)) : ∀ q, q ∉ R_M_width → G1 q = G q := by
  unfold f_M_width at hf
  have hg : ∀ q, q ∉ R_M_width → G q = G q := fun _ _ => rfl
  rcases zx_if_some hf with ⟨hc_1, hf⟩ | ⟨hc_1, hf⟩
  · skip
    exact zf_tr hg (w_M_width_15 (0 : Int32) G hf)
  · skip
    exact zf_tr hg (w_M_width_15 (G 32 18) G hf)
theorem w_M_width (G : zx_G) {r : Int32} {G1 : zx_G} (hf : f_M_width G = some (r, G1)) : ∀ q, q ∉ R_M_width → G1 q = G q := w_M_width_0 G hf
abbrev R_M_height : List Nat := []
theorem w_M_height_15 {r : Int32} {G1 : zx_G} (s0 : Int32) (G : zx_G) (hf : f_M_height_15 s0 G = some (r, G1)) : ∀ q, q ∉ R_M_height → G1 q = G q := by
  unfold f_M_height_15 at hf
  have hg : ∀ q, q ∉ R_M_height → G q = G q := fun _ _ => rfl
  exact zf_ret hg hf
theorem w_M_height_0 {r : Int32} {G1 : zx_G} (G : zx_G) (hf : f_M_height G = some (r, G1)) : ∀ q, q ∉ R_M_height → G1 q = G q := by
  unfold f_M_height at hf
  have hg : ∀ q, q ∉ R_M_height → G q = G q := fun _ _ => rfl
  rcases zx_if_some hf with ⟨hc_1, hf⟩ | ⟨hc_1, hf⟩
  · skip
    exact zf_tr hg (w_M_height_15 (0 : Int32) G hf)
  · skip
    exact zf_tr hg (w_M_height_15 (G 32 19) G hf)
theorem w_M_height (G : zx_G) {r : Int32} {G1 : zx_G} (hf : f_M_height G = some (r, G1)) : ∀ q, q ∉ R_M_height → G1 q = G q := w_M_height_0 G hf
abbrev R_M_depth : List Nat := []
theorem w_M_depth_20 {r : Int32} {G1 : zx_G} (s0 : Int32) (G : zx_G) (hf : f_M_depth_20 s0 G = some (r, G1)) : ∀ q, q ∉ R_M_depth → G1 q = G q := by
  unfold f_M_depth_20 at hf
  have hg : ∀ q, q ∉ R_M_depth → G q = G q := fun _ _ => rfl
  exact zf_ret hg hf
theorem w_M_depth_0 {r : Int32} {G1 : zx_G} (G : zx_G) (hf : f_M_depth G = some (r, G1)) : ∀ q, q ∉ R_M_depth → G1 q = G q := by
  unfold f_M_depth at hf
  have hg : ∀ q, q ∉ R_M_depth → G q = G q := fun _ _ => rfl
  rcases zx_if_some hf with ⟨hc_1, hf⟩ | ⟨hc_1, hf⟩
  · skip
    exact zf_tr hg (w_M_depth_20 (0 : Int32) G hf)
  · skip
    exact zf_tr hg (w_M_depth_20 ((8 : Int32) + ((2 : Int32) * (G 32 17))) G hf)
theorem w_M_depth (G : zx_G) {r : Int32} {G1 : zx_G} (hf : f_M_depth G = some (r, G1)) : ∀ q, q ∉ R_M_depth → G1 q = G q := w_M_depth_0 G hf
abbrev R_M_there : List Nat := []
theorem w_M_there_36 {r : Int32} {G1 : zx_G} (s0 : Int32) (G : zx_G) (hf : f_M_there_36 s0 G = some (r, G1)) : ∀ q, q ∉ R_M_there → G1 q = G q := by
  unfold f_M_there_36 at hf
  have hg : ∀ q, q ∉ R_M_there → G q = G q := fun _ _ => rfl
  obtain ⟨hb_1, hf⟩ := zx_gd_some hf
  exact zf_ret hg hf
theorem w_M_there_35 {r : Int32} {G1 : zx_G} (G : zx_G) (hf : f_M_there_35 G = some (r, G1)) : ∀ q, q ∉ R_M_there → G1 q = G q := by
  unfold f_M_there_35 at hf
  have hg : ∀ q, q ∉ R_M_there → G q = G q := fun _ _ => rfl
  exact zf_tr hg (w_M_there_36 (0 : Int32) G hf)
theorem w_M_there_0 {r : Int32} {G1 : zx_G} (x1 x2 : Int32) (G : zx_G) (hf : f_M_there x1 x2 G = some (r, G1)) : ∀ q, q ∉ R_M_there → G1 q = G q := by
  unfold f_M_there at hf
  have hg : ∀ q, q ∉ R_M_there → G q = G q := fun _ _ => rfl
  rcases zx_if_some hf with ⟨hc_1, hf⟩ | ⟨hc_1, hf⟩
  · skip
    exact zf_tr hg (w_M_there_35 G hf)
  · skip
    rcases zx_if_some hf with ⟨hc_2, hf⟩ | ⟨hc_2, hf⟩
    · skip
      exact zf_tr hg (w_M_there_35 G hf)
    · skip
      rcases zx_if_some hf with ⟨hc_3, hf⟩ | ⟨hc_3, hf⟩
      · skip
        exact zf_tr hg (w_M_there_35 G hf)
      · skip
        rcases zx_if_some hf with ⟨hc_4, hf⟩ | ⟨hc_4, hf⟩
        · skip
          exact zf_tr hg (w_M_there_35 G hf)
        · skip
          rcases zx_if_some hf with ⟨hc_5, hf⟩ | ⟨hc_5, hf⟩
          · skip
            exact zf_tr hg (w_M_there_35 G hf)
          · skip
            exact zf_tr hg (w_M_there_36 (1 : Int32) G hf)
theorem w_M_there (x1 x2 : Int32) (G : zx_G) {r : Int32} {G1 : zx_G} (hf : f_M_there x1 x2 G = some (r, G1)) : ∀ q, q ∉ R_M_there → G1 q = G q := w_M_there_0 x1 x2 G hf
abbrev R_M_sample : List Nat := []
theorem w_M_sample_46 {r : Int32} {G1 : zx_G} (s0 : Int32) (G : zx_G) (hf : f_M_sample_46 s0 G = some (r, G1)) : ∀ q, q ∉ R_M_sample → G1 q = G q := by
  unfold f_M_sample_46 at hf
  have hg : ∀ q, q ∉ R_M_sample → G q = G q := fun _ _ => rfl
  exact zf_ret hg hf
theorem w_M_sample_45 {r : Int32} {G1 : zx_G} (G : zx_G) (hf : f_M_sample_45 G = some (r, G1)) : ∀ q, q ∉ R_M_sample → G1 q = G q := by
  unfold f_M_sample_45 at hf
  have hg : ∀ q, q ∉ R_M_sample → G q = G q := fun _ _ => rfl
  exact zf_tr hg (w_M_sample_46 (-1 : Int32) G hf)
theorem w_M_sample_0 {r : Int32} {G1 : zx_G} (x1 x2 x3 : Int32) (G : zx_G) (hf : f_M_sample x1 x2 x3 G = some (r, G1)) : ∀ q, q ∉ R_M_sample → G1 q = G q := by
  unfold f_M_sample at hf
  have hg : ∀ q, q ∉ R_M_sample → G q = G q := fun _ _ => rfl
  obtain ⟨r_2, G_1, hq_3, hf⟩ := zx_bd_some hf
  have hg := zf_call hg (w_M_there x2 x3 G hq_3) (by decide)
  rcases zx_if_some hf with ⟨hc_4, hf⟩ | ⟨hc_4, hf⟩
  · skip
    exact zf_tr hg (w_M_sample_45 G_1 hf)
  · skip
    rcases zx_if_some hf with ⟨hc_5, hf⟩ | ⟨hc_5, hf⟩
    · skip
      exact zf_tr hg (w_M_sample_45 G_1 hf)
    · skip
      rcases zx_if_some hf with ⟨hc_6, hf⟩ | ⟨hc_6, hf⟩
      · skip
        exact zf_tr hg (w_M_sample_45 G_1 hf)
      · skip
        obtain ⟨hb_7, hf⟩ := zx_gd_some hf
        exact zf_tr hg (w_M_sample_46 (G_1 42 (Int32.toNatClampNeg ((((256 : Int32) * x1) + ((16 : Int32) * x3)) + x2))) G_1 hf)
theorem w_M_sample (x1 x2 x3 : Int32) (G : zx_G) {r : Int32} {G1 : zx_G} (hf : f_M_sample x1 x2 x3 G = some (r, G1)) : ∀ q, q ∉ R_M_sample → G1 q = G q := w_M_sample_0 x1 x2 x3 G hf
abbrev R_M_block : List Nat := []
theorem w_M_block_45 {r : Int32} {G1 : zx_G} (s0 : Int32) (G : zx_G) (hf : f_M_block_45 s0 G = some (r, G1)) : ∀ q, q ∉ R_M_block → G1 q = G q := by
  unfold f_M_block_45 at hf
  have hg : ∀ q, q ∉ R_M_block → G q = G q := fun _ _ => rfl
  exact zf_ret hg hf
theorem w_M_block_44 {r : Int32} {G1 : zx_G} (G : zx_G) (hf : f_M_block_44 G = some (r, G1)) : ∀ q, q ∉ R_M_block → G1 q = G q := by
  unfold f_M_block_44 at hf
  have hg : ∀ q, q ∉ R_M_block → G q = G q := fun _ _ => rfl
  exact zf_tr hg (w_M_block_45 (-1 : Int32) G hf)
theorem w_M_block_0 {r : Int32} {G1 : zx_G} (x1 x2 x3 : Int32) (G : zx_G) (hf : f_M_block x1 x2 x3 G = some (r, G1)) : ∀ q, q ∉ R_M_block → G1 q = G q := by
  unfold f_M_block at hf
  have hg : ∀ q, q ∉ R_M_block → G q = G q := fun _ _ => rfl
  obtain ⟨r_2, G_1, hq_3, hf⟩ := zx_bd_some hf
  have hg := zf_call hg (w_M_there x1 x2 G hq_3) (by decide)
  rcases zx_if_some hf with ⟨hc_4, hf⟩ | ⟨hc_4, hf⟩
  · skip
    exact zf_tr hg (w_M_block_44 G_1 hf)
  · skip
    rcases zx_if_some hf with ⟨hc_5, hf⟩ | ⟨hc_5, hf⟩
    · skip
      exact zf_tr hg (w_M_block_44 G_1 hf)
    · skip
      rcases zx_if_some hf with ⟨hc_6, hf⟩ | ⟨hc_6, hf⟩
      · skip
        exact zf_tr hg (w_M_block_44 G_1 hf)
      · skip
        obtain ⟨hb_7, hf⟩ := zx_gd_some hf
        obtain ⟨hb_8, hf⟩ := zx_gd_some hf
        obtain ⟨hb_9, hf⟩ := zx_gd_some hf
        obtain ⟨hb_10, hf⟩ := zx_gd_some hf
        exact zf_tr hg (w_M_block_45 (G_1 45 (Int32.toNatClampNeg (((4 : Int32) * (G_1 44 (Int32.toNatClampNeg (((zx_div x2 (4 : Int32)) * (4 : Int32)) + (zx_div x1 (4 : Int32)))))) + x3))) G_1 hf)
theorem w_M_block (x1 x2 x3 : Int32) (G : zx_G) {r : Int32} {G1 : zx_G} (hf : f_M_block x1 x2 x3 G = some (r, G1)) : ∀ q, q ∉ R_M_block → G1 q = G q := w_M_block_0 x1 x2 x3 G hf
abbrev R_M_blocks : List Nat := []
theorem w_M_blocks_15 {r : Int32} {G1 : zx_G} (s0 : Int32) (G : zx_G) (hf : f_M_blocks_15 s0 G = some (r, G1)) : ∀ q, q ∉ R_M_blocks → G1 q = G q := by
  unfold f_M_blocks_15 at hf
  have hg : ∀ q, q ∉ R_M_blocks → G q = G q := fun _ _ => rfl
  exact zf_ret hg hf
theorem w_M_blocks_0 {r : Int32} {G1 : zx_G} (G : zx_G) (hf : f_M_blocks G = some (r, G1)) : ∀ q, q ∉ R_M_blocks → G1 q = G q := by
  unfold f_M_blocks at hf
  have hg : ∀ q, q ∉ R_M_blocks → G q = G q := fun _ _ => rfl
  rcases zx_if_some hf with ⟨hc_1, hf⟩ | ⟨hc_1, hf⟩
  · skip
    exact zf_tr hg (w_M_blocks_15 (0 : Int32) G hf)
  · skip
    exact zf_tr hg (w_M_blocks_15 (G 32 37) G hf)
theorem w_M_blocks (G : zx_G) {r : Int32} {G1 : zx_G} (hf : f_M_blocks G = some (r, G1)) : ∀ q, q ∉ R_M_blocks → G1 q = G q := w_M_blocks_0 G hf
abbrev R_M_symbols : List Nat := []
theorem w_M_symbols_15 {r : Int32} {G1 : zx_G} (s0 : Int32) (G : zx_G) (hf : f_M_symbols_15 s0 G = some (r, G1)) : ∀ q, q ∉ R_M_symbols → G1 q = G q := by
  unfold f_M_symbols_15 at hf
  have hg : ∀ q, q ∉ R_M_symbols → G q = G q := fun _ _ => rfl
  exact zf_ret hg hf
theorem w_M_symbols_0 {r : Int32} {G1 : zx_G} (G : zx_G) (hf : f_M_symbols G = some (r, G1)) : ∀ q, q ∉ R_M_symbols → G1 q = G q := by
  unfold f_M_symbols at hf
  have hg : ∀ q, q ∉ R_M_symbols → G q = G q := fun _ _ => rfl
  rcases zx_if_some hf with ⟨hc_1, hf⟩ | ⟨hc_1, hf⟩
  · skip
    exact zf_tr hg (w_M_symbols_15 (0 : Int32) G hf)
  · skip
    exact zf_tr hg (w_M_symbols_15 (G 32 30) G hf)
theorem w_M_symbols (G : zx_G) {r : Int32} {G1 : zx_G} (hf : f_M_symbols G = some (r, G1)) : ∀ q, q ∉ R_M_symbols → G1 q = G q := w_M_symbols_0 G hf
abbrev R_M_taken : List Nat := []
theorem w_M_taken_15 {r : Int32} {G1 : zx_G} (s0 : Int32) (G : zx_G) (hf : f_M_taken_15 s0 G = some (r, G1)) : ∀ q, q ∉ R_M_taken → G1 q = G q := by
  unfold f_M_taken_15 at hf
  have hg : ∀ q, q ∉ R_M_taken → G q = G q := fun _ _ => rfl
  exact zf_ret hg hf
theorem w_M_taken_0 {r : Int32} {G1 : zx_G} (G : zx_G) (hf : f_M_taken G = some (r, G1)) : ∀ q, q ∉ R_M_taken → G1 q = G q := by
  unfold f_M_taken at hf
  have hg : ∀ q, q ∉ R_M_taken → G q = G q := fun _ _ => rfl
  rcases zx_if_some hf with ⟨hc_1, hf⟩ | ⟨hc_1, hf⟩
  · skip
    exact zf_tr hg (w_M_taken_15 (0 : Int32) G hf)
  · skip
    exact zf_tr hg (w_M_taken_15 (G 32 29) G hf)
theorem w_M_taken (G : zx_G) {r : Int32} {G1 : zx_G} (hf : f_M_taken G = some (r, G1)) : ∀ q, q ∉ R_M_taken → G1 q = G q := w_M_taken_0 G hf
abbrev R_M_table : List Nat := []
theorem w_M_table_44 {r : Int32} {G1 : zx_G} (s0 : Int32) (G : zx_G) (hf : f_M_table_44 s0 G = some (r, G1)) : ∀ q, q ∉ R_M_table → G1 q = G q := by
  unfold f_M_table_44 at hf
  have hg : ∀ q, q ∉ R_M_table → G q = G q := fun _ _ => rfl
  exact zf_ret hg hf
theorem w_M_table_43 {r : Int32} {G1 : zx_G} (G : zx_G) (hf : f_M_table_43 G = some (r, G1)) : ∀ q, q ∉ R_M_table → G1 q = G q := by
  unfold f_M_table_43 at hf
  have hg : ∀ q, q ∉ R_M_table → G q = G q := fun _ _ => rfl
  exact zf_tr hg (w_M_table_44 (-1 : Int32) G hf)
theorem w_M_table_0 {r : Int32} {G1 : zx_G} (x1 x2 : Int32) (G : zx_G) (hf : f_M_table x1 x2 G = some (r, G1)) : ∀ q, q ∉ R_M_table → G1 q = G q := by
  unfold f_M_table at hf
  have hg : ∀ q, q ∉ R_M_table → G q = G q := fun _ _ => rfl
  rcases zx_if_some hf with ⟨hc_1, hf⟩ | ⟨hc_1, hf⟩
  · skip
    exact zf_tr hg (w_M_table_43 G hf)
  · skip
    rcases zx_if_some hf with ⟨hc_2, hf⟩ | ⟨hc_2, hf⟩
    · skip
      exact zf_tr hg (w_M_table_43 G hf)
    · skip
      rcases zx_if_some hf with ⟨hc_3, hf⟩ | ⟨hc_3, hf⟩
      · skip
        exact zf_tr hg (w_M_table_43 G hf)
      · skip
        rcases zx_if_some hf with ⟨hc_4, hf⟩ | ⟨hc_4, hf⟩
        · skip
          exact zf_tr hg (w_M_table_43 G hf)
        · skip
          obtain ⟨r_6, G_5, hq_7, hf⟩ := zx_bd_some hf
          have hg := zf_call hg (w_M_tableSize x1 G hq_7) (by decide)
          rcases zx_if_some hf with ⟨hc_8, hf⟩ | ⟨hc_8, hf⟩
          · skip
            exact zf_tr hg (w_M_table_43 G_5 hf)
          · skip
            obtain ⟨hb_9, hf⟩ := zx_gd_some hf
            exact zf_tr hg (w_M_table_44 (G_5 40 (Int32.toNatClampNeg (((16 : Int32) * x1) + x2))) G_5 hf)
theorem w_M_table (x1 x2 : Int32) (G : zx_G) {r : Int32} {G1 : zx_G} (hf : f_M_table x1 x2 G = some (r, G1)) : ∀ q, q ∉ R_M_table → G1 q = G q := w_M_table_0 x1 x2 G hf
