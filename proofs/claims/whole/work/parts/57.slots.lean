/-! the same by slots; written by a program -/
abbrev A_M_child : List Nat := []
abbrev O_M_child : List (Nat × Nat) := []
theorem v_M_child_43 {r : Int32} {G1 : zx_G} {k10 : Int32 → Int32 → Int32 → Int32 → zx_G → Option (Int32 × zx_G)} (hk10 : ∀ (x1 x2 x3 x4 : Int32) (G : zx_G), k10 x1 x2 x3 x4 G = some (r, G1) → ∀ q k, q ∉ A_M_child → (q, k) ∉ O_M_child → G1 q k = G q k) (x1 x2 x4 s0 : Int32) (G : zx_G) (hf : f_M_child_43 k10 x1 x2 x4 s0 G = some (r, G1)) : ∀ q k, q ∉ A_M_child → (q, k) ∉ O_M_child → G1 q k = G q k := by
  unfold f_M_child_43 at hf
  have hg : ∀ q k, q ∉ A_M_child → (q, k) ∉ O_M_child → G q k = G q k := fun _ _ _ _ => rfl
  obtain ⟨x3_1, ex3_1, hf⟩ := zx_lt_some hf
  obtain ⟨x4_2, ex4_2, hf⟩ := zx_lt_some hf
  exact zv_tr hg (hk10 x1 x2 x3_1 x4_2 G hf)
theorem v_M_child_42 {r : Int32} {G1 : zx_G} {k10 : Int32 → Int32 → Int32 → Int32 → zx_G → Option (Int32 × zx_G)} (hk10 : ∀ (x1 x2 x3 x4 : Int32) (G : zx_G), k10 x1 x2 x3 x4 G = some (r, G1) → ∀ q k, q ∉ A_M_child → (q, k) ∉ O_M_child → G1 q k = G q k) (x1 x2 x3 x4 : Int32) (G : zx_G) (hf : f_M_child_42 k10 x1 x2 x3 x4 G = some (r, G1)) : ∀ q k, q ∉ A_M_child → (q, k) ∉ O_M_child → G1 q k = G q k := by
  unfold f_M_child_42 at hf
  have hg : ∀ q k, q ∉ A_M_child → (q, k) ∉ O_M_child → G q k = G q k := fun _ _ _ _ => rfl
  exact zv_tr hg (v_M_child_43 hk10 x1 x2 x4 x3 G hf)
theorem v_M_child_10 {r : Int32} {G1 : zx_G} : ∀ (n : Nat) (x1 x2 x3 x4 : Int32) (G : zx_G), f_M_child_10 n x1 x2 x3 x4 G = some (r, G1) → ∀ q k, q ∉ A_M_child → (q, k) ∉ O_M_child → G1 q k = G q k := by
  intro n
  induction n with
  | zero => intro x1 x2 x3 x4 G hf; cases hf
  | succ n ih =>
    intro x1 x2 x3 x4 G hf
    unfold f_M_child_10 at hf
    have hg : ∀ q k, q ∉ A_M_child → (q, k) ∉ O_M_child → G q k = G q k := fun _ _ _ _ => rfl
    rcases zx_if_some hf with ⟨hc_1, hf⟩ | ⟨hc_1, hf⟩
    · skip
      exact zv_ret hg hf
    · skip
      obtain ⟨hb_2, hf⟩ := zx_gd_some hf
      rcases zx_if_some hf with ⟨hc_3, hf⟩ | ⟨hc_3, hf⟩
      · skip
        exact zv_tr hg (v_M_child_42 ih x1 x2 x3 x4 G hf)
      · skip
        obtain ⟨hb_4, hf⟩ := zx_gd_some hf
        rcases zx_if_some hf with ⟨hc_5, hf⟩ | ⟨hc_5, hf⟩
        · skip
          exact zv_tr hg (v_M_child_42 ih x1 x2 x3 x4 G hf)
        · skip
          exact zv_tr hg (v_M_child_43 ih x1 x2 x4 x4 G hf)
theorem v_M_child_0 {r : Int32} {G1 : zx_G} (x1 x2 : Int32) (G : zx_G) (hf : f_M_child x1 x2 G = some (r, G1)) : ∀ q k, q ∉ A_M_child → (q, k) ∉ O_M_child → G1 q k = G q k := by
  unfold f_M_child at hf
  have hg : ∀ q k, q ∉ A_M_child → (q, k) ∉ O_M_child → G q k = G q k := fun _ _ _ _ => rfl
  obtain ⟨x3_1, ex3_1, hf⟩ := zx_lt_some hf
  obtain ⟨x4_2, ex4_2, hf⟩ := zx_lt_some hf
  exact zv_tr hg (v_M_child_10 2048 x1 x2 x3_1 x4_2 G hf)
theorem v_M_child (x1 x2 : Int32) (G : zx_G) {r : Int32} {G1 : zx_G} (hf : f_M_child x1 x2 G = some (r, G1)) : ∀ q k, q ∉ A_M_child → (q, k) ∉ O_M_child → G1 q k = G q k := v_M_child_0 x1 x2 G hf
abbrev A_M_associate : List Nat := []
abbrev O_M_associate : List (Nat × Nat) := [(32, 10), (32, 13), (32, 14), (32, 15)]
theorem v_M_associate_116 {r : Int32} {G1 : zx_G} (s1 : Int32) (G : zx_G) (hf : f_M_associate_116 s1 G = some (r, G1)) : ∀ q k, q ∉ A_M_associate → (q, k) ∉ O_M_associate → G1 q k = G q k := by
  unfold f_M_associate_116 at hf
  have hg : ∀ q k, q ∉ A_M_associate → (q, k) ∉ O_M_associate → G q k = G q k := fun _ _ _ _ => rfl
  obtain ⟨G_1, eG_1, hf⟩ := zx_lt_some hf
  have hg := zv_uo hg eG_1 (by decide)
  exact zv_ret hg hf
theorem v_M_associate_112 {r : Int32} {G1 : zx_G} (G : zx_G) (hf : f_M_associate_112 G = some (r, G1)) : ∀ q k, q ∉ A_M_associate → (q, k) ∉ O_M_associate → G1 q k = G q k := by
  unfold f_M_associate_112 at hf
  have hg : ∀ q k, q ∉ A_M_associate → (q, k) ∉ O_M_associate → G q k = G q k := fun _ _ _ _ => rfl
  exact zv_tr hg (v_M_associate_116 (G 32 15) G hf)
theorem v_M_associate_91 {r : Int32} {G1 : zx_G} (x1 x3 s1 : Int32) (G : zx_G) (hf : f_M_associate_91 x1 x3 s1 G = some (r, G1)) : ∀ q k, q ∉ A_M_associate → (q, k) ∉ O_M_associate → G1 q k = G q k := by
  unfold f_M_associate_91 at hf
  have hg : ∀ q k, q ∉ A_M_associate → (q, k) ∉ O_M_associate → G q k = G q k := fun _ _ _ _ => rfl
  obtain ⟨G_1, eG_1, hf⟩ := zx_lt_some hf
  have hg := zv_uo hg eG_1 (by decide)
  rcases zx_if_some hf with ⟨hc_2, hf⟩ | ⟨hc_2, hf⟩
  · skip
    exact zv_tr hg (v_M_associate_112 G_1 hf)
  · skip
    rcases zx_if_some hf with ⟨hc_3, hf⟩ | ⟨hc_3, hf⟩
    · skip
      exact zv_tr hg (v_M_associate_112 G_1 hf)
    · skip
      exact zv_tr hg (v_M_associate_116 x1 G_1 hf)
theorem v_M_associate_87 {r : Int32} {G1 : zx_G} (x1 x3 : Int32) (G : zx_G) (hf : f_M_associate_87 x1 x3 G = some (r, G1)) : ∀ q k, q ∉ A_M_associate → (q, k) ∉ O_M_associate → G1 q k = G q k := by
  unfold f_M_associate_87 at hf
  have hg : ∀ q k, q ∉ A_M_associate → (q, k) ∉ O_M_associate → G q k = G q k := fun _ _ _ _ => rfl
  exact zv_tr hg (v_M_associate_91 x1 x3 (G 32 14) G hf)
theorem v_M_associate_66 {r : Int32} {G1 : zx_G} (x1 x3 s1 : Int32) (G : zx_G) (hf : f_M_associate_66 x1 x3 s1 G = some (r, G1)) : ∀ q k, q ∉ A_M_associate → (q, k) ∉ O_M_associate → G1 q k = G q k := by
  unfold f_M_associate_66 at hf
  have hg : ∀ q k, q ∉ A_M_associate → (q, k) ∉ O_M_associate → G q k = G q k := fun _ _ _ _ => rfl
  obtain ⟨G_1, eG_1, hf⟩ := zx_lt_some hf
  have hg := zv_uo hg eG_1 (by decide)
  rcases zx_if_some hf with ⟨hc_2, hf⟩ | ⟨hc_2, hf⟩
  · skip
    exact zv_tr hg (v_M_associate_87 x1 x3 G_1 hf)
  · skip
    rcases zx_if_some hf with ⟨hc_3, hf⟩ | ⟨hc_3, hf⟩
    · skip
      exact zv_tr hg (v_M_associate_87 x1 x3 G_1 hf)
    · skip
      exact zv_tr hg (v_M_associate_91 x1 x3 x1 G_1 hf)
theorem v_M_associate_62 {r : Int32} {G1 : zx_G} (x1 x3 : Int32) (G : zx_G) (hf : f_M_associate_62 x1 x3 G = some (r, G1)) : ∀ q k, q ∉ A_M_associate → (q, k) ∉ O_M_associate → G1 q k = G q k := by
  unfold f_M_associate_62 at hf
  have hg : ∀ q k, q ∉ A_M_associate → (q, k) ∉ O_M_associate → G q k = G q k := fun _ _ _ _ => rfl
  exact zv_tr hg (v_M_associate_66 x1 x3 (G 32 13) G hf)
theorem v_M_associate_44 {r : Int32} {G1 : zx_G} (x1 x3 : Int32) (G : zx_G) (hf : f_M_associate_44 x1 x3 G = some (r, G1)) : ∀ q k, q ∉ A_M_associate → (q, k) ∉ O_M_associate → G1 q k = G q k := by
  unfold f_M_associate_44 at hf
  have hg : ∀ q k, q ∉ A_M_associate → (q, k) ∉ O_M_associate → G q k = G q k := fun _ _ _ _ => rfl
  rcases zx_if_some hf with ⟨hc_1, hf⟩ | ⟨hc_1, hf⟩
  · skip
    exact zv_tr hg (v_M_associate_62 x1 x3 G hf)
  · skip
    rcases zx_if_some hf with ⟨hc_2, hf⟩ | ⟨hc_2, hf⟩
    · skip
      exact zv_tr hg (v_M_associate_62 x1 x3 G hf)
    · skip
      exact zv_tr hg (v_M_associate_66 x1 x3 x1 G hf)
theorem v_M_associate_0 {r : Int32} {G1 : zx_G} (x1 x2 : Int32) (G : zx_G) (hf : f_M_associate x1 x2 G = some (r, G1)) : ∀ q k, q ∉ A_M_associate → (q, k) ∉ O_M_associate → G1 q k = G q k := by
  unfold f_M_associate at hf
  have hg : ∀ q k, q ∉ A_M_associate → (q, k) ∉ O_M_associate → G q k = G q k := fun _ _ _ _ => rfl
  rcases zx_if_some hf with ⟨hc_1, hf⟩ | ⟨hc_1, hf⟩
  · skip
    obtain ⟨hb_2, hf⟩ := zx_gd_some hf
    obtain ⟨x3_3, ex3_3, hf⟩ := zx_lt_some hf
    rcases zx_if_some hf with ⟨hc_4, hf⟩ | ⟨hc_4, hf⟩
    · skip
      exact zv_tr hg (v_M_associate_44 x1 x3_3 G hf)
    · skip
      rcases zx_if_some hf with ⟨hc_5, hf⟩ | ⟨hc_5, hf⟩
      · skip
        exact zv_tr hg (v_M_associate_44 x1 x3_3 G hf)
      · skip
        rcases zx_if_some hf with ⟨hc_6, hf⟩ | ⟨hc_6, hf⟩
        · skip
          exact zv_tr hg (v_M_associate_44 x1 x3_3 G hf)
        · skip
          rcases zx_if_some hf with ⟨hc_7, hf⟩ | ⟨hc_7, hf⟩
          · skip
            exact zv_tr hg (v_M_associate_44 x1 x3_3 G hf)
          · skip
            obtain ⟨r_9, G_8, hq_10, hf⟩ := zx_bd_some hf
            have hg := zv_call hg (v_M_fail (5 : Int32) G hq_10) (by decide) (by decide)
            exact zv_tr hg (v_M_associate_44 x1 x3_3 G_8 hf)
  · skip
    obtain ⟨r_12, G_11, hq_13, hf⟩ := zx_bd_some hf
    have hg := zv_call hg (v_M_fail (3 : Int32) G hq_13) (by decide) (by decide)
    exact zv_ret hg hf
theorem v_M_associate (x1 x2 : Int32) (G : zx_G) {r : Int32} {G1 : zx_G} (hf : f_M_associate x1 x2 G = some (r, G1)) : ∀ q k, q ∉ A_M_associate → (q, k) ∉ O_M_associate → G1 q k = G q k := v_M_associate_0 x1 x2 G hf
abbrev A_M_take : List Nat := []
abbrev O_M_take : List (Nat × Nat) := [(32, 10), (32, 11)]
theorem v_M_take_0 {r : Int32} {G1 : zx_G} (G : zx_G) (hf : f_M_take G = some (r, G1)) : ∀ q k, q ∉ A_M_take → (q, k) ∉ O_M_take → G1 q k = G q k := by
  unfold f_M_take at hf
  have hg : ∀ q k, q ∉ A_M_take → (q, k) ∉ O_M_take → G q k = G q k := fun _ _ _ _ => rfl
  rcases zx_if_some hf with ⟨hc_1, hf⟩ | ⟨hc_1, hf⟩
  · skip
    obtain ⟨G_2, eG_2, hf⟩ := zx_lt_some hf
    have hg := zv_uo hg eG_2 (by decide)
    obtain ⟨hb_3, hf⟩ := zx_gd_some hf
    exact zv_ret hg hf
  · skip
    obtain ⟨r_5, G_4, hq_6, hf⟩ := zx_bd_some hf
    have hg := zv_call hg (v_M_fail (3 : Int32) G hq_6) (by decide) (by decide)
    exact zv_ret hg hf
theorem v_M_take (G : zx_G) {r : Int32} {G1 : zx_G} (hf : f_M_take G = some (r, G1)) : ∀ q k, q ∉ A_M_take → (q, k) ∉ O_M_take → G1 q k = G q k := v_M_take_0 G hf
abbrev A_M_property : List Nat := []
abbrev O_M_property : List (Nat × Nat) := []
theorem v_M_property_48 {r : Int32} {G1 : zx_G} {k5 : Int32 → Int32 → Int32 → Int32 → zx_G → Option (Int32 × zx_G)} (hk5 : ∀ (x1 x2 x3 x4 : Int32) (G : zx_G), k5 x1 x2 x3 x4 G = some (r, G1) → ∀ q k, q ∉ A_M_property → (q, k) ∉ O_M_property → G1 q k = G q k) (x1 x2 x3 x4 : Int32) (G : zx_G) (hf : f_M_property_48 k5 x1 x2 x3 x4 G = some (r, G1)) : ∀ q k, q ∉ A_M_property → (q, k) ∉ O_M_property → G1 q k = G q k := by
  unfold f_M_property_48 at hf
  have hg : ∀ q k, q ∉ A_M_property → (q, k) ∉ O_M_property → G q k = G q k := fun _ _ _ _ => rfl
  obtain ⟨x4_1, ex4_1, hf⟩ := zx_lt_some hf
  exact zv_tr hg (hk5 x1 x2 x3 x4_1 G hf)
theorem v_M_property_5 {r : Int32} {G1 : zx_G} : ∀ (n : Nat) (x1 x2 x3 x4 : Int32) (G : zx_G), f_M_property_5 n x1 x2 x3 x4 G = some (r, G1) → ∀ q k, q ∉ A_M_property → (q, k) ∉ O_M_property → G1 q k = G q k := by
  intro n
  induction n with
  | zero => intro x1 x2 x3 x4 G hf; cases hf
  | succ n ih =>
    intro x1 x2 x3 x4 G hf
    unfold f_M_property_5 at hf
    have hg : ∀ q k, q ∉ A_M_property → (q, k) ∉ O_M_property → G q k = G q k := fun _ _ _ _ => rfl
    rcases zx_if_some hf with ⟨hc_1, hf⟩ | ⟨hc_1, hf⟩
    · skip
      exact zv_ret hg hf
    · skip
      obtain ⟨hb_2, hf⟩ := zx_gd_some hf
      rcases zx_if_some hf with ⟨hc_3, hf⟩ | ⟨hc_3, hf⟩
      · skip
        exact zv_tr hg (v_M_property_48 ih x1 x2 x3 x4 G hf)
      · skip
        obtain ⟨hb_4, hf⟩ := zx_gd_some hf
        rcases zx_if_some hf with ⟨hc_5, hf⟩ | ⟨hc_5, hf⟩
        · skip
          exact zv_tr hg (v_M_property_48 ih x1 x2 x3 x4 G hf)
        · skip
          obtain ⟨x3_6, ex3_6, hf⟩ := zx_lt_some hf
          rcases zx_if_some hf with ⟨hc_7, hf⟩ | ⟨hc_7, hf⟩
          · skip
            exact zv_tr hg (v_M_property_48 ih x1 x2 x3_6 x4 G hf)
          · skip
            exact zv_ret hg hf
theorem v_M_property_0 {r : Int32} {G1 : zx_G} (x1 x2 : Int32) (G : zx_G) (hf : f_M_property x1 x2 G = some (r, G1)) : ∀ q k, q ∉ A_M_property → (q, k) ∉ O_M_property → G1 q k = G q k := by
  unfold f_M_property at hf
  have hg : ∀ q k, q ∉ A_M_property → (q, k) ∉ O_M_property → G q k = G q k := fun _ _ _ _ => rfl
  obtain ⟨x3_1, ex3_1, hf⟩ := zx_lt_some hf
  obtain ⟨x4_2, ex4_2, hf⟩ := zx_lt_some hf
  exact zv_tr hg (v_M_property_5 2048 x1 x2 x3_1 x4_2 G hf)
theorem v_M_property (x1 x2 : Int32) (G : zx_G) {r : Int32} {G1 : zx_G} (hf : f_M_property x1 x2 G = some (r, G1)) : ∀ q k, q ∉ A_M_property → (q, k) ∉ O_M_property → G1 q k = G q k := v_M_property_0 x1 x2 G hf
abbrev A_M_properties : List Nat := []
abbrev O_M_properties : List (Nat × Nat) := [(32, 10), (32, 11), (32, 12), (32, 13), (32, 14), (32, 15)]
theorem v_M_properties_144 {r : Int32} {G1 : zx_G} {k35 : Int32 → Int32 → zx_G → Option (Int32 × zx_G)} {k77 : Int32 → Int32 → Int32 → Int32 → Int32 → zx_G → Option (Int32 × zx_G)} (hk35 : ∀ (x1 x3 : Int32) (G : zx_G), k35 x1 x3 G = some (r, G1) → ∀ q k, q ∉ A_M_properties → (q, k) ∉ O_M_properties → G1 q k = G q k) (hk77 : ∀ (x1 x3 x4 x5 x6 : Int32) (G : zx_G), k77 x1 x3 x4 x5 x6 G = some (r, G1) → ∀ q k, q ∉ A_M_properties → (q, k) ∉ O_M_properties → G1 q k = G q k) (x1 x3 x4 x5 x6 : Int32) (G : zx_G) (hf : f_M_properties_144 k35 k77 x1 x3 x4 x5 x6 G = some (r, G1)) : ∀ q k, q ∉ A_M_properties → (q, k) ∉ O_M_properties → G1 q k = G q k := by
  unfold f_M_properties_144 at hf
  have hg : ∀ q k, q ∉ A_M_properties → (q, k) ∉ O_M_properties → G q k = G q k := fun _ _ _ _ => rfl
  obtain ⟨x6_1, ex6_1, hf⟩ := zx_lt_some hf
  exact zv_tr hg (hk77 x1 x3 x4 x5 x6_1 G hf)
theorem v_M_properties_141 {r : Int32} {G1 : zx_G} {k35 : Int32 → Int32 → zx_G → Option (Int32 × zx_G)} {k77 : Int32 → Int32 → Int32 → Int32 → Int32 → zx_G → Option (Int32 × zx_G)} (hk35 : ∀ (x1 x3 : Int32) (G : zx_G), k35 x1 x3 G = some (r, G1) → ∀ q k, q ∉ A_M_properties → (q, k) ∉ O_M_properties → G1 q k = G q k) (hk77 : ∀ (x1 x3 x4 x5 x6 : Int32) (G : zx_G), k77 x1 x3 x4 x5 x6 G = some (r, G1) → ∀ q k, q ∉ A_M_properties → (q, k) ∉ O_M_properties → G1 q k = G q k) (x1 x3 x4 x5 x6 s1 s2 : Int32) (G : zx_G) (hf : f_M_properties_141 k35 k77 x1 x3 x4 x5 x6 s1 s2 G = some (r, G1)) : ∀ q k, q ∉ A_M_properties → (q, k) ∉ O_M_properties → G1 q k = G q k := by
  unfold f_M_properties_141 at hf
  have hg : ∀ q k, q ∉ A_M_properties → (q, k) ∉ O_M_properties → G q k = G q k := fun _ _ _ _ => rfl
  obtain ⟨r_2, G_1, hq_3, hf⟩ := zx_bd_some hf
  have hg := zv_call hg (v_M_associate s1 s2 G hq_3) (by decide) (by decide)
  exact zv_tr hg (v_M_properties_144 hk35 hk77 x1 x3 x4 x5 x6 G_1 hf)
theorem v_M_properties_150 {r : Int32} {G1 : zx_G} {k35 : Int32 → Int32 → zx_G → Option (Int32 × zx_G)} (hk35 : ∀ (x1 x3 : Int32) (G : zx_G), k35 x1 x3 G = some (r, G1) → ∀ q k, q ∉ A_M_properties → (q, k) ∉ O_M_properties → G1 q k = G q k) (x1 x3 : Int32) (G : zx_G) (hf : f_M_properties_150 k35 x1 x3 G = some (r, G1)) : ∀ q k, q ∉ A_M_properties → (q, k) ∉ O_M_properties → G1 q k = G q k := by
  unfold f_M_properties_150 at hf
  have hg : ∀ q k, q ∉ A_M_properties → (q, k) ∉ O_M_properties → G q k = G q k := fun _ _ _ _ => rfl
  exact zv_tr hg (hk35 x1 x3 G hf)
theorem v_M_properties_77 {r : Int32} {G1 : zx_G} {k35 : Int32 → Int32 → zx_G → Option (Int32 × zx_G)} (hk35 : ∀ (x1 x3 : Int32) (G : zx_G), k35 x1 x3 G = some (r, G1) → ∀ q k, q ∉ A_M_properties → (q, k) ∉ O_M_properties → G1 q k = G q k) : ∀ (n : Nat) (x1 x3 x4 x5 x6 : Int32) (G : zx_G), f_M_properties_77 k35 n x1 x3 x4 x5 x6 G = some (r, G1) → ∀ q k, q ∉ A_M_properties → (q, k) ∉ O_M_properties → G1 q k = G q k := by
  intro n
  induction n with
  | zero => intro x1 x3 x4 x5 x6 G hf; cases hf
  | succ n ih =>
    intro x1 x3 x4 x5 x6 G hf
    unfold f_M_properties_77 at hf
    have hg : ∀ q k, q ∉ A_M_properties → (q, k) ∉ O_M_properties → G q k = G q k := fun _ _ _ _ => rfl
    rcases zx_if_some hf with ⟨hc_1, hf⟩ | ⟨hc_1, hf⟩
    · skip
      exact zv_tr hg (v_M_properties_150 hk35 x1 x3 G hf)
    · skip
      rcases zx_if_some hf with ⟨hc_2, hf⟩ | ⟨hc_2, hf⟩
      · skip
        exact zv_tr hg (v_M_properties_150 hk35 x1 x3 G hf)
      · skip
        obtain ⟨r_4, G_3, hq_5, hf⟩ := zx_bd_some hf
        have hg := zv_call hg (v_M_take G hq_5) (by decide) (by decide)
        obtain ⟨x7_6, ex7_6, hf⟩ := zx_lt_some hf
        rcases zx_if_some hf with ⟨hc_7, hf⟩ | ⟨hc_7, hf⟩
        · skip
          exact zv_tr hg (v_M_properties_144 hk35 ih x1 x3 x4 x5 x6 G_3 hf)
        · skip
          rcases zx_if_some hf with ⟨hc_8, hf⟩ | ⟨hc_8, hf⟩
          · skip
            exact zv_tr hg (v_M_properties_144 hk35 ih x1 x3 x4 x5 x6 G_3 hf)
          · skip
            rcases zx_if_some hf with ⟨hc_9, hf⟩ | ⟨hc_9, hf⟩
            · skip
              exact zv_tr hg (v_M_properties_144 hk35 ih x1 x3 x4 x5 x6 G_3 hf)
            · skip
              obtain ⟨r_11, G_10, hq_12, hf⟩ := zx_bd_some hf
              have hg := zv_call hg (v_M_property x1 (x7_6 &&& (127 : Int32)) G_3 hq_12) (by decide) (by decide)
              rcases zx_if_some hf with ⟨hc_13, hf⟩ | ⟨hc_13, hf⟩
              · skip
                exact zv_tr hg (v_M_properties_141 hk35 ih x1 x3 x4 x5 x6 r_11 (0 : Int32) G_10 hf)
              · skip
                exact zv_tr hg (v_M_properties_141 hk35 ih x1 x3 x4 x5 x6 r_11 (1 : Int32) G_10 hf)
theorem v_M_properties_66 {r : Int32} {G1 : zx_G} {k35 : Int32 → Int32 → zx_G → Option (Int32 × zx_G)} (hk35 : ∀ (x1 x3 : Int32) (G : zx_G), k35 x1 x3 G = some (r, G1) → ∀ q k, q ∉ A_M_properties → (q, k) ∉ O_M_properties → G1 q k = G q k) (x1 x3 s0 : Int32) (G : zx_G) (hf : f_M_properties_66 k35 x1 x3 s0 G = some (r, G1)) : ∀ q k, q ∉ A_M_properties → (q, k) ∉ O_M_properties → G1 q k = G q k := by
  unfold f_M_properties_66 at hf
  have hg : ∀ q k, q ∉ A_M_properties → (q, k) ∉ O_M_properties → G q k = G q k := fun _ _ _ _ => rfl
  obtain ⟨x4_1, ex4_1, hf⟩ := zx_lt_some hf
  obtain ⟨r_3, G_2, hq_4, hf⟩ := zx_bd_some hf
  have hg := zv_call hg (v_M_take G hq_4) (by decide) (by decide)
  obtain ⟨x5_5, ex5_5, hf⟩ := zx_lt_some hf
  obtain ⟨x6_6, ex6_6, hf⟩ := zx_lt_some hf
  exact zv_tr hg (v_M_properties_77 hk35 2048 x1 x3 x4_1 x5_5 x6_6 G_2 hf)
theorem v_M_properties_324 {r : Int32} {G1 : zx_G} (G : zx_G) (hf : f_M_properties_324 G = some (r, G1)) : ∀ q k, q ∉ A_M_properties → (q, k) ∉ O_M_properties → G1 q k = G q k := by
  unfold f_M_properties_324 at hf
  have hg : ∀ q k, q ∉ A_M_properties → (q, k) ∉ O_M_properties → G q k = G q k := fun _ _ _ _ => rfl
  exact zv_ret hg hf
theorem v_M_properties_314 {r : Int32} {G1 : zx_G} (x4 : Int32) (G : zx_G) (hf : f_M_properties_314 x4 G = some (r, G1)) : ∀ q k, q ∉ A_M_properties → (q, k) ∉ O_M_properties → G1 q k = G q k := by
  unfold f_M_properties_314 at hf
  have hg : ∀ q k, q ∉ A_M_properties → (q, k) ∉ O_M_properties → G q k = G q k := fun _ _ _ _ => rfl
  rcases zx_if_some hf with ⟨hc_1, hf⟩ | ⟨hc_1, hf⟩
  · skip
    exact zv_tr hg (v_M_properties_324 G hf)
  · skip
    obtain ⟨r_3, G_2, hq_4, hf⟩ := zx_bd_some hf
    have hg := zv_call hg (v_M_fail (3 : Int32) G hq_4) (by decide) (by decide)
    exact zv_tr hg (v_M_properties_324 G_2 hf)
theorem v_M_properties_312 {r : Int32} {G1 : zx_G} (s0 : Int32) (G : zx_G) (hf : f_M_properties_312 s0 G = some (r, G1)) : ∀ q k, q ∉ A_M_properties → (q, k) ∉ O_M_properties → G1 q k = G q k := by
  unfold f_M_properties_312 at hf
  have hg : ∀ q k, q ∉ A_M_properties → (q, k) ∉ O_M_properties → G q k = G q k := fun _ _ _ _ => rfl
  obtain ⟨x4_1, ex4_1, hf⟩ := zx_lt_some hf
  exact zv_tr hg (v_M_properties_314 x4_1 G hf)
theorem v_M_properties_281 {r : Int32} {G1 : zx_G} (s0 : Int32) (G : zx_G) (hf : f_M_properties_281 s0 G = some (r, G1)) : ∀ q k, q ∉ A_M_properties → (q, k) ∉ O_M_properties → G1 q k = G q k := by
  unfold f_M_properties_281 at hf
  have hg : ∀ q k, q ∉ A_M_properties → (q, k) ∉ O_M_properties → G q k = G q k := fun _ _ _ _ => rfl
  obtain ⟨x5_1, ex5_1, hf⟩ := zx_lt_some hf
  obtain ⟨hb_2, hf⟩ := zx_gd_some hf
  obtain ⟨hb_3, hf⟩ := zx_gd_some hf
  rcases zx_if_some hf with ⟨hc_4, hf⟩ | ⟨hc_4, hf⟩
  · skip
    exact zv_tr hg (v_M_properties_312 (0 : Int32) G hf)
  · skip
    exact zv_tr hg (v_M_properties_312 (1 : Int32) G hf)
theorem v_M_properties_226 {r : Int32} {G1 : zx_G} (s0 : Int32) (G : zx_G) (hf : f_M_properties_226 s0 G = some (r, G1)) : ∀ q k, q ∉ A_M_properties → (q, k) ∉ O_M_properties → G1 q k = G q k := by
  unfold f_M_properties_226 at hf
  have hg : ∀ q k, q ∉ A_M_properties → (q, k) ∉ O_M_properties → G q k = G q k := fun _ _ _ _ => rfl
  obtain ⟨x4_1, ex4_1, hf⟩ := zx_lt_some hf
  rcases zx_if_some hf with ⟨hc_2, hf⟩ | ⟨hc_2, hf⟩
  · skip
    exact zv_tr hg (v_M_properties_314 x4_1 G hf)
  · skip
    rcases zx_if_some hf with ⟨hc_3, hf⟩ | ⟨hc_3, hf⟩
    · skip
      exact zv_tr hg (v_M_properties_314 x4_1 G hf)
    · skip
      obtain ⟨hb_4, hf⟩ := zx_gd_some hf
      obtain ⟨hb_5, hf⟩ := zx_gd_some hf
      rcases zx_if_some hf with ⟨hc_6, hf⟩ | ⟨hc_6, hf⟩
      · skip
        exact zv_tr hg (v_M_properties_281 (999 : Int32) G hf)
      · skip
        obtain ⟨hb_7, hf⟩ := zx_gd_some hf
        obtain ⟨hb_8, hf⟩ := zx_gd_some hf
        exact zv_tr hg (v_M_properties_281 (G 33 (Int32.toNatClampNeg (G 34 (Int32.toNatClampNeg (G 32 15))))) G hf)
theorem v_M_properties_225 {r : Int32} {G1 : zx_G} (G : zx_G) (hf : f_M_properties_225 G = some (r, G1)) : ∀ q k, q ∉ A_M_properties → (q, k) ∉ O_M_properties → G1 q k = G q k := by
  unfold f_M_properties_225 at hf
  have hg : ∀ q k, q ∉ A_M_properties → (q, k) ∉ O_M_properties → G q k = G q k := fun _ _ _ _ => rfl
  exact zv_tr hg (v_M_properties_226 (0 : Int32) G hf)
theorem v_M_properties_153 {r : Int32} {G1 : zx_G} (G : zx_G) (hf : f_M_properties_153 G = some (r, G1)) : ∀ q k, q ∉ A_M_properties → (q, k) ∉ O_M_properties → G1 q k = G q k := by
  unfold f_M_properties_153 at hf
  have hg : ∀ q k, q ∉ A_M_properties → (q, k) ∉ O_M_properties → G q k = G q k := fun _ _ _ _ => rfl
  rcases zx_if_some hf with ⟨hc_1, hf⟩ | ⟨hc_1, hf⟩
  · skip
    rcases zx_if_some hf with ⟨hc_2, hf⟩ | ⟨hc_2, hf⟩
    · skip
      exact zv_tr hg (v_M_properties_225 G hf)
    · skip
      rcases zx_if_some hf with ⟨hc_3, hf⟩ | ⟨hc_3, hf⟩
      · skip
        exact zv_tr hg (v_M_properties_225 G hf)
      · skip
        obtain ⟨hb_4, hf⟩ := zx_gd_some hf
        obtain ⟨hb_5, hf⟩ := zx_gd_some hf
        rcases zx_if_some hf with ⟨hc_6, hf⟩ | ⟨hc_6, hf⟩
        · skip
          exact zv_tr hg (v_M_properties_225 G hf)
        · skip
          obtain ⟨hb_7, hf⟩ := zx_gd_some hf
          obtain ⟨hb_8, hf⟩ := zx_gd_some hf
          rcases zx_if_some hf with ⟨hc_9, hf⟩ | ⟨hc_9, hf⟩
          · skip
            exact zv_tr hg (v_M_properties_225 G hf)
          · skip
            exact zv_tr hg (v_M_properties_226 (1 : Int32) G hf)
  · skip
    exact zv_ret hg hf
theorem v_M_properties_35 {r : Int32} {G1 : zx_G} : ∀ (n : Nat) (x1 x3 : Int32) (G : zx_G), f_M_properties_35 n x1 x3 G = some (r, G1) → ∀ q k, q ∉ A_M_properties → (q, k) ∉ O_M_properties → G1 q k = G q k := by
  intro n
  induction n with
  | zero => intro x1 x3 G hf; cases hf
  | succ n ih =>
    intro x1 x3 G hf
    unfold f_M_properties_35 at hf
    have hg : ∀ q k, q ∉ A_M_properties → (q, k) ∉ O_M_properties → G q k = G q k := fun _ _ _ _ => rfl
    rcases zx_if_some hf with ⟨hc_1, hf⟩ | ⟨hc_1, hf⟩
    · skip
      exact zv_tr hg (v_M_properties_153 G hf)
    · skip
      rcases zx_if_some hf with ⟨hc_2, hf⟩ | ⟨hc_2, hf⟩
      · skip
        exact zv_tr hg (v_M_properties_153 G hf)
      · skip
        obtain ⟨r_4, G_3, hq_5, hf⟩ := zx_bd_some hf
        have hg := zv_call hg (v_M_take G hq_5) (by decide) (by decide)
        rcases zx_if_some hf with ⟨hc_6, hf⟩ | ⟨hc_6, hf⟩
        · skip
          exact zv_tr hg (v_M_properties_66 ih x1 x3 (0 : Int32) G_3 hf)
        · skip
          exact zv_tr hg (v_M_properties_66 ih x1 x3 (1 : Int32) G_3 hf)
theorem v_M_properties_0 {r : Int32} {G1 : zx_G} (x1 x2 x3 : Int32) (G : zx_G) (hf : f_M_properties x1 x2 x3 G = some (r, G1)) : ∀ q k, q ∉ A_M_properties → (q, k) ∉ O_M_properties → G1 q k = G q k := by
  unfold f_M_properties at hf
  have hg : ∀ q k, q ∉ A_M_properties → (q, k) ∉ O_M_properties → G q k = G q k := fun _ _ _ _ => rfl
  obtain ⟨G_1, eG_1, hf⟩ := zx_lt_some hf
  have hg := zv_uo hg eG_1 (by decide)
  obtain ⟨G_2, eG_2, hf⟩ := zx_lt_some hf
  have hg := zv_uo hg eG_2 (by decide)
  obtain ⟨G_3, eG_3, hf⟩ := zx_lt_some hf
  have hg := zv_uo hg eG_3 (by decide)
  obtain ⟨hb_4, hf⟩ := zx_gd_some hf
  obtain ⟨G_5, eG_5, hf⟩ := zx_lt_some hf
  have hg := zv_uo hg eG_5 (by decide)
  obtain ⟨hb_6, hf⟩ := zx_gd_some hf
  obtain ⟨G_7, eG_7, hf⟩ := zx_lt_some hf
  have hg := zv_uo hg eG_7 (by decide)
  exact zv_tr hg (v_M_properties_35 2048 x1 x3 G_7 hf)
theorem v_M_properties (x1 x2 x3 : Int32) (G : zx_G) {r : Int32} {G1 : zx_G} (hf : f_M_properties x1 x2 x3 G = some (r, G1)) : ∀ q k, q ∉ A_M_properties → (q, k) ∉ O_M_properties → G1 q k = G q k := v_M_properties_0 x1 x2 x3 G hf
abbrev A_M_gather : List Nat := [39]
abbrev O_M_gather : List (Nat × Nat) := [(32, 8), (32, 10)]
theorem v_M_gather_22 {r : Int32} {G1 : zx_G} (G : zx_G) (hf : f_M_gather_22 G = some (r, G1)) : ∀ q k, q ∉ A_M_gather → (q, k) ∉ O_M_gather → G1 q k = G q k := by
  unfold f_M_gather_22 at hf
  have hg : ∀ q k, q ∉ A_M_gather → (q, k) ∉ O_M_gather → G q k = G q k := fun _ _ _ _ => rfl
  obtain ⟨r_2, G_1, hq_3, hf⟩ := zx_bd_some hf
  have hg := zv_call hg (v_M_fail (4 : Int32) G hq_3) (by decide) (by decide)
  exact zv_ret hg hf
theorem v_M_gather_30 {r : Int32} {G1 : zx_G} : ∀ (n : Nat) (x1 x2 x3 : Int32) (G : zx_G), f_M_gather_30 n x1 x2 x3 G = some (r, G1) → ∀ q k, q ∉ A_M_gather → (q, k) ∉ O_M_gather → G1 q k = G q k := by
  intro n
  induction n with
  | zero => intro x1 x2 x3 G hf; cases hf
  | succ n ih =>
    intro x1 x2 x3 G hf
    unfold f_M_gather_30 at hf
    have hg : ∀ q k, q ∉ A_M_gather → (q, k) ∉ O_M_gather → G q k = G q k := fun _ _ _ _ => rfl
    rcases zx_if_some hf with ⟨hc_1, hf⟩ | ⟨hc_1, hf⟩
    · skip
      obtain ⟨G_2, eG_2, hf⟩ := zx_lt_some hf
      have hg := zv_uo hg eG_2 (by decide)
      exact zv_ret hg hf
    · skip
      obtain ⟨hb_3, hf⟩ := zx_gd_some hf
      obtain ⟨hb_4, hf⟩ := zx_gd_some hf
      obtain ⟨G_5, eG_5, hf⟩ := zx_lt_some hf
      have hg := zv_ua hg eG_5 (by decide)
      obtain ⟨x3_6, ex3_6, hf⟩ := zx_lt_some hf
      exact zv_tr hg (ih x1 x2 x3_6 G_5 hf)
theorem v_M_gather_0 {r : Int32} {G1 : zx_G} (x1 x2 : Int32) (G : zx_G) (hf : f_M_gather x1 x2 G = some (r, G1)) : ∀ q k, q ∉ A_M_gather → (q, k) ∉ O_M_gather → G1 q k = G q k := by
  unfold f_M_gather at hf
  have hg : ∀ q k, q ∉ A_M_gather → (q, k) ∉ O_M_gather → G q k = G q k := fun _ _ _ _ => rfl
  rcases zx_if_some hf with ⟨hc_1, hf⟩ | ⟨hc_1, hf⟩
  · skip
    exact zv_tr hg (v_M_gather_22 G hf)
  · skip
    rcases zx_if_some hf with ⟨hc_2, hf⟩ | ⟨hc_2, hf⟩
    · skip
      obtain ⟨x3_3, ex3_3, hf⟩ := zx_lt_some hf
      exact zv_tr hg (v_M_gather_30 2048 x1 x2 x3_3 G hf)
    · skip
      exact zv_tr hg (v_M_gather_22 G hf)
theorem v_M_gather (x1 x2 : Int32) (G : zx_G) {r : Int32} {G1 : zx_G} (hf : f_M_gather x1 x2 G = some (r, G1)) : ∀ q k, q ∉ A_M_gather → (q, k) ∉ O_M_gather → G1 q k = G q k := v_M_gather_0 x1 x2 G hf
abbrev A_M_extents : List Nat := [39]
abbrev O_M_extents : List (Nat × Nat) := [(32, 8), (32, 10), (32, 11), (32, 12)]
theorem v_M_extents_71 {r : Int32} {G1 : zx_G} (G : zx_G) (hf : f_M_extents_71 G = some (r, G1)) : ∀ q k, q ∉ A_M_extents → (q, k) ∉ O_M_extents → G1 q k = G q k := by
  unfold f_M_extents_71 at hf
  have hg : ∀ q k, q ∉ A_M_extents → (q, k) ∉ O_M_extents → G q k = G q k := fun _ _ _ _ => rfl
  obtain ⟨r_2, G_1, hq_3, hf⟩ := zx_bd_some hf
  have hg := zv_call hg (v_M_fail (3 : Int32) G hq_3) (by decide) (by decide)
  exact zv_ret hg hf
theorem v_M_extents_219 {r : Int32} {G1 : zx_G} {k129 : Int32 → Int32 → Int32 → Int32 → zx_G → Option (Int32 × zx_G)} {k173 : Int32 → Int32 → Int32 → Int32 → Int32 → Int32 → zx_G → Option (Int32 × zx_G)} (hk129 : ∀ (x5 x6 x7 x8 : Int32) (G : zx_G), k129 x5 x6 x7 x8 G = some (r, G1) → ∀ q k, q ∉ A_M_extents → (q, k) ∉ O_M_extents → G1 q k = G q k) (hk173 : ∀ (x5 x6 x7 x8 x9 x10 : Int32) (G : zx_G), k173 x5 x6 x7 x8 x9 x10 G = some (r, G1) → ∀ q k, q ∉ A_M_extents → (q, k) ∉ O_M_extents → G1 q k = G q k) (x5 x6 x7 x8 x9 x10 : Int32) (G : zx_G) (hf : f_M_extents_219 k129 k173 x5 x6 x7 x8 x9 x10 G = some (r, G1)) : ∀ q k, q ∉ A_M_extents → (q, k) ∉ O_M_extents → G1 q k = G q k := by
  unfold f_M_extents_219 at hf
  have hg : ∀ q k, q ∉ A_M_extents → (q, k) ∉ O_M_extents → G q k = G q k := fun _ _ _ _ => rfl
  obtain ⟨x10_1, ex10_1, hf⟩ := zx_lt_some hf
  exact zv_tr hg (hk173 x5 x6 x7 x8 x9 x10_1 G hf)
theorem v_M_extents_225 {r : Int32} {G1 : zx_G} {k129 : Int32 → Int32 → Int32 → Int32 → zx_G → Option (Int32 × zx_G)} (hk129 : ∀ (x5 x6 x7 x8 : Int32) (G : zx_G), k129 x5 x6 x7 x8 G = some (r, G1) → ∀ q k, q ∉ A_M_extents → (q, k) ∉ O_M_extents → G1 q k = G q k) (x5 x6 x7 x8 : Int32) (G : zx_G) (hf : f_M_extents_225 k129 x5 x6 x7 x8 G = some (r, G1)) : ∀ q k, q ∉ A_M_extents → (q, k) ∉ O_M_extents → G1 q k = G q k := by
  unfold f_M_extents_225 at hf
  have hg : ∀ q k, q ∉ A_M_extents → (q, k) ∉ O_M_extents → G q k = G q k := fun _ _ _ _ => rfl
  obtain ⟨x8_1, ex8_1, hf⟩ := zx_lt_some hf
  exact zv_tr hg (hk129 x5 x6 x7 x8_1 G hf)
theorem v_M_extents_173 {r : Int32} {G1 : zx_G} {k129 : Int32 → Int32 → Int32 → Int32 → zx_G → Option (Int32 × zx_G)} (hk129 : ∀ (x5 x6 x7 x8 : Int32) (G : zx_G), k129 x5 x6 x7 x8 G = some (r, G1) → ∀ q k, q ∉ A_M_extents → (q, k) ∉ O_M_extents → G1 q k = G q k) : ∀ (n : Nat) (x5 x6 x7 x8 x9 x10 : Int32) (G : zx_G), f_M_extents_173 k129 n x5 x6 x7 x8 x9 x10 G = some (r, G1) → ∀ q k, q ∉ A_M_extents → (q, k) ∉ O_M_extents → G1 q k = G q k := by
  intro n
  induction n with
  | zero => intro x5 x6 x7 x8 x9 x10 G hf; cases hf
  | succ n ih =>
    intro x5 x6 x7 x8 x9 x10 G hf
    unfold f_M_extents_173 at hf
    have hg : ∀ q k, q ∉ A_M_extents → (q, k) ∉ O_M_extents → G q k = G q k := fun _ _ _ _ => rfl
    rcases zx_if_some hf with ⟨hc_1, hf⟩ | ⟨hc_1, hf⟩
    · skip
      exact zv_tr hg (v_M_extents_225 hk129 x5 x6 x7 x8 G hf)
    · skip
      rcases zx_if_some hf with ⟨hc_2, hf⟩ | ⟨hc_2, hf⟩
      · skip
        exact zv_tr hg (v_M_extents_225 hk129 x5 x6 x7 x8 G hf)
      · skip
        obtain ⟨r_4, G_3, hq_5, hf⟩ := zx_bd_some hf
        have hg := zv_call hg (v_M_take G hq_5) (by decide) (by decide)
        obtain ⟨x11_6, ex11_6, hf⟩ := zx_lt_some hf
        obtain ⟨r_8, G_7, hq_9, hf⟩ := zx_bd_some hf
        have hg := zv_call hg (v_M_take G_3 hq_9) (by decide) (by decide)
        obtain ⟨x12_10, ex12_10, hf⟩ := zx_lt_some hf
        rcases zx_if_some hf with ⟨hc_11, hf⟩ | ⟨hc_11, hf⟩
        · skip
          exact zv_tr hg (v_M_extents_219 hk129 ih x5 x6 x7 x8 x9 x10 G_7 hf)
        · skip
          rcases zx_if_some hf with ⟨hc_12, hf⟩ | ⟨hc_12, hf⟩
          · skip
            exact zv_tr hg (v_M_extents_219 hk129 ih x5 x6 x7 x8 x9 x10 G_7 hf)
          · skip
            obtain ⟨r_14, G_13, hq_15, hf⟩ := zx_bd_some hf
            have hg := zv_call hg (v_M_gather x11_6 x12_10 G_7 hq_15) (by decide) (by decide)
            exact zv_tr hg (v_M_extents_219 hk129 ih x5 x6 x7 x8 x9 x10 G_13 hf)
theorem v_M_extents_162 {r : Int32} {G1 : zx_G} {k129 : Int32 → Int32 → Int32 → Int32 → zx_G → Option (Int32 × zx_G)} (hk129 : ∀ (x5 x6 x7 x8 : Int32) (G : zx_G), k129 x5 x6 x7 x8 G = some (r, G1) → ∀ q k, q ∉ A_M_extents → (q, k) ∉ O_M_extents → G1 q k = G q k) (x5 x6 x8 s0 : Int32) (G : zx_G) (hf : f_M_extents_162 k129 x5 x6 x8 s0 G = some (r, G1)) : ∀ q k, q ∉ A_M_extents → (q, k) ∉ O_M_extents → G1 q k = G q k := by
  unfold f_M_extents_162 at hf
  have hg : ∀ q k, q ∉ A_M_extents → (q, k) ∉ O_M_extents → G q k = G q k := fun _ _ _ _ => rfl
  obtain ⟨x7_1, ex7_1, hf⟩ := zx_lt_some hf
  obtain ⟨r_3, G_2, hq_4, hf⟩ := zx_bd_some hf
  have hg := zv_call hg (v_M_take G hq_4) (by decide) (by decide)
  obtain ⟨x9_5, ex9_5, hf⟩ := zx_lt_some hf
  obtain ⟨x10_6, ex10_6, hf⟩ := zx_lt_some hf
  exact zv_tr hg (v_M_extents_173 hk129 2048 x5 x6 x7_1 x8 x9_5 x10_6 G_2 hf)
theorem v_M_extents_241 {r : Int32} {G1 : zx_G} (G : zx_G) (hf : f_M_extents_241 G = some (r, G1)) : ∀ q k, q ∉ A_M_extents → (q, k) ∉ O_M_extents → G1 q k = G q k := by
  unfold f_M_extents_241 at hf
  have hg : ∀ q k, q ∉ A_M_extents → (q, k) ∉ O_M_extents → G q k = G q k := fun _ _ _ _ => rfl
  exact zv_ret hg hf
theorem v_M_extents_231 {r : Int32} {G1 : zx_G} (x7 : Int32) (G : zx_G) (hf : f_M_extents_231 x7 G = some (r, G1)) : ∀ q k, q ∉ A_M_extents → (q, k) ∉ O_M_extents → G1 q k = G q k := by
  unfold f_M_extents_231 at hf
  have hg : ∀ q k, q ∉ A_M_extents → (q, k) ∉ O_M_extents → G q k = G q k := fun _ _ _ _ => rfl
  rcases zx_if_some hf with ⟨hc_1, hf⟩ | ⟨hc_1, hf⟩
  · skip
    exact zv_tr hg (v_M_extents_241 G hf)
  · skip
    obtain ⟨r_3, G_2, hq_4, hf⟩ := zx_bd_some hf
    have hg := zv_call hg (v_M_fail (3 : Int32) G hq_4) (by decide) (by decide)
    exact zv_tr hg (v_M_extents_241 G_2 hf)
theorem v_M_extents_129 {r : Int32} {G1 : zx_G} : ∀ (n : Nat) (x5 x6 x7 x8 : Int32) (G : zx_G), f_M_extents_129 n x5 x6 x7 x8 G = some (r, G1) → ∀ q k, q ∉ A_M_extents → (q, k) ∉ O_M_extents → G1 q k = G q k := by
  intro n
  induction n with
  | zero => intro x5 x6 x7 x8 G hf; cases hf
  | succ n ih =>
    intro x5 x6 x7 x8 G hf
    unfold f_M_extents_129 at hf
    have hg : ∀ q k, q ∉ A_M_extents → (q, k) ∉ O_M_extents → G q k = G q k := fun _ _ _ _ => rfl
    rcases zx_if_some hf with ⟨hc_1, hf⟩ | ⟨hc_1, hf⟩
    · skip
      exact zv_tr hg (v_M_extents_231 x7 G hf)
    · skip
      rcases zx_if_some hf with ⟨hc_2, hf⟩ | ⟨hc_2, hf⟩
      · skip
        exact zv_tr hg (v_M_extents_231 x7 G hf)
      · skip
        rcases zx_if_some hf with ⟨hc_3, hf⟩ | ⟨hc_3, hf⟩
        · skip
          exact zv_tr hg (v_M_extents_231 x7 G hf)
        · skip
          obtain ⟨r_5, G_4, hq_6, hf⟩ := zx_bd_some hf
          have hg := zv_call hg (v_M_take G hq_6) (by decide) (by decide)
          rcases zx_if_some hf with ⟨hc_7, hf⟩ | ⟨hc_7, hf⟩
          · skip
            exact zv_tr hg (v_M_extents_162 ih x5 x6 x8 (0 : Int32) G_4 hf)
          · skip
            exact zv_tr hg (v_M_extents_162 ih x5 x6 x8 (1 : Int32) G_4 hf)
theorem v_M_extents_31 {r : Int32} {G1 : zx_G} (x2 x3 s0 : Int32) (G : zx_G) (hf : f_M_extents_31 x2 x3 s0 G = some (r, G1)) : ∀ q k, q ∉ A_M_extents → (q, k) ∉ O_M_extents → G1 q k = G q k := by
  unfold f_M_extents_31 at hf
  have hg : ∀ q k, q ∉ A_M_extents → (q, k) ∉ O_M_extents → G q k = G q k := fun _ _ _ _ => rfl
  obtain ⟨x4_1, ex4_1, hf⟩ := zx_lt_some hf
  rcases zx_if_some hf with ⟨hc_2, hf⟩ | ⟨hc_2, hf⟩
  · skip
    exact zv_tr hg (v_M_extents_71 G hf)
  · skip
    rcases zx_if_some hf with ⟨hc_3, hf⟩ | ⟨hc_3, hf⟩
    · skip
      exact zv_tr hg (v_M_extents_71 G hf)
    · skip
      rcases zx_if_some hf with ⟨hc_4, hf⟩ | ⟨hc_4, hf⟩
      · skip
        exact zv_tr hg (v_M_extents_71 G hf)
      · skip
        obtain ⟨r_6, G_5, hq_7, hf⟩ := zx_bd_some hf
        have hg := zv_call hg (v_M_child x2 (97 : Int32) G hq_7) (by decide) (by decide)
        rcases zx_if_some hf with ⟨hc_8, hf⟩ | ⟨hc_8, hf⟩
        · skip
          exact zv_tr hg (v_M_extents_71 G_5 hf)
        · skip
          obtain ⟨hb_9, hf⟩ := zx_gd_some hf
          obtain ⟨hb_10, hf⟩ := zx_gd_some hf
          rcases zx_if_some hf with ⟨hc_11, hf⟩ | ⟨hc_11, hf⟩
          · skip
            obtain ⟨hb_12, hf⟩ := zx_gd_some hf
            obtain ⟨hb_13, hf⟩ := zx_gd_some hf
            obtain ⟨x5_14, ex5_14, hf⟩ := zx_lt_some hf
            obtain ⟨hb_15, hf⟩ := zx_gd_some hf
            obtain ⟨G_16, eG_16, hf⟩ := zx_lt_some hf
            have hg := zv_uo hg eG_16 (by decide)
            obtain ⟨hb_17, hf⟩ := zx_gd_some hf
            obtain ⟨G_18, eG_18, hf⟩ := zx_lt_some hf
            have hg := zv_uo hg eG_18 (by decide)
            obtain ⟨G_19, eG_19, hf⟩ := zx_lt_some hf
            have hg := zv_uo hg eG_19 (by decide)
            obtain ⟨r_21, G_20, hq_22, hf⟩ := zx_bd_some hf
            have hg := zv_call hg (v_M_take G_19 hq_22) (by decide) (by decide)
            obtain ⟨x6_23, ex6_23, hf⟩ := zx_lt_some hf
            obtain ⟨x7_24, ex7_24, hf⟩ := zx_lt_some hf
            obtain ⟨x8_25, ex8_25, hf⟩ := zx_lt_some hf
            exact zv_tr hg (v_M_extents_129 2048 x5_14 x6_23 x7_24 x8_25 G_20 hf)
          · skip
            exact zv_tr hg (v_M_extents_71 G_5 hf)
theorem v_M_extents_15 {r : Int32} {G1 : zx_G} (x1 x2 s0 : Int32) (G : zx_G) (hf : f_M_extents_15 x1 x2 s0 G = some (r, G1)) : ∀ q k, q ∉ A_M_extents → (q, k) ∉ O_M_extents → G1 q k = G q k := by
  unfold f_M_extents_15 at hf
  have hg : ∀ q k, q ∉ A_M_extents → (q, k) ∉ O_M_extents → G q k = G q k := fun _ _ _ _ => rfl
  obtain ⟨x3_1, ex3_1, hf⟩ := zx_lt_some hf
  rcases zx_if_some hf with ⟨hc_2, hf⟩ | ⟨hc_2, hf⟩
  · skip
    exact zv_tr hg (v_M_extents_31 x2 x3_1 (-1 : Int32) G hf)
  · skip
    obtain ⟨r_4, G_3, hq_5, hf⟩ := zx_bd_some hf
    have hg := zv_call hg (v_M_child x1 (108 : Int32) G hq_5) (by decide) (by decide)
    exact zv_tr hg (v_M_extents_31 x2 x3_1 r_4 G_3 hf)
theorem v_M_extents_0 {r : Int32} {G1 : zx_G} (x1 x2 : Int32) (G : zx_G) (hf : f_M_extents x1 x2 G = some (r, G1)) : ∀ q k, q ∉ A_M_extents → (q, k) ∉ O_M_extents → G1 q k = G q k := by
  unfold f_M_extents at hf
  have hg : ∀ q k, q ∉ A_M_extents → (q, k) ∉ O_M_extents → G q k = G q k := fun _ _ _ _ => rfl
  rcases zx_if_some hf with ⟨hc_1, hf⟩ | ⟨hc_1, hf⟩
  · skip
    exact zv_tr hg (v_M_extents_15 x1 x2 (-1 : Int32) G hf)
  · skip
    obtain ⟨r_3, G_2, hq_4, hf⟩ := zx_bd_some hf
    have hg := zv_call hg (v_M_child x1 (112 : Int32) G hq_4) (by decide) (by decide)
    exact zv_tr hg (v_M_extents_15 x1 x2 r_3 G_2 hf)
theorem v_M_extents (x1 x2 : Int32) (G : zx_G) {r : Int32} {G1 : zx_G} (hf : f_M_extents x1 x2 G = some (r, G1)) : ∀ q k, q ∉ A_M_extents → (q, k) ∉ O_M_extents → G1 q k = G q k := v_M_extents_0 x1 x2 G hf
abbrev A_M_stretch : List Nat := [34, 35, 36, 37, 38]
abbrev O_M_stretch : List (Nat × Nat) := [(32, 2), (32, 10)]
theorem v_M_stretch_163 {r : Int32} {G1 : zx_G} {k3 : Int32 → Int32 → Int32 → Int32 → zx_G → Option (Int32 × zx_G)} (hk3 : ∀ (x2 x3 x4 x5 : Int32) (G : zx_G), k3 x2 x3 x4 x5 G = some (r, G1) → ∀ q k, q ∉ A_M_stretch → (q, k) ∉ O_M_stretch → G1 q k = G q k) (x2 x3 x4 x5 : Int32) (G : zx_G) (hf : f_M_stretch_163 k3 x2 x3 x4 x5 G = some (r, G1)) : ∀ q k, q ∉ A_M_stretch → (q, k) ∉ O_M_stretch → G1 q k = G q k := by
  unfold f_M_stretch_163 at hf
  have hg : ∀ q k, q ∉ A_M_stretch → (q, k) ∉ O_M_stretch → G q k = G q k := fun _ _ _ _ => rfl
  exact zv_tr hg (hk3 x2 x3 x4 x5 G hf)
theorem v_M_stretch_72 {r : Int32} {G1 : zx_G} {k3 : Int32 → Int32 → Int32 → Int32 → zx_G → Option (Int32 × zx_G)} (hk3 : ∀ (x2 x3 x4 x5 : Int32) (G : zx_G), k3 x2 x3 x4 x5 G = some (r, G1) → ∀ q k, q ∉ A_M_stretch → (q, k) ∉ O_M_stretch → G1 q k = G q k) (x2 x3 x4 x5 : Int32) (G : zx_G) (hf : f_M_stretch_72 k3 x2 x3 x4 x5 G = some (r, G1)) : ∀ q k, q ∉ A_M_stretch → (q, k) ∉ O_M_stretch → G1 q k = G q k := by
  unfold f_M_stretch_72 at hf
  have hg : ∀ q k, q ∉ A_M_stretch → (q, k) ∉ O_M_stretch → G q k = G q k := fun _ _ _ _ => rfl
  obtain ⟨r_2, G_1, hq_3, hf⟩ := zx_bd_some hf
  have hg := zv_call hg (v_M_fail (1 : Int32) G hq_3) (by decide) (by decide)
  exact zv_tr hg (v_M_stretch_163 hk3 x2 x3 x4 x5 G_1 hf)
theorem v_M_stretch_40 {r : Int32} {G1 : zx_G} {k3 : Int32 → Int32 → Int32 → Int32 → zx_G → Option (Int32 × zx_G)} (hk3 : ∀ (x2 x3 x4 x5 : Int32) (G : zx_G), k3 x2 x3 x4 x5 G = some (r, G1) → ∀ q k, q ∉ A_M_stretch → (q, k) ∉ O_M_stretch → G1 q k = G q k) (x2 x3 x4 x5 s0 : Int32) (G : zx_G) (hf : f_M_stretch_40 k3 x2 x3 x4 x5 s0 G = some (r, G1)) : ∀ q k, q ∉ A_M_stretch → (q, k) ∉ O_M_stretch → G1 q k = G q k := by
  unfold f_M_stretch_40 at hf
  have hg : ∀ q k, q ∉ A_M_stretch → (q, k) ∉ O_M_stretch → G q k = G q k := fun _ _ _ _ => rfl
  obtain ⟨x6_1, ex6_1, hf⟩ := zx_lt_some hf
  rcases zx_if_some hf with ⟨hc_2, hf⟩ | ⟨hc_2, hf⟩
  · skip
    exact zv_tr hg (v_M_stretch_72 hk3 x2 x3 x4 x5 G hf)
  · skip
    rcases zx_if_some hf with ⟨hc_3, hf⟩ | ⟨hc_3, hf⟩
    · skip
      exact zv_tr hg (v_M_stretch_72 hk3 x2 x3 x4 x5 G hf)
    · skip
      rcases zx_if_some hf with ⟨hc_4, hf⟩ | ⟨hc_4, hf⟩
      · skip
        exact zv_tr hg (v_M_stretch_72 hk3 x2 x3 x4 x5 G hf)
      · skip
        rcases zx_if_some hf with ⟨hc_5, hf⟩ | ⟨hc_5, hf⟩
        · skip
          obtain ⟨hb_6, hf⟩ := zx_gd_some hf
          obtain ⟨G_7, eG_7, hf⟩ := zx_lt_some hf
          have hg := zv_ua hg eG_7 (by decide)
          obtain ⟨hb_8, hf⟩ := zx_gd_some hf
          obtain ⟨G_9, eG_9, hf⟩ := zx_lt_some hf
          have hg := zv_ua hg eG_9 (by decide)
          obtain ⟨hb_10, hf⟩ := zx_gd_some hf
          obtain ⟨hb_11, hf⟩ := zx_gd_some hf
          obtain ⟨G_12, eG_12, hf⟩ := zx_lt_some hf
          have hg := zv_ua hg eG_12 (by decide)
          obtain ⟨hb_13, hf⟩ := zx_gd_some hf
          obtain ⟨G_14, eG_14, hf⟩ := zx_lt_some hf
          have hg := zv_ua hg eG_14 (by decide)
          obtain ⟨hb_15, hf⟩ := zx_gd_some hf
          obtain ⟨G_16, eG_16, hf⟩ := zx_lt_some hf
          have hg := zv_ua hg eG_16 (by decide)
          obtain ⟨G_17, eG_17, hf⟩ := zx_lt_some hf
          have hg := zv_uo hg eG_17 (by decide)
          obtain ⟨x5_18, ex5_18, hf⟩ := zx_lt_some hf
          exact zv_tr hg (v_M_stretch_163 hk3 x2 x3 x4 x5_18 G_17 hf)
        · skip
          exact zv_tr hg (v_M_stretch_72 hk3 x2 x3 x4 x5 G hf)
theorem v_M_stretch_166 {r : Int32} {G1 : zx_G} (G : zx_G) (hf : f_M_stretch_166 G = some (r, G1)) : ∀ q k, q ∉ A_M_stretch → (q, k) ∉ O_M_stretch → G1 q k = G q k := by
  unfold f_M_stretch_166 at hf
  have hg : ∀ q k, q ∉ A_M_stretch → (q, k) ∉ O_M_stretch → G q k = G q k := fun _ _ _ _ => rfl
  exact zv_ret hg hf
theorem v_M_stretch_3 {r : Int32} {G1 : zx_G} : ∀ (n : Nat) (x2 x3 x4 x5 : Int32) (G : zx_G), f_M_stretch_3 n x2 x3 x4 x5 G = some (r, G1) → ∀ q k, q ∉ A_M_stretch → (q, k) ∉ O_M_stretch → G1 q k = G q k := by
  intro n
  induction n with
  | zero => intro x2 x3 x4 x5 G hf; cases hf
  | succ n ih =>
    intro x2 x3 x4 x5 G hf
    unfold f_M_stretch_3 at hf
    have hg : ∀ q k, q ∉ A_M_stretch → (q, k) ∉ O_M_stretch → G q k = G q k := fun _ _ _ _ => rfl
    rcases zx_if_some hf with ⟨hc_1, hf⟩ | ⟨hc_1, hf⟩
    · skip
      exact zv_tr hg (v_M_stretch_166 G hf)
    · skip
      rcases zx_if_some hf with ⟨hc_2, hf⟩ | ⟨hc_2, hf⟩
      · skip
        exact zv_tr hg (v_M_stretch_166 G hf)
      · skip
        obtain ⟨hb_3, hf⟩ := zx_gd_some hf
        rcases zx_if_some hf with ⟨hc_4, hf⟩ | ⟨hc_4, hf⟩
        · skip
          obtain ⟨hb_5, hf⟩ := zx_gd_some hf
          exact zv_tr hg (v_M_stretch_40 ih x2 x3 x4 x5 (G 33 (Int32.toNatClampNeg x5)) G hf)
        · skip
          exact zv_tr hg (v_M_stretch_40 ih x2 x3 x4 x5 (x2 - x5) G hf)
theorem v_M_stretch_0 {r : Int32} {G1 : zx_G} (x1 x2 x3 x4 : Int32) (G : zx_G) (hf : f_M_stretch x1 x2 x3 x4 G = some (r, G1)) : ∀ q k, q ∉ A_M_stretch → (q, k) ∉ O_M_stretch → G1 q k = G q k := by
  unfold f_M_stretch at hf
  have hg : ∀ q k, q ∉ A_M_stretch → (q, k) ∉ O_M_stretch → G q k = G q k := fun _ _ _ _ => rfl
  obtain ⟨x5_1, ex5_1, hf⟩ := zx_lt_some hf
  exact zv_tr hg (v_M_stretch_3 2048 x2 x3 x4 x5_1 G hf)
theorem v_M_stretch (x1 x2 x3 x4 : Int32) (G : zx_G) {r : Int32} {G1 : zx_G} (hf : f_M_stretch x1 x2 x3 x4 G = some (r, G1)) : ∀ q k, q ∉ A_M_stretch → (q, k) ∉ O_M_stretch → G1 q k = G q k := v_M_stretch_0 x1 x2 x3 x4 G hf
abbrev A_M_split : List Nat := [34, 35, 36, 37, 38]
abbrev O_M_split : List (Nat × Nat) := [(32, 2), (32, 10)]
theorem v_M_split_80 {r : Int32} {G1 : zx_G} {k18 : Int32 → zx_G → Option (Int32 × zx_G)} (hk18 : ∀ (x1 : Int32) (G : zx_G), k18 x1 G = some (r, G1) → ∀ q k, q ∉ A_M_split → (q, k) ∉ O_M_split → G1 q k = G q k) (x1 : Int32) (G : zx_G) (hf : f_M_split_80 k18 x1 G = some (r, G1)) : ∀ q k, q ∉ A_M_split → (q, k) ∉ O_M_split → G1 q k = G q k := by
  unfold f_M_split_80 at hf
  have hg : ∀ q k, q ∉ A_M_split → (q, k) ∉ O_M_split → G q k = G q k := fun _ _ _ _ => rfl
  obtain ⟨x1_1, ex1_1, hf⟩ := zx_lt_some hf
  exact zv_tr hg (hk18 x1_1 G hf)
theorem v_M_split_55 {r : Int32} {G1 : zx_G} {k18 : Int32 → zx_G → Option (Int32 × zx_G)} (hk18 : ∀ (x1 : Int32) (G : zx_G), k18 x1 G = some (r, G1) → ∀ q k, q ∉ A_M_split → (q, k) ∉ O_M_split → G1 q k = G q k) (x1 : Int32) (G : zx_G) (hf : f_M_split_55 k18 x1 G = some (r, G1)) : ∀ q k, q ∉ A_M_split → (q, k) ∉ O_M_split → G1 q k = G q k := by
  unfold f_M_split_55 at hf
  have hg : ∀ q k, q ∉ A_M_split → (q, k) ∉ O_M_split → G q k = G q k := fun _ _ _ _ => rfl
  obtain ⟨hb_1, hf⟩ := zx_gd_some hf
  obtain ⟨hb_2, hf⟩ := zx_gd_some hf
  obtain ⟨hb_3, hf⟩ := zx_gd_some hf
  obtain ⟨r_5, G_4, hq_6, hf⟩ := zx_bd_some hf
  have hg := zv_call hg (v_M_stretch (G 34 (Int32.toNatClampNeg x1)) (G 35 (Int32.toNatClampNeg x1)) x1 ((G 38 (Int32.toNatClampNeg x1)) + (1 : Int32)) G hq_6) (by decide) (by decide)
  exact zv_tr hg (v_M_split_80 hk18 x1 G_4 hf)
theorem v_M_split_86 {r : Int32} {G1 : zx_G} (G : zx_G) (hf : f_M_split_86 G = some (r, G1)) : ∀ q k, q ∉ A_M_split → (q, k) ∉ O_M_split → G1 q k = G q k := by
  unfold f_M_split_86 at hf
  have hg : ∀ q k, q ∉ A_M_split → (q, k) ∉ O_M_split → G q k = G q k := fun _ _ _ _ => rfl
  exact zv_ret hg hf
theorem v_M_split_18 {r : Int32} {G1 : zx_G} : ∀ (n : Nat) (x1 : Int32) (G : zx_G), f_M_split_18 n x1 G = some (r, G1) → ∀ q k, q ∉ A_M_split → (q, k) ∉ O_M_split → G1 q k = G q k := by
  intro n
  induction n with
  | zero => intro x1 G hf; cases hf
  | succ n ih =>
    intro x1 G hf
    unfold f_M_split_18 at hf
    have hg : ∀ q k, q ∉ A_M_split → (q, k) ∉ O_M_split → G q k = G q k := fun _ _ _ _ => rfl
    rcases zx_if_some hf with ⟨hc_1, hf⟩ | ⟨hc_1, hf⟩
    · skip
      exact zv_tr hg (v_M_split_86 G hf)
    · skip
      rcases zx_if_some hf with ⟨hc_2, hf⟩ | ⟨hc_2, hf⟩
      · skip
        exact zv_tr hg (v_M_split_86 G hf)
      · skip
        obtain ⟨hb_3, hf⟩ := zx_gd_some hf
        rcases zx_if_some hf with ⟨hc_4, hf⟩ | ⟨hc_4, hf⟩
        · skip
          exact zv_tr hg (v_M_split_55 ih x1 G hf)
        · skip
          obtain ⟨hb_5, hf⟩ := zx_gd_some hf
          rcases zx_if_some hf with ⟨hc_6, hf⟩ | ⟨hc_6, hf⟩
          · skip
            exact zv_tr hg (v_M_split_80 ih x1 G hf)
          · skip
            exact zv_tr hg (v_M_split_55 ih x1 G hf)
theorem v_M_split_0 {r : Int32} {G1 : zx_G} (G : zx_G) (hf : f_M_split G = some (r, G1)) : ∀ q k, q ∉ A_M_split → (q, k) ∉ O_M_split → G1 q k = G q k := by
  unfold f_M_split at hf
  have hg : ∀ q k, q ∉ A_M_split → (q, k) ∉ O_M_split → G q k = G q k := fun _ _ _ _ => rfl
  obtain ⟨G_1, eG_1, hf⟩ := zx_lt_some hf
  have hg := zv_uo hg eG_1 (by decide)
  obtain ⟨r_3, G_2, hq_4, hf⟩ := zx_bd_some hf
  have hg := zv_call hg (v_M_stretch (0 : Int32) (G_1 32 0) (-1 : Int32) (1 : Int32) G_1 hq_4) (by decide) (by decide)
  obtain ⟨x1_5, ex1_5, hf⟩ := zx_lt_some hf
  exact zv_tr hg (v_M_split_18 2048 x1_5 G_2 hf)
theorem v_M_split (G : zx_G) {r : Int32} {G1 : zx_G} (hf : f_M_split G = some (r, G1)) : ∀ q k, q ∉ A_M_split → (q, k) ∉ O_M_split → G1 q k = G q k := v_M_split_0 G hf
abbrev A_M_brand : List Nat := []
abbrev O_M_brand : List (Nat × Nat) := [(32, 10)]
theorem v_M_brand_61 {r : Int32} {G1 : zx_G} {k23 : Int32 → Int32 → zx_G → Option (Int32 × zx_G)} (hk23 : ∀ (x1 x2 : Int32) (G : zx_G), k23 x1 x2 G = some (r, G1) → ∀ q k, q ∉ A_M_brand → (q, k) ∉ O_M_brand → G1 q k = G q k) (x2 s0 : Int32) (G : zx_G) (hf : f_M_brand_61 k23 x2 s0 G = some (r, G1)) : ∀ q k, q ∉ A_M_brand → (q, k) ∉ O_M_brand → G1 q k = G q k := by
  unfold f_M_brand_61 at hf
  have hg : ∀ q k, q ∉ A_M_brand → (q, k) ∉ O_M_brand → G q k = G q k := fun _ _ _ _ => rfl
  obtain ⟨x1_1, ex1_1, hf⟩ := zx_lt_some hf
  obtain ⟨x2_2, ex2_2, hf⟩ := zx_lt_some hf
  exact zv_tr hg (hk23 x1_1 x2_2 G hf)
theorem v_M_brand_56 {r : Int32} {G1 : zx_G} {k23 : Int32 → Int32 → zx_G → Option (Int32 × zx_G)} (hk23 : ∀ (x1 x2 : Int32) (G : zx_G), k23 x1 x2 G = some (r, G1) → ∀ q k, q ∉ A_M_brand → (q, k) ∉ O_M_brand → G1 q k = G q k) (x2 : Int32) (G : zx_G) (hf : f_M_brand_56 k23 x2 G = some (r, G1)) : ∀ q k, q ∉ A_M_brand → (q, k) ∉ O_M_brand → G1 q k = G q k := by
  unfold f_M_brand_56 at hf
  have hg : ∀ q k, q ∉ A_M_brand → (q, k) ∉ O_M_brand → G q k = G q k := fun _ _ _ _ => rfl
  exact zv_tr hg (v_M_brand_61 hk23 x2 (1 : Int32) G hf)
theorem v_M_brand_95 {r : Int32} {G1 : zx_G} (G : zx_G) (hf : f_M_brand_95 G = some (r, G1)) : ∀ q k, q ∉ A_M_brand → (q, k) ∉ O_M_brand → G1 q k = G q k := by
  unfold f_M_brand_95 at hf
  have hg : ∀ q k, q ∉ A_M_brand → (q, k) ∉ O_M_brand → G q k = G q k := fun _ _ _ _ => rfl
  exact zv_ret hg hf
theorem v_M_brand_90 {r : Int32} {G1 : zx_G} (G : zx_G) (hf : f_M_brand_90 G = some (r, G1)) : ∀ q k, q ∉ A_M_brand → (q, k) ∉ O_M_brand → G1 q k = G q k := by
  unfold f_M_brand_90 at hf
  have hg : ∀ q k, q ∉ A_M_brand → (q, k) ∉ O_M_brand → G q k = G q k := fun _ _ _ _ => rfl
  obtain ⟨r_2, G_1, hq_3, hf⟩ := zx_bd_some hf
  have hg := zv_call hg (v_M_fail (2 : Int32) G hq_3) (by decide) (by decide)
  exact zv_tr hg (v_M_brand_95 G_1 hf)
theorem v_M_brand_68 {r : Int32} {G1 : zx_G} (x1 : Int32) (G : zx_G) (hf : f_M_brand_68 x1 G = some (r, G1)) : ∀ q k, q ∉ A_M_brand → (q, k) ∉ O_M_brand → G1 q k = G q k := by
  unfold f_M_brand_68 at hf
  have hg : ∀ q k, q ∉ A_M_brand → (q, k) ∉ O_M_brand → G q k = G q k := fun _ _ _ _ => rfl
  rcases zx_if_some hf with ⟨hc_1, hf⟩ | ⟨hc_1, hf⟩
  · skip
    exact zv_tr hg (v_M_brand_90 G hf)
  · skip
    obtain ⟨hb_2, hf⟩ := zx_gd_some hf
    rcases zx_if_some hf with ⟨hc_3, hf⟩ | ⟨hc_3, hf⟩
    · skip
      exact zv_tr hg (v_M_brand_90 G hf)
    · skip
      rcases zx_if_some hf with ⟨hc_4, hf⟩ | ⟨hc_4, hf⟩
      · skip
        exact zv_tr hg (v_M_brand_95 G hf)
      · skip
        exact zv_tr hg (v_M_brand_90 G hf)
theorem v_M_brand_23 {r : Int32} {G1 : zx_G} : ∀ (n : Nat) (x1 x2 : Int32) (G : zx_G), f_M_brand_23 n x1 x2 G = some (r, G1) → ∀ q k, q ∉ A_M_brand → (q, k) ∉ O_M_brand → G1 q k = G q k := by
  intro n
  induction n with
  | zero => intro x1 x2 G hf; cases hf
  | succ n ih =>
    intro x1 x2 G hf
    unfold f_M_brand_23 at hf
    have hg : ∀ q k, q ∉ A_M_brand → (q, k) ∉ O_M_brand → G q k = G q k := fun _ _ _ _ => rfl
    rcases zx_if_some hf with ⟨hc_1, hf⟩ | ⟨hc_1, hf⟩
    · skip
      exact zv_tr hg (v_M_brand_68 x1 G hf)
    · skip
      obtain ⟨hb_2, hf⟩ := zx_gd_some hf
      rcases zx_if_some hf with ⟨hc_3, hf⟩ | ⟨hc_3, hf⟩
      · skip
        exact zv_tr hg (v_M_brand_68 x1 G hf)
      · skip
        rcases zx_if_some hf with ⟨hc_4, hf⟩ | ⟨hc_4, hf⟩
        · skip
          exact zv_tr hg (v_M_brand_56 ih x2 G hf)
        · skip
          obtain ⟨hb_5, hf⟩ := zx_gd_some hf
          rcases zx_if_some hf with ⟨hc_6, hf⟩ | ⟨hc_6, hf⟩
          · skip
            exact zv_tr hg (v_M_brand_61 ih x2 (0 : Int32) G hf)
          · skip
            exact zv_tr hg (v_M_brand_56 ih x2 G hf)
theorem v_M_brand_22 {r : Int32} {G1 : zx_G} (x1 s0 : Int32) (G : zx_G) (hf : f_M_brand_22 x1 s0 G = some (r, G1)) : ∀ q k, q ∉ A_M_brand → (q, k) ∉ O_M_brand → G1 q k = G q k := by
  unfold f_M_brand_22 at hf
  have hg : ∀ q k, q ∉ A_M_brand → (q, k) ∉ O_M_brand → G q k = G q k := fun _ _ _ _ => rfl
  obtain ⟨x2_1, ex2_1, hf⟩ := zx_lt_some hf
  exact zv_tr hg (v_M_brand_23 2048 x1 x2_1 G hf)
theorem v_M_brand_0 {r : Int32} {G1 : zx_G} (G : zx_G) (hf : f_M_brand G = some (r, G1)) : ∀ q k, q ∉ A_M_brand → (q, k) ∉ O_M_brand → G1 q k = G q k := by
  unfold f_M_brand at hf
  have hg : ∀ q k, q ∉ A_M_brand → (q, k) ∉ O_M_brand → G q k = G q k := fun _ _ _ _ => rfl
  obtain ⟨x1_1, ex1_1, hf⟩ := zx_lt_some hf
  rcases zx_if_some hf with ⟨hc_2, hf⟩ | ⟨hc_2, hf⟩
  · skip
    exact zv_tr hg (v_M_brand_22 x1_1 (G 32 0) G hf)
  · skip
    obtain ⟨hb_3, hf⟩ := zx_gd_some hf
    exact zv_tr hg (v_M_brand_22 x1_1 (G 34 (Int32.toNatClampNeg (0 : Int32))) G hf)
theorem v_M_brand (G : zx_G) {r : Int32} {G1 : zx_G} (hf : f_M_brand G = some (r, G1)) : ∀ q k, q ∉ A_M_brand → (q, k) ∉ O_M_brand → G1 q k = G q k := v_M_brand_0 G hf
abbrev A_M_decode : List Nat := [34, 35, 36, 37, 38, 39, 40, 41, 42, 43, 44, 45, 46, 47, 48, 49, 50]
abbrev O_M_decode : List (Nat × Nat) := [(32, 2), (32, 8), (32, 10), (32, 11), (32, 12), (32, 13), (32, 14), (32, 15), (32, 16), (32, 17), (32, 18), (32, 19), (32, 20), (32, 21), (32, 22), (32, 23), (32, 24), (32, 25), (32, 26), (32, 27), (32, 28), (32, 29), (32, 30), (32, 33), (32, 37), (32, 44)]
theorem v_M_decode_150 {r : Int32} {G1 : zx_G} (s1 : Int32) (G : zx_G) (hf : f_M_decode_150 s1 G = some (r, G1)) : ∀ q k, q ∉ A_M_decode → (q, k) ∉ O_M_decode → G1 q k = G q k := by
  unfold f_M_decode_150 at hf
  have hg : ∀ q k, q ∉ A_M_decode → (q, k) ∉ O_M_decode → G q k = G q k := fun _ _ _ _ => rfl
  obtain ⟨hb_1, hf⟩ := zx_gd_some hf
  obtain ⟨G_2, eG_2, hf⟩ := zx_lt_some hf
  have hg := zv_uo hg eG_2 (by decide)
  exact zv_ret hg hf
theorem v_M_decode_137 {r : Int32} {G1 : zx_G} (G : zx_G) (hf : f_M_decode_137 G = some (r, G1)) : ∀ q k, q ∉ A_M_decode → (q, k) ∉ O_M_decode → G1 q k = G q k := by
  unfold f_M_decode_137 at hf
  have hg : ∀ q k, q ∉ A_M_decode → (q, k) ∉ O_M_decode → G q k = G q k := fun _ _ _ _ => rfl
  rcases zx_if_some hf with ⟨hc_1, hf⟩ | ⟨hc_1, hf⟩
  · skip
    exact zv_tr hg (v_M_decode_150 (0 : Int32) G hf)
  · skip
    exact zv_tr hg (v_M_decode_150 (1 : Int32) G hf)
theorem v_M_decode_126 {r : Int32} {G1 : zx_G} (G : zx_G) (hf : f_M_decode_126 G = some (r, G1)) : ∀ q k, q ∉ A_M_decode → (q, k) ∉ O_M_decode → G1 q k = G q k := by
  unfold f_M_decode_126 at hf
  have hg : ∀ q k, q ∉ A_M_decode → (q, k) ∉ O_M_decode → G q k = G q k := fun _ _ _ _ => rfl
  rcases zx_if_some hf with ⟨hc_1, hf⟩ | ⟨hc_1, hf⟩
  · skip
    exact zv_tr hg (v_M_decode_137 G hf)
  · skip
    obtain ⟨r_3, G_2, hq_4, hf⟩ := zx_bd_some hf
    have hg := zv_call hg (v_M_filter G hq_4) (by decide) (by decide)
    exact zv_tr hg (v_M_decode_137 G_2 hf)
theorem v_M_decode_115 {r : Int32} {G1 : zx_G} (G : zx_G) (hf : f_M_decode_115 G = some (r, G1)) : ∀ q k, q ∉ A_M_decode → (q, k) ∉ O_M_decode → G1 q k = G q k := by
  unfold f_M_decode_115 at hf
  have hg : ∀ q k, q ∉ A_M_decode → (q, k) ∉ O_M_decode → G q k = G q k := fun _ _ _ _ => rfl
  rcases zx_if_some hf with ⟨hc_1, hf⟩ | ⟨hc_1, hf⟩
  · skip
    exact zv_tr hg (v_M_decode_126 G hf)
  · skip
    obtain ⟨r_3, G_2, hq_4, hf⟩ := zx_bd_some hf
    have hg := zv_call hg (v_M_readTile G hq_4) (by decide) (by decide)
    exact zv_tr hg (v_M_decode_126 G_2 hf)
theorem v_M_decode_104 {r : Int32} {G1 : zx_G} (G : zx_G) (hf : f_M_decode_104 G = some (r, G1)) : ∀ q k, q ∉ A_M_decode → (q, k) ∉ O_M_decode → G1 q k = G q k := by
  unfold f_M_decode_104 at hf
  have hg : ∀ q k, q ∉ A_M_decode → (q, k) ∉ O_M_decode → G q k = G q k := fun _ _ _ _ => rfl
  rcases zx_if_some hf with ⟨hc_1, hf⟩ | ⟨hc_1, hf⟩
  · skip
    exact zv_tr hg (v_M_decode_115 G hf)
  · skip
    obtain ⟨r_3, G_2, hq_4, hf⟩ := zx_bd_some hf
    have hg := zv_call hg (v_M_units G hq_4) (by decide) (by decide)
    exact zv_tr hg (v_M_decode_115 G_2 hf)
theorem v_M_decode_68 {r : Int32} {G1 : zx_G} (x1 x2 : Int32) (G : zx_G) (hf : f_M_decode_68 x1 x2 G = some (r, G1)) : ∀ q k, q ∉ A_M_decode → (q, k) ∉ O_M_decode → G1 q k = G q k := by
  unfold f_M_decode_68 at hf
  have hg : ∀ q k, q ∉ A_M_decode → (q, k) ∉ O_M_decode → G q k = G q k := fun _ _ _ _ => rfl
  rcases zx_if_some hf with ⟨hc_1, hf⟩ | ⟨hc_1, hf⟩
  · skip
    exact zv_tr hg (v_M_decode_104 G hf)
  · skip
    obtain ⟨r_3, G_2, hq_4, hf⟩ := zx_bd_some hf
    have hg := zv_call hg (v_M_child x2 (97 : Int32) G hq_4) (by decide) (by decide)
    obtain ⟨r_6, G_5, hq_7, hf⟩ := zx_bd_some hf
    have hg := zv_call hg (v_M_child x1 (112 : Int32) G_2 hq_7) (by decide) (by decide)
    obtain ⟨hb_8, hf⟩ := zx_gd_some hf
    obtain ⟨hb_9, hf⟩ := zx_gd_some hf
    obtain ⟨r_11, G_10, hq_12, hf⟩ := zx_bd_some hf
    have hg := zv_call hg (v_M_properties x2 r_3 (G_5 33 (Int32.toNatClampNeg (G_5 34 (Int32.toNatClampNeg r_6)))) G_5 hq_12) (by decide) (by decide)
    exact zv_tr hg (v_M_decode_104 G_10 hf)
theorem v_M_decode_54 {r : Int32} {G1 : zx_G} (x1 s0 : Int32) (G : zx_G) (hf : f_M_decode_54 x1 s0 G = some (r, G1)) : ∀ q k, q ∉ A_M_decode → (q, k) ∉ O_M_decode → G1 q k = G q k := by
  unfold f_M_decode_54 at hf
  have hg : ∀ q k, q ∉ A_M_decode → (q, k) ∉ O_M_decode → G q k = G q k := fun _ _ _ _ => rfl
  obtain ⟨x2_1, ex2_1, hf⟩ := zx_lt_some hf
  rcases zx_if_some hf with ⟨hc_2, hf⟩ | ⟨hc_2, hf⟩
  · skip
    exact zv_tr hg (v_M_decode_68 x1 x2_1 G hf)
  · skip
    obtain ⟨r_4, G_3, hq_5, hf⟩ := zx_bd_some hf
    have hg := zv_call hg (v_M_extents x1 x2_1 G hq_5) (by decide) (by decide)
    exact zv_tr hg (v_M_decode_68 x1 x2_1 G_3 hf)
theorem v_M_decode_38 {r : Int32} {G1 : zx_G} (s0 : Int32) (G : zx_G) (hf : f_M_decode_38 s0 G = some (r, G1)) : ∀ q k, q ∉ A_M_decode → (q, k) ∉ O_M_decode → G1 q k = G q k := by
  unfold f_M_decode_38 at hf
  have hg : ∀ q k, q ∉ A_M_decode → (q, k) ∉ O_M_decode → G q k = G q k := fun _ _ _ _ => rfl
  obtain ⟨x1_1, ex1_1, hf⟩ := zx_lt_some hf
  rcases zx_if_some hf with ⟨hc_2, hf⟩ | ⟨hc_2, hf⟩
  · skip
    exact zv_tr hg (v_M_decode_54 x1_1 (-1 : Int32) G hf)
  · skip
    obtain ⟨r_4, G_3, hq_5, hf⟩ := zx_bd_some hf
    have hg := zv_call hg (v_M_child x1_1 (114 : Int32) G hq_5) (by decide) (by decide)
    exact zv_tr hg (v_M_decode_54 x1_1 r_4 G_3 hf)
theorem v_M_decode_20 {r : Int32} {G1 : zx_G} (G : zx_G) (hf : f_M_decode_20 G = some (r, G1)) : ∀ q k, q ∉ A_M_decode → (q, k) ∉ O_M_decode → G1 q k = G q k := by
  unfold f_M_decode_20 at hf
  have hg : ∀ q k, q ∉ A_M_decode → (q, k) ∉ O_M_decode → G q k = G q k := fun _ _ _ _ => rfl
  rcases zx_if_some hf with ⟨hc_1, hf⟩ | ⟨hc_1, hf⟩
  · skip
    exact zv_tr hg (v_M_decode_38 (-1 : Int32) G hf)
  · skip
    obtain ⟨r_3, G_2, hq_4, hf⟩ := zx_bd_some hf
    have hg := zv_call hg (v_M_child (-1 : Int32) (109 : Int32) G hq_4) (by decide) (by decide)
    exact zv_tr hg (v_M_decode_38 r_3 G_2 hf)
theorem v_M_decode_0 {r : Int32} {G1 : zx_G} (G : zx_G) (hf : f_M_decode G = some (r, G1)) : ∀ q k, q ∉ A_M_decode → (q, k) ∉ O_M_decode → G1 q k = G q k := by
  unfold f_M_decode at hf
  have hg : ∀ q k, q ∉ A_M_decode → (q, k) ∉ O_M_decode → G q k = G q k := fun _ _ _ _ => rfl
  obtain ⟨G_1, eG_1, hf⟩ := zx_lt_some hf
  have hg := zv_uo hg eG_1 (by decide)
  obtain ⟨r_3, G_2, hq_4, hf⟩ := zx_bd_some hf
  have hg := zv_call hg (v_M_split G_1 hq_4) (by decide) (by decide)
  rcases zx_if_some hf with ⟨hc_5, hf⟩ | ⟨hc_5, hf⟩
  · skip
    exact zv_tr hg (v_M_decode_20 G_2 hf)
  · skip
    obtain ⟨r_7, G_6, hq_8, hf⟩ := zx_bd_some hf
    have hg := zv_call hg (v_M_brand G_2 hq_8) (by decide) (by decide)
    exact zv_tr hg (v_M_decode_20 G_6 hf)
theorem v_M_decode (G : zx_G) {r : Int32} {G1 : zx_G} (hf : f_M_decode G = some (r, G1)) : ∀ q k, q ∉ A_M_decode → (q, k) ∉ O_M_decode → G1 q k = G q k := v_M_decode_0 G hf
abbrev A_M_planes : List Nat := []
abbrev O_M_planes : List (Nat × Nat) := []
theorem v_M_planes_19 {r : Int32} {G1 : zx_G} (s0 : Int32) (G : zx_G) (hf : f_M_planes_19 s0 G = some (r, G1)) : ∀ q k, q ∉ A_M_planes → (q, k) ∉ O_M_planes → G1 q k = G q k := by
  unfold f_M_planes_19 at hf
  have hg : ∀ q k, q ∉ A_M_planes → (q, k) ∉ O_M_planes → G q k = G q k := fun _ _ _ _ => rfl
  exact zv_ret hg hf
theorem v_M_planes_0 {r : Int32} {G1 : zx_G} (G : zx_G) (hf : f_M_planes G = some (r, G1)) : ∀ q k, q ∉ A_M_planes → (q, k) ∉ O_M_planes → G1 q k = G q k := by
  unfold f_M_planes at hf
  have hg : ∀ q k, q ∉ A_M_planes → (q, k) ∉ O_M_planes → G q k = G q k := fun _ _ _ _ => rfl
  rcases zx_if_some hf with ⟨hc_1, hf⟩ | ⟨hc_1, hf⟩
  · skip
    exact zv_tr hg (v_M_planes_19 (0 : Int32) G hf)
  · skip
    exact zv_tr hg (v_M_planes_19 ((1 : Int32) + ((2 : Int32) * (G 32 16))) G hf)
theorem v_M_planes (G : zx_G) {r : Int32} {G1 : zx_G} (hf : f_M_planes G = some (r, G1)) : ∀ q k, q ∉ A_M_planes → (q, k) ∉ O_M_planes → G1 q k = G q k := v_M_planes_0 G hf
abbrev A_M_width : List Nat := []
abbrev O_M_width : List (Nat × Nat) := []
theorem v_M_width_15 {r : Int32} {G1 : zx_G} (s0 : Int32) (G : zx_G) (hf : f_M_width_15 s0 G = some (r, G1)) : ∀ q k, q ∉ A_M_width → (q, k) ∉ O_M_width → G1 q k = G q k := by
  unfold f_M_width_15 at hf
  have hg : ∀ q k, q ∉ A_M_width → (q, k) ∉ O_M_width → G q k = G q k := fun _ _ _ _ => rfl
  exact zv_ret hg hf
theorem v_M_width_0 {r : Int32} {G1 : zx_G} (G : zx_G) (hf : f_M_width G = some (r, G1)) : ∀ q k, q ∉ A_M_width → (q, k) ∉ O_M_width → G1 q k = G q k := by
  unfold f_M_width at hf
  have hg : ∀ q k, q ∉ A_M_width → (q, k) ∉ O_M_width → G q k = G q k := fun _ _ _ _ => rfl
  rcases zx_if_some hf with ⟨hc_1, hf⟩ | ⟨hc_1, hf⟩
  · skip
    exact zv_tr hg (v_M_width_15 (0 : Int32) G hf)
  · skip
    exact zv_tr hg (v_M_width_15 (G 32 18) G hf)
theorem v_M_width (G : zx_G) {r : Int32} {G1 : zx_G} (hf : f_M_width G = some (r, G1)) : ∀ q k, q ∉ A_M_width → (q, k) ∉ O_M_width → G1 q k = G q k := v_M_width_0 G hf
abbrev A_M_height : List Nat := []
abbrev O_M_height : List (Nat × Nat) := []
theorem v_M_height_15 {r : Int32} {G1 : zx_G} (s0 : Int32) (G : zx_G) (hf : f_M_height_15 s0 G = some (r, G1)) : ∀ q k, q ∉ A_M_height → (q, k) ∉ O_M_height → G1 q k = G q k := by
  unfold f_M_height_15 at hf
  have hg : ∀ q k, q ∉ A_M_height → (q, k) ∉ O_M_height → G q k = G q k := fun _ _ _ _ => rfl
  exact zv_ret hg hf
theorem v_M_height_0 {r : Int32} {G1 : zx_G} (G : zx_G) (hf : f_M_height G = some (r, G1)) : ∀ q k, q ∉ A_M_height → (q, k) ∉ O_M_height → G1 q k = G q k := by
  unfold f_M_height at hf
  have hg : ∀ q k, q ∉ A_M_height → (q, k) ∉ O_M_height → G q k = G q k := fun _ _ _ _ => rfl
  rcases zx_if_some hf with ⟨hc_1, hf⟩ | ⟨hc_1, hf⟩
  · skip
    exact zv_tr hg (v_M_height_15 (0 : Int32) G hf)
  · skip
    exact zv_tr hg (v_M_height_15 (G 32 19) G hf)
theorem v_M_height (G : zx_G) {r : Int32} {G1 : zx_G} (hf : f_M_height G = some (r, G1)) : ∀ q k, q ∉ A_M_height → (q, k) ∉ O_M_height → G1 q k = G q k := v_M_height_0 G hf
abbrev A_M_depth : List Nat := []
abbrev O_M_depth : List (Nat × Nat) := []
theorem v_M_depth_20 {r : Int32} {G1 : zx_G} (s0 : Int32) (G : zx_G) (hf : f_M_depth_20 s0 G = some (r, G1)) : ∀ q k, q ∉ A_M_depth → (q, k) ∉ O_M_depth → G1 q k = G q k := by
  unfold f_M_depth_20 at hf
  have hg : ∀ q k, q ∉ A_M_depth → (q, k) ∉ O_M_depth → G q k = G q k := fun _ _ _ _ => rfl
  exact zv_ret hg hf
theorem v_M_depth_0 {r : Int32} {G1 : zx_G} (G : zx_G) (hf : f_M_depth G = some (r, G1)) : ∀ q k, q ∉ A_M_depth → (q, k) ∉ O_M_depth → G1 q k = G q k := by
  unfold f_M_depth at hf
  have hg : ∀ q k, q ∉ A_M_depth → (q, k) ∉ O_M_depth → G q k = G q k := fun _ _ _ _ => rfl
  rcases zx_if_some hf with ⟨hc_1, hf⟩ | ⟨hc_1, hf⟩
  · skip
    exact zv_tr hg (v_M_depth_20 (0 : Int32) G hf)
  · skip
    exact zv_tr hg (v_M_depth_20 ((8 : Int32) + ((2 : Int32) * (G 32 17))) G hf)
theorem v_M_depth (G : zx_G) {r : Int32} {G1 : zx_G} (hf : f_M_depth G = some (r, G1)) : ∀ q k, q ∉ A_M_depth → (q, k) ∉ O_M_depth → G1 q k = G q k := v_M_depth_0 G hf
abbrev A_M_there : List Nat := []
abbrev O_M_there : List (Nat × Nat) := []
theorem v_M_there_36 {r : Int32} {G1 : zx_G} (s0 : Int32) (G : zx_G) (hf : f_M_there_36 s0 G = some (r, G1)) : ∀ q k, q ∉ A_M_there → (q, k) ∉ O_M_there → G1 q k = G q k := by
  unfold f_M_there_36 at hf
  have hg : ∀ q k, q ∉ A_M_there → (q, k) ∉ O_M_there → G q k = G q k := fun _ _ _ _ => rfl
  obtain ⟨hb_1, hf⟩ := zx_gd_some hf
  exact zv_ret hg hf
theorem v_M_there_35 {r : Int32} {G1 : zx_G} (G : zx_G) (hf : f_M_there_35 G = some (r, G1)) : ∀ q k, q ∉ A_M_there → (q, k) ∉ O_M_there → G1 q k = G q k := by
  unfold f_M_there_35 at hf
  have hg : ∀ q k, q ∉ A_M_there → (q, k) ∉ O_M_there → G q k = G q k := fun _ _ _ _ => rfl
  exact zv_tr hg (v_M_there_36 (0 : Int32) G hf)
theorem v_M_there_0 {r : Int32} {G1 : zx_G} (x1 x2 : Int32) (G : zx_G) (hf : f_M_there x1 x2 G = some (r, G1)) : ∀ q k, q ∉ A_M_there → (q, k) ∉ O_M_there → G1 q k = G q k := by
  unfold f_M_there at hf
  have hg : ∀ q k, q ∉ A_M_there → (q, k) ∉ O_M_there → G q k = G q k := fun _ _ _ _ => rfl
  rcases zx_if_some hf with ⟨hc_1, hf⟩ | ⟨hc_1, hf⟩
  · skip
    exact zv_tr hg (v_M_there_35 G hf)
  · skip
    rcases zx_if_some hf with ⟨hc_2, hf⟩ | ⟨hc_2, hf⟩
    · skip
      exact zv_tr hg (v_M_there_35 G hf)
    · skip
      rcases zx_if_some hf with ⟨hc_3, hf⟩ | ⟨hc_3, hf⟩
      · skip
        exact zv_tr hg (v_M_there_35 G hf)
      · skip
        rcases zx_if_some hf with ⟨hc_4, hf⟩ | ⟨hc_4, hf⟩
        · skip
          exact zv_tr hg (v_M_there_35 G hf)
        · skip
          rcases zx_if_some hf with ⟨hc_5, hf⟩ | ⟨hc_5, hf⟩
          · skip
            exact zv_tr hg (v_M_there_35 G hf)
          · skip
            exact zv_tr hg (v_M_there_36 (1 : Int32) G hf)
theorem v_M_there (x1 x2 : Int32) (G : zx_G) {r : Int32} {G1 : zx_G} (hf : f_M_there x1 x2 G = some (r, G1)) : ∀ q k, q ∉ A_M_there → (q, k) ∉ O_M_there → G1 q k = G q k := v_M_there_0 x1 x2 G hf
abbrev A_M_sample : List Nat := []
abbrev O_M_sample : List (Nat × Nat) := []
theorem v_M_sample_46 {r : Int32} {G1 : zx_G} (s0 : Int32) (G : zx_G) (hf : f_M_sample_46 s0 G = some (r, G1)) : ∀ q k, q ∉ A_M_sample → (q, k) ∉ O_M_sample → G1 q k = G q k := by
  unfold f_M_sample_46 at hf
  have hg : ∀ q k, q ∉ A_M_sample → (q, k) ∉ O_M_sample → G q k = G q k := fun _ _ _ _ => rfl
  exact zv_ret hg hf
theorem v_M_sample_45 {r : Int32} {G1 : zx_G} (G : zx_G) (hf : f_M_sample_45 G = some (r, G1)) : ∀ q k, q ∉ A_M_sample → (q, k) ∉ O_M_sample → G1 q k = G q k := by
  unfold f_M_sample_45 at hf
  have hg : ∀ q k, q ∉ A_M_sample → (q, k) ∉ O_M_sample → G q k = G q k := fun _ _ _ _ => rfl
  exact zv_tr hg (v_M_sample_46 (-1 : Int32) G hf)
theorem v_M_sample_0 {r : Int32} {G1 : zx_G} (x1 x2 x3 : Int32) (G : zx_G) (hf : f_M_sample x1 x2 x3 G = some (r, G1)) : ∀ q k, q ∉ A_M_sample → (q, k) ∉ O_M_sample → G1 q k = G q k := by
  unfold f_M_sample at hf
  have hg : ∀ q k, q ∉ A_M_sample → (q, k) ∉ O_M_sample → G q k = G q k := fun _ _ _ _ => rfl
  obtain ⟨r_2, G_1, hq_3, hf⟩ := zx_bd_some hf
  have hg := zv_call hg (v_M_there x2 x3 G hq_3) (by decide) (by decide)
  rcases zx_if_some hf with ⟨hc_4, hf⟩ | ⟨hc_4, hf⟩
  · skip
    exact zv_tr hg (v_M_sample_45 G_1 hf)
  · skip
    rcases zx_if_some hf with ⟨hc_5, hf⟩ | ⟨hc_5, hf⟩
    · skip
      exact zv_tr hg (v_M_sample_45 G_1 hf)
    · skip
      rcases zx_if_some hf with ⟨hc_6, hf⟩ | ⟨hc_6, hf⟩
      · skip
        exact zv_tr hg (v_M_sample_45 G_1 hf)
      · skip
        obtain ⟨hb_7, hf⟩ := zx_gd_some hf
        exact zv_tr hg (v_M_sample_46 (G_1 42 (Int32.toNatClampNeg ((((256 : Int32) * x1) + ((16 : Int32) * x3)) + x2))) G_1 hf)
theorem v_M_sample (x1 x2 x3 : Int32) (G : zx_G) {r : Int32} {G1 : zx_G} (hf : f_M_sample x1 x2 x3 G = some (r, G1)) : ∀ q k, q ∉ A_M_sample → (q, k) ∉ O_M_sample → G1 q k = G q k := v_M_sample_0 x1 x2 x3 G hf
abbrev A_M_block : List Nat := []
abbrev O_M_block : List (Nat × Nat) := []
theorem v_M_block_45 {r : Int32} {G1 : zx_G} (s0 : Int32) (G : zx_G) (hf : f_M_block_45 s0 G = some (r, G1)) : ∀ q k, q ∉ A_M_block → (q, k) ∉ O_M_block → G1 q k = G q k := by
  unfold f_M_block_45 at hf
  have hg : ∀ q k, q ∉ A_M_block → (q, k) ∉ O_M_block → G q k = G q k := fun _ _ _ _ => rfl
  exact zv_ret hg hf
theorem v_M_block_44 {r : Int32} {G1 : zx_G} (G : zx_G) (hf : f_M_block_44 G = some (r, G1)) : ∀ q k, q ∉ A_M_block → (q, k) ∉ O_M_block → G1 q k = G q k := by
  unfold f_M_block_44 at hf
  have hg : ∀ q k, q ∉ A_M_block → (q, k) ∉ O_M_block → G q k = G q k := fun _ _ _ _ => rfl
  exact zv_tr hg (v_M_block_45 (-1 : Int32) G hf)
theorem v_M_block_0 {r : Int32} {G1 : zx_G} (x1 x2 x3 : Int32) (G : zx_G) (hf : f_M_block x1 x2 x3 G = some (r, G1)) : ∀ q k, q ∉ A_M_block → (q, k) ∉ O_M_block → G1 q k = G q k := by
  unfold f_M_block at hf
  have hg : ∀ q k, q ∉ A_M_block → (q, k) ∉ O_M_block → G q k = G q k := fun _ _ _ _ => rfl
  obtain ⟨r_2, G_1, hq_3, hf⟩ := zx_bd_some hf
  have hg := zv_call hg (v_M_there x1 x2 G hq_3) (by decide) (by decide)
  rcases zx_if_some hf with ⟨hc_4, hf⟩ | ⟨hc_4, hf⟩
  · skip
    exact zv_tr hg (v_M_block_44 G_1 hf)
  · skip
    rcases zx_if_some hf with ⟨hc_5, hf⟩ | ⟨hc_5, hf⟩
    · skip
      exact zv_tr hg (v_M_block_44 G_1 hf)
    · skip
      rcases zx_if_some hf with ⟨hc_6, hf⟩ | ⟨hc_6, hf⟩
      · skip
        exact zv_tr hg (v_M_block_44 G_1 hf)
      · skip
        obtain ⟨hb_7, hf⟩ := zx_gd_some hf
        obtain ⟨hb_8, hf⟩ := zx_gd_some hf
        obtain ⟨hb_9, hf⟩ := zx_gd_some hf
        obtain ⟨hb_10, hf⟩ := zx_gd_some hf
        exact zv_tr hg (v_M_block_45 (G_1 45 (Int32.toNatClampNeg (((4 : Int32) * (G_1 44 (Int32.toNatClampNeg (((zx_div x2 (4 : Int32)) * (4 : Int32)) + (zx_div x1 (4 : Int32)))))) + x3))) G_1 hf)
theorem v_M_block (x1 x2 x3 : Int32) (G : zx_G) {r : Int32} {G1 : zx_G} (hf : f_M_block x1 x2 x3 G = some (r, G1)) : ∀ q k, q ∉ A_M_block → (q, k) ∉ O_M_block → G1 q k = G q k := v_M_block_0 x1 x2 x3 G hf
abbrev A_M_blocks : List Nat := []
abbrev O_M_blocks : List (Nat × Nat) := []
theorem v_M_blocks_15 {r : Int32} {G1 : zx_G} (s0 : Int32) (G : zx_G) (hf : f_M_blocks_15 s0 G = some (r, G1)) : ∀ q k, q ∉ A_M_blocks → (q, k) ∉ O_M_blocks → G1 q k = G q k := by
  unfold f_M_blocks_15 at hf
  have hg : ∀ q k, q ∉ A_M_blocks → (q, k) ∉ O_M_blocks → G q k = G q k := fun _ _ _ _ => rfl
  exact zv_ret hg hf
theorem v_M_blocks_0 {r : Int32} {G1 : zx_G} (G : zx_G) (hf : f_M_blocks G = some (r, G1)) : ∀ q k, q ∉ A_M_blocks → (q, k) ∉ O_M_blocks → G1 q k = G q k := by
  unfold f_M_blocks at hf
  have hg : ∀ q k, q ∉ A_M_blocks → (q, k) ∉ O_M_blocks → G q k = G q k := fun _ _ _ _ => rfl
  rcases zx_if_some hf with ⟨hc_1, hf⟩ | ⟨hc_1, hf⟩
  · skip
    exact zv_tr hg (v_M_blocks_15 (0 : Int32) G hf)
  · skip
    exact zv_tr hg (v_M_blocks_15 (G 32 37) G hf)
theorem v_M_blocks (G : zx_G) {r : Int32} {G1 : zx_G} (hf : f_M_blocks G = some (r, G1)) : ∀ q k, q ∉ A_M_blocks → (q, k) ∉ O_M_blocks → G1 q k = G q k := v_M_blocks_0 G hf
abbrev A_M_symbols : List Nat := []
abbrev O_M_symbols : List (Nat × Nat) := []
theorem v_M_symbols_15 {r : Int32} {G1 : zx_G} (s0 : Int32) (G : zx_G) (hf : f_M_symbols_15 s0 G = some (r, G1)) : ∀ q k, q ∉ A_M_symbols → (q, k) ∉ O_M_symbols → G1 q k = G q k := by
  unfold f_M_symbols_15 at hf
  have hg : ∀ q k, q ∉ A_M_symbols → (q, k) ∉ O_M_symbols → G q k = G q k := fun _ _ _ _ => rfl
  exact zv_ret hg hf
theorem v_M_symbols_0 {r : Int32} {G1 : zx_G} (G : zx_G) (hf : f_M_symbols G = some (r, G1)) : ∀ q k, q ∉ A_M_symbols → (q, k) ∉ O_M_symbols → G1 q k = G q k := by
  unfold f_M_symbols at hf
  have hg : ∀ q k, q ∉ A_M_symbols → (q, k) ∉ O_M_symbols → G q k = G q k := fun _ _ _ _ => rfl
  rcases zx_if_some hf with ⟨hc_1, hf⟩ | ⟨hc_1, hf⟩
  · skip
    exact zv_tr hg (v_M_symbols_15 (0 : Int32) G hf)
  · skip
    exact zv_tr hg (v_M_symbols_15 (G 32 30) G hf)
theorem v_M_symbols (G : zx_G) {r : Int32} {G1 : zx_G} (hf : f_M_symbols G = some (r, G1)) : ∀ q k, q ∉ A_M_symbols → (q, k) ∉ O_M_symbols → G1 q k = G q k := v_M_symbols_0 G hf
abbrev A_M_taken : List Nat := []
abbrev O_M_taken : List (Nat × Nat) := []
theorem v_M_taken_15 {r : Int32} {G1 : zx_G} (s0 : Int32) (G : zx_G) (hf : f_M_taken_15 s0 G = some (r, G1)) : ∀ q k, q ∉ A_M_taken → (q, k) ∉ O_M_taken → G1 q k = G q k := by
  unfold f_M_taken_15 at hf
  have hg : ∀ q k, q ∉ A_M_taken → (q, k) ∉ O_M_taken → G q k = G q k := fun _ _ _ _ => rfl
  exact zv_ret hg hf
theorem v_M_taken_0 {r : Int32} {G1 : zx_G} (G : zx_G) (hf : f_M_taken G = some (r, G1)) : ∀ q k, q ∉ A_M_taken → (q, k) ∉ O_M_taken → G1 q k = G q k := by
  unfold f_M_taken at hf
  have hg : ∀ q k, q ∉ A_M_taken → (q, k) ∉ O_M_taken → G q k = G q k := fun _ _ _ _ => rfl
  rcases zx_if_some hf with ⟨hc_1, hf⟩ | ⟨hc_1, hf⟩
  · skip
    exact zv_tr hg (v_M_taken_15 (0 : Int32) G hf)
  · skip
    exact zv_tr hg (v_M_taken_15 (G 32 29) G hf)
theorem v_M_taken (G : zx_G) {r : Int32} {G1 : zx_G} (hf : f_M_taken G = some (r, G1)) : ∀ q k, q ∉ A_M_taken → (q, k) ∉ O_M_taken → G1 q k = G q k := v_M_taken_0 G hf
abbrev A_M_table : List Nat := []
abbrev O_M_table : List (Nat × Nat) := []
theorem v_M_table_44 {r : Int32} {G1 : zx_G} (s0 : Int32) (G : zx_G) (hf : f_M_table_44 s0 G = some (r, G1)) : ∀ q k, q ∉ A_M_table → (q, k) ∉ O_M_table → G1 q k = G q k := by
  unfold f_M_table_44 at hf
  have hg : ∀ q k, q ∉ A_M_table → (q, k) ∉ O_M_table → G q k = G q k := fun _ _ _ _ => rfl
  exact zv_ret hg hf
theorem v_M_table_43 {r : Int32} {G1 : zx_G} (G : zx_G) (hf : f_M_table_43 G = some (r, G1)) : ∀ q k, q ∉ A_M_table → (q, k) ∉ O_M_table → G1 q k = G q k := by
  unfold f_M_table_43 at hf
  have hg : ∀ q k, q ∉ A_M_table → (q, k) ∉ O_M_table → G q k = G q k := fun _ _ _ _ => rfl
  exact zv_tr hg (v_M_table_44 (-1 : Int32) G hf)
theorem v_M_table_0 {r : Int32} {G1 : zx_G} (x1 x2 : Int32) (G : zx_G) (hf : f_M_table x1 x2 G = some (r, G1)) : ∀ q k, q ∉ A_M_table → (q, k) ∉ O_M_table → G1 q k = G q k := by
  unfold f_M_table at hf
  have hg : ∀ q k, q ∉ A_M_table → (q, k) ∉ O_M_table → G q k = G q k := fun _ _ _ _ => rfl
  rcases zx_if_some hf with ⟨hc_1, hf⟩ | ⟨hc_1, hf⟩
  · skip
    exact zv_tr hg (v_M_table_43 G hf)
  · skip
    rcases zx_if_some hf with ⟨hc_2, hf⟩ | ⟨hc_2, hf⟩
    · skip
      exact zv_tr hg (v_M_table_43 G hf)
    · skip
      rcases zx_if_some hf with ⟨hc_3, hf⟩ | ⟨hc_3, hf⟩
      · skip
        exact zv_tr hg (v_M_table_43 G hf)
      · skip
        rcases zx_if_some hf with ⟨hc_4, hf⟩ | ⟨hc_4, hf⟩
        · skip
          exact zv_tr hg (v_M_table_43 G hf)
        · skip
          obtain ⟨r_6, G_5, hq_7, hf⟩ := zx_bd_some hf
          have hg := zv_call hg (v_M_tableSize x1 G hq_7) (by decide) (by decide)
          rcases zx_if_some hf with ⟨hc_8, hf⟩ | ⟨hc_8, hf⟩
          · skip
            exact zv_tr hg (v_M_table_43 G_5 hf)
          · skip
            obtain ⟨hb_9, hf⟩ := zx_gd_some hf
            exact zv_tr hg (v_M_table_44 (G_5 40 (Int32.toNatClampNeg (((16 : Int32) * x1) + x2))) G_5 hf)
theorem v_M_table (x1 x2 : Int32) (G : zx_G) {r : Int32} {G1 : zx_G} (hf : f_M_table x1 x2 G = some (r, G1)) : ∀ q k, q ∉ A_M_table → (q, k) ∉ O_M_table → G1 q k = G q k := v_M_table_0 x1 x2 G hf
