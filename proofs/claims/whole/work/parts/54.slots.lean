/-! the same by slots; written by a program -/
theorem zv_uo {A : List Nat} {O : List (Nat × Nat)} {G0 G G1 : zx_G} {p s : Nat} {x : Int32} (hg : ∀ q k, q ∉ A → (q, k) ∉ O → G q k = G0 q k) (e : G1 = zx_up G p s x) (hp : (p, s) ∈ O) : ∀ q k, q ∉ A → (q, k) ∉ O → G1 q k = G0 q k := fun q k hq hk => by
  rw [e]
  show zx_upA G p (upd (G p) s x) q k = _
  unfold zx_upA
  by_cases h : q = p
  · subst h
    rw [if_pos rfl]
    have h2 : ¬ k = s := fun z => hk (by rw [z]; exact hp)
    show (if k = s then x else G q k) = _
    rw [if_neg h2]
    exact hg q k hq hk
  · rw [if_neg h]
    exact hg q k hq hk
theorem zv_ua {A : List Nat} {O : List (Nat × Nat)} {G0 G G1 : zx_G} {p s : Nat} {x : Int32} (hg : ∀ q k, q ∉ A → (q, k) ∉ O → G q k = G0 q k) (e : G1 = zx_up G p s x) (hp : p ∈ A) : ∀ q k, q ∉ A → (q, k) ∉ O → G1 q k = G0 q k := fun q k hq hk => by
  have h : ¬ q = p := fun z => hq (by rw [z]; exact hp)
  rw [e]
  show zx_upA G p (upd (G p) s x) q k = _
  unfold zx_upA
  rw [if_neg h]
  exact hg q k hq hk
theorem zv_cp {A : List Nat} {O : List (Nat × Nat)} {G0 G G1 : zx_G} {src dst : Nat} {sp dp n : Int32} (hg : ∀ q k, q ∉ A → (q, k) ∉ O → G q k = G0 q k) (e : G1 = zx_copy G src dst sp dp n) (hp : dst ∈ A) : ∀ q k, q ∉ A → (q, k) ∉ O → G1 q k = G0 q k := fun q k hq hk => by
  have h : ¬ q = dst := fun z => hq (by rw [z]; exact hp)
  rw [e]
  show zx_upA G dst _ q k = _
  unfold zx_upA
  rw [if_neg h]
  exact hg q k hq hk
theorem zv_call {A A1 : List Nat} {O O1 : List (Nat × Nat)} {G0 G G1 : zx_G} (hg : ∀ q k, q ∉ A → (q, k) ∉ O → G q k = G0 q k) (h1 : ∀ q k, q ∉ A1 → (q, k) ∉ O1 → G1 q k = G q k) (hs : ∀ q ∈ A1, q ∈ A) (ho : ∀ q ∈ O1, q ∈ O) : ∀ q k, q ∉ A → (q, k) ∉ O → G1 q k = G0 q k := fun q k hq hk => (h1 q k (fun z => hq (hs q z)) (fun z => hk (ho _ z))).trans (hg q k hq hk)
theorem zv_tr {A : List Nat} {O : List (Nat × Nat)} {G0 G G1 : zx_G} (hg : ∀ q k, q ∉ A → (q, k) ∉ O → G q k = G0 q k) (h1 : ∀ q k, q ∉ A → (q, k) ∉ O → G1 q k = G q k) : ∀ q k, q ∉ A → (q, k) ∉ O → G1 q k = G0 q k := fun q k hq hk => (h1 q k hq hk).trans (hg q k hq hk)
theorem zv_ret {A : List Nat} {O : List (Nat × Nat)} {G0 G G1 : zx_G} {x r : Int32} (hg : ∀ q k, q ∉ A → (q, k) ∉ O → G q k = G0 q k) (hf : some (x, G) = some (r, G1)) : ∀ q k, q ∉ A → (q, k) ∉ O → G1 q k = G0 q k := by cases hf; exact hg
abbrev A_S_isByte : List Nat := []
abbrev O_S_isByte : List (Nat × Nat) := []
theorem v_S_isByte_16 {r : Int32} {G1 : zx_G} (s0 : Int32) (G : zx_G) (hf : f_S_isByte_16 s0 G = some (r, G1)) : ∀ q k, q ∉ A_S_isByte → (q, k) ∉ O_S_isByte → G1 q k = G q k := by
  unfold f_S_isByte_16 at hf
  have hg : ∀ q k, q ∉ A_S_isByte → (q, k) ∉ O_S_isByte → G q k = G q k := fun _ _ _ _ => rfl
  obtain ⟨hb_1, hf⟩ := zx_gd_some hf
  exact zv_ret hg hf
theorem v_S_isByte_15 {r : Int32} {G1 : zx_G} (G : zx_G) (hf : f_S_isByte_15 G = some (r, G1)) : ∀ q k, q ∉ A_S_isByte → (q, k) ∉ O_S_isByte → G1 q k = G q k := by
  unfold f_S_isByte_15 at hf
  have hg : ∀ q k, q ∉ A_S_isByte → (q, k) ∉ O_S_isByte → G q k = G q k := fun _ _ _ _ => rfl
  exact zv_tr hg (v_S_isByte_16 (0 : Int32) G hf)
theorem v_S_isByte_0 {r : Int32} {G1 : zx_G} (x0 : Int32) (G : zx_G) (hf : f_S_isByte x0 G = some (r, G1)) : ∀ q k, q ∉ A_S_isByte → (q, k) ∉ O_S_isByte → G1 q k = G q k := by
  unfold f_S_isByte at hf
  have hg : ∀ q k, q ∉ A_S_isByte → (q, k) ∉ O_S_isByte → G q k = G q k := fun _ _ _ _ => rfl
  rcases zx_if_some hf with ⟨hc_1, hf⟩ | ⟨hc_1, hf⟩
  · skip
    exact zv_tr hg (v_S_isByte_15 G hf)
  · skip
    rcases zx_if_some hf with ⟨hc_2, hf⟩ | ⟨hc_2, hf⟩
    · skip
      exact zv_tr hg (v_S_isByte_15 G hf)
    · skip
      exact zv_tr hg (v_S_isByte_16 (1 : Int32) G hf)
theorem v_S_isByte (x0 : Int32) (G : zx_G) {r : Int32} {G1 : zx_G} (hf : f_S_isByte x0 G = some (r, G1)) : ∀ q k, q ∉ A_S_isByte → (q, k) ∉ O_S_isByte → G1 q k = G q k := v_S_isByte_0 x0 G hf
abbrev A_S_add : List Nat := [1]
abbrev O_S_add : List (Nat × Nat) := [(0, 8)]
theorem v_S_add_17 {r : Int32} {G1 : zx_G} (G : zx_G) (hf : f_S_add_17 G = some (r, G1)) : ∀ q k, q ∉ A_S_add → (q, k) ∉ O_S_add → G1 q k = G q k := by
  unfold f_S_add_17 at hf
  have hg : ∀ q k, q ∉ A_S_add → (q, k) ∉ O_S_add → G q k = G q k := fun _ _ _ _ => rfl
  obtain ⟨hb_1, hf⟩ := zx_gd_some hf
  exact zv_ret hg hf
theorem v_S_add_0 {r : Int32} {G1 : zx_G} (x1 : Int32) (G : zx_G) (hf : f_S_add x1 G = some (r, G1)) : ∀ q k, q ∉ A_S_add → (q, k) ∉ O_S_add → G1 q k = G q k := by
  unfold f_S_add at hf
  have hg : ∀ q k, q ∉ A_S_add → (q, k) ∉ O_S_add → G q k = G q k := fun _ _ _ _ => rfl
  obtain ⟨r_2, G_1, hq_3, hf⟩ := zx_bd_some hf
  have hg := zv_call hg (v_S_isByte x1 G hq_3) (by decide) (by decide)
  rcases zx_if_some hf with ⟨hc_4, hf⟩ | ⟨hc_4, hf⟩
  · skip
    exact zv_tr hg (v_S_add_17 G_1 hf)
  · skip
    rcases zx_if_some hf with ⟨hc_5, hf⟩ | ⟨hc_5, hf⟩
    · skip
      obtain ⟨hb_6, hf⟩ := zx_gd_some hf
      obtain ⟨G_7, eG_7, hf⟩ := zx_lt_some hf
      have hg := zv_ua hg eG_7 (by decide)
      obtain ⟨G_8, eG_8, hf⟩ := zx_lt_some hf
      have hg := zv_uo hg eG_8 (by decide)
      obtain ⟨hb_9, hf⟩ := zx_gd_some hf
      exact zv_ret hg hf
    · skip
      exact zv_tr hg (v_S_add_17 G_1 hf)
theorem v_S_add (x1 : Int32) (G : zx_G) {r : Int32} {G1 : zx_G} (hf : f_S_add x1 G = some (r, G1)) : ∀ q k, q ∉ A_S_add → (q, k) ∉ O_S_add → G1 q k = G q k := v_S_add_0 x1 G hf
abbrev A_S_word : List Nat := [1]
abbrev O_S_word : List (Nat × Nat) := [(0, 8)]
theorem v_S_word_14 {r : Int32} {G1 : zx_G} : ∀ (n : Nat) (x1 x2 : Int32) (G : zx_G), f_S_word_14 n x1 x2 G = some (r, G1) → ∀ q k, q ∉ A_S_word → (q, k) ∉ O_S_word → G1 q k = G q k := by
  intro n
  induction n with
  | zero => intro x1 x2 G hf; cases hf
  | succ n ih =>
    intro x1 x2 G hf
    unfold f_S_word_14 at hf
    have hg : ∀ q k, q ∉ A_S_word → (q, k) ∉ O_S_word → G q k = G q k := fun _ _ _ _ => rfl
    rcases zx_if_some hf with ⟨hc_1, hf⟩ | ⟨hc_1, hf⟩
    · skip
      obtain ⟨G_2, eG_2, hf⟩ := zx_lt_some hf
      have hg := zv_uo hg eG_2 (by decide)
      obtain ⟨hb_3, hf⟩ := zx_gd_some hf
      exact zv_ret hg hf
    · skip
      obtain ⟨hb_4, hf⟩ := zx_gd_some hf
      obtain ⟨G_5, eG_5, hf⟩ := zx_lt_some hf
      have hg := zv_ua hg eG_5 (by decide)
      obtain ⟨x2_6, ex2_6, hf⟩ := zx_lt_some hf
      exact zv_tr hg (ih x1 x2_6 G_5 hf)
theorem v_S_word_0 {r : Int32} {G1 : zx_G} (x1 : Int32) (G : zx_G) (hf : f_S_word x1 G = some (r, G1)) : ∀ q k, q ∉ A_S_word → (q, k) ∉ O_S_word → G1 q k = G q k := by
  unfold f_S_word at hf
  have hg : ∀ q k, q ∉ A_S_word → (q, k) ∉ O_S_word → G q k = G q k := fun _ _ _ _ => rfl
  rcases zx_if_some hf with ⟨hc_1, hf⟩ | ⟨hc_1, hf⟩
  · skip
    obtain ⟨x2_2, ex2_2, hf⟩ := zx_lt_some hf
    exact zv_tr hg (v_S_word_14 2048 x1 x2_2 G hf)
  · skip
    obtain ⟨hb_3, hf⟩ := zx_gd_some hf
    exact zv_ret hg hf
theorem v_S_word (x1 : Int32) (G : zx_G) {r : Int32} {G1 : zx_G} (hf : f_S_word x1 G = some (r, G1)) : ∀ q k, q ∉ A_S_word → (q, k) ∉ O_S_word → G1 q k = G q k := v_S_word_0 x1 G hf
abbrev A_S_patch : List Nat := [1]
abbrev O_S_patch : List (Nat × Nat) := []
theorem v_S_patch_19 {r : Int32} {G1 : zx_G} (G : zx_G) (hf : f_S_patch_19 G = some (r, G1)) : ∀ q k, q ∉ A_S_patch → (q, k) ∉ O_S_patch → G1 q k = G q k := by
  unfold f_S_patch_19 at hf
  have hg : ∀ q k, q ∉ A_S_patch → (q, k) ∉ O_S_patch → G q k = G q k := fun _ _ _ _ => rfl
  exact zv_ret hg hf
theorem v_S_patch_0 {r : Int32} {G1 : zx_G} (x1 x2 : Int32) (G : zx_G) (hf : f_S_patch x1 x2 G = some (r, G1)) : ∀ q k, q ∉ A_S_patch → (q, k) ∉ O_S_patch → G1 q k = G q k := by
  unfold f_S_patch at hf
  have hg : ∀ q k, q ∉ A_S_patch → (q, k) ∉ O_S_patch → G q k = G q k := fun _ _ _ _ => rfl
  rcases zx_if_some hf with ⟨hc_1, hf⟩ | ⟨hc_1, hf⟩
  · skip
    exact zv_tr hg (v_S_patch_19 G hf)
  · skip
    rcases zx_if_some hf with ⟨hc_2, hf⟩ | ⟨hc_2, hf⟩
    · skip
      exact zv_tr hg (v_S_patch_19 G hf)
    · skip
      obtain ⟨r_4, G_3, hq_5, hf⟩ := zx_bd_some hf
      have hg := zv_call hg (v_S_isByte x2 G hq_5) (by decide) (by decide)
      rcases zx_if_some hf with ⟨hc_6, hf⟩ | ⟨hc_6, hf⟩
      · skip
        obtain ⟨hb_7, hf⟩ := zx_gd_some hf
        obtain ⟨x3_8, ex3_8, hf⟩ := zx_lt_some hf
        obtain ⟨hb_9, hf⟩ := zx_gd_some hf
        obtain ⟨G_10, eG_10, hf⟩ := zx_lt_some hf
        have hg := zv_ua hg eG_10 (by decide)
        exact zv_ret hg hf
      · skip
        exact zv_tr hg (v_S_patch_19 G_3 hf)
theorem v_S_patch (x1 x2 : Int32) (G : zx_G) {r : Int32} {G1 : zx_G} (hf : f_S_patch x1 x2 G = some (r, G1)) : ∀ q k, q ∉ A_S_patch → (q, k) ∉ O_S_patch → G1 q k = G q k := v_S_patch_0 x1 x2 G hf
abbrev A_S_clear : List Nat := []
abbrev O_S_clear : List (Nat × Nat) := [(0, 8)]
theorem v_S_clear_0 {r : Int32} {G1 : zx_G} (G : zx_G) (hf : f_S_clear G = some (r, G1)) : ∀ q k, q ∉ A_S_clear → (q, k) ∉ O_S_clear → G1 q k = G q k := by
  unfold f_S_clear at hf
  have hg : ∀ q k, q ∉ A_S_clear → (q, k) ∉ O_S_clear → G q k = G q k := fun _ _ _ _ => rfl
  obtain ⟨G_1, eG_1, hf⟩ := zx_lt_some hf
  have hg := zv_uo hg eG_1 (by decide)
  exact zv_ret hg hf
theorem v_S_clear (G : zx_G) {r : Int32} {G1 : zx_G} (hf : f_S_clear G = some (r, G1)) : ∀ q k, q ∉ A_S_clear → (q, k) ∉ O_S_clear → G1 q k = G q k := v_S_clear_0 G hf
abbrev A_S_size : List Nat := []
abbrev O_S_size : List (Nat × Nat) := []
theorem v_S_size_0 {r : Int32} {G1 : zx_G} (G : zx_G) (hf : f_S_size G = some (r, G1)) : ∀ q k, q ∉ A_S_size → (q, k) ∉ O_S_size → G1 q k = G q k := by
  unfold f_S_size at hf
  have hg : ∀ q k, q ∉ A_S_size → (q, k) ∉ O_S_size → G q k = G q k := fun _ _ _ _ => rfl
  exact zv_ret hg hf
theorem v_S_size (G : zx_G) {r : Int32} {G1 : zx_G} (hf : f_S_size G = some (r, G1)) : ∀ q k, q ∉ A_S_size → (q, k) ∉ O_S_size → G1 q k = G q k := v_S_size_0 G hf
abbrev A_F_pull : List Nat := []
abbrev O_F_pull : List (Nat × Nat) := []
theorem v_F_pull_36 {r : Int32} {G1 : zx_G} (s0 : Int32) (G : zx_G) (hf : f_F_pull_36 s0 G = some (r, G1)) : ∀ q k, q ∉ A_F_pull → (q, k) ∉ O_F_pull → G1 q k = G q k := by
  unfold f_F_pull_36 at hf
  have hg : ∀ q k, q ∉ A_F_pull → (q, k) ∉ O_F_pull → G q k = G q k := fun _ _ _ _ => rfl
  exact zv_ret hg hf
theorem v_F_pull_0 {r : Int32} {G1 : zx_G} (x0 x1 : Int32) (G : zx_G) (hf : f_F_pull x0 x1 G = some (r, G1)) : ∀ q k, q ∉ A_F_pull → (q, k) ∉ O_F_pull → G1 q k = G q k := by
  unfold f_F_pull at hf
  have hg : ∀ q k, q ∉ A_F_pull → (q, k) ∉ O_F_pull → G q k = G q k := fun _ _ _ _ => rfl
  obtain ⟨x2_1, ex2_1, hf⟩ := zx_lt_some hf
  obtain ⟨x3_2, ex3_2, hf⟩ := zx_lt_some hf
  obtain ⟨x4_3, ex4_3, hf⟩ := zx_lt_some hf
  rcases zx_if_some hf with ⟨hc_4, hf⟩ | ⟨hc_4, hf⟩
  · skip
    exact zv_tr hg (v_F_pull_36 x4_3 G hf)
  · skip
    exact zv_tr hg (v_F_pull_36 (-x4_3) G hf)
theorem v_F_pull (x0 x1 : Int32) (G : zx_G) {r : Int32} {G1 : zx_G} (hf : f_F_pull x0 x1 G = some (r, G1)) : ∀ q k, q ∉ A_F_pull → (q, k) ∉ O_F_pull → G1 q k = G q k := v_F_pull_0 x0 x1 G hf
abbrev A_P_placeOf : List Nat := []
abbrev O_P_placeOf : List (Nat × Nat) := []
theorem v_P_placeOf_0 {r : Int32} {G1 : zx_G} (x0 x1 x2 : Int32) (G : zx_G) (hf : f_P_placeOf x0 x1 x2 G = some (r, G1)) : ∀ q k, q ∉ A_P_placeOf → (q, k) ∉ O_P_placeOf → G1 q k = G q k := by
  unfold f_P_placeOf at hf
  have hg : ∀ q k, q ∉ A_P_placeOf → (q, k) ∉ O_P_placeOf → G q k = G q k := fun _ _ _ _ => rfl
  exact zv_ret hg hf
theorem v_P_placeOf (x0 x1 x2 : Int32) (G : zx_G) {r : Int32} {G1 : zx_G} (hf : f_P_placeOf x0 x1 x2 G = some (r, G1)) : ∀ q k, q ∉ A_P_placeOf → (q, k) ∉ O_P_placeOf → G1 q k = G q k := v_P_placeOf_0 x0 x1 x2 G hf
abbrev A_F_soften : List Nat := [18, 31]
abbrev O_F_soften : List (Nat × Nat) := []
theorem v_F_soften_176 {r : Int32} {G1 : zx_G} {k11 : Int32 → Int32 → Int32 → zx_G → Option (Int32 × zx_G)} {k26 : Int32 → Int32 → Int32 → Int32 → zx_G → Option (Int32 × zx_G)} (hk11 : ∀ (x1 x2 x4 : Int32) (G : zx_G), k11 x1 x2 x4 G = some (r, G1) → ∀ q k, q ∉ A_F_soften → (q, k) ∉ O_F_soften → G1 q k = G q k) (hk26 : ∀ (x1 x2 x4 x5 : Int32) (G : zx_G), k26 x1 x2 x4 x5 G = some (r, G1) → ∀ q k, q ∉ A_F_soften → (q, k) ∉ O_F_soften → G1 q k = G q k) (x1 x2 x4 x5 x7 s0 s1 : Int32) (G : zx_G) (hf : f_F_soften_176 k11 k26 x1 x2 x4 x5 x7 s0 s1 G = some (r, G1)) : ∀ q k, q ∉ A_F_soften → (q, k) ∉ O_F_soften → G1 q k = G q k := by
  unfold f_F_soften_176 at hf
  have hg : ∀ q k, q ∉ A_F_soften → (q, k) ∉ O_F_soften → G q k = G q k := fun _ _ _ _ => rfl
  obtain ⟨x8_1, ex8_1, hf⟩ := zx_lt_some hf
  obtain ⟨hb_2, hf⟩ := zx_gd_some hf
  obtain ⟨G_3, eG_3, hf⟩ := zx_lt_some hf
  have hg := zv_ua hg eG_3 (by decide)
  obtain ⟨x5_4, ex5_4, hf⟩ := zx_lt_some hf
  exact zv_tr hg (hk26 x1 x2 x4 x5_4 G_3 hf)
theorem v_F_soften_139 {r : Int32} {G1 : zx_G} {k11 : Int32 → Int32 → Int32 → zx_G → Option (Int32 × zx_G)} {k26 : Int32 → Int32 → Int32 → Int32 → zx_G → Option (Int32 × zx_G)} (hk11 : ∀ (x1 x2 x4 : Int32) (G : zx_G), k11 x1 x2 x4 G = some (r, G1) → ∀ q k, q ∉ A_F_soften → (q, k) ∉ O_F_soften → G1 q k = G q k) (hk26 : ∀ (x1 x2 x4 x5 : Int32) (G : zx_G), k26 x1 x2 x4 x5 G = some (r, G1) → ∀ q k, q ∉ A_F_soften → (q, k) ∉ O_F_soften → G1 q k = G q k) (x1 x2 x4 x5 x6 x7 s0 s1 : Int32) (G : zx_G) (hf : f_F_soften_139 k11 k26 x1 x2 x4 x5 x6 x7 s0 s1 G = some (r, G1)) : ∀ q k, q ∉ A_F_soften → (q, k) ∉ O_F_soften → G1 q k = G q k := by
  unfold f_F_soften_139 at hf
  have hg : ∀ q k, q ∉ A_F_soften → (q, k) ∉ O_F_soften → G q k = G q k := fun _ _ _ _ => rfl
  obtain ⟨x8_1, ex8_1, hf⟩ := zx_lt_some hf
  rcases zx_if_some hf with ⟨hc_2, hf⟩ | ⟨hc_2, hf⟩
  · skip
    exact zv_tr hg (v_F_soften_176 hk11 hk26 x1 x2 x4 x5 x7 x8_1 (0 : Int32) G hf)
  · skip
    obtain ⟨hb_3, hf⟩ := zx_gd_some hf
    obtain ⟨r_5, G_4, hq_6, hf⟩ := zx_bd_some hf
    have hg := zv_call hg (v_F_pull ((G 18 (Int32.toNatClampNeg (x6 + (16 : Int32)))) - x7) x2 G hq_6) (by decide) (by decide)
    exact zv_tr hg (v_F_soften_176 hk11 hk26 x1 x2 x4 x5 x7 x8_1 r_5 G_4 hf)
theorem v_F_soften_111 {r : Int32} {G1 : zx_G} {k11 : Int32 → Int32 → Int32 → zx_G → Option (Int32 × zx_G)} {k26 : Int32 → Int32 → Int32 → Int32 → zx_G → Option (Int32 × zx_G)} (hk11 : ∀ (x1 x2 x4 : Int32) (G : zx_G), k11 x1 x2 x4 G = some (r, G1) → ∀ q k, q ∉ A_F_soften → (q, k) ∉ O_F_soften → G1 q k = G q k) (hk26 : ∀ (x1 x2 x4 x5 : Int32) (G : zx_G), k26 x1 x2 x4 x5 G = some (r, G1) → ∀ q k, q ∉ A_F_soften → (q, k) ∉ O_F_soften → G1 q k = G q k) (x1 x2 x4 x5 x6 x7 s0 s1 : Int32) (G : zx_G) (hf : f_F_soften_111 k11 k26 x1 x2 x4 x5 x6 x7 s0 s1 G = some (r, G1)) : ∀ q k, q ∉ A_F_soften → (q, k) ∉ O_F_soften → G1 q k = G q k := by
  unfold f_F_soften_111 at hf
  have hg : ∀ q k, q ∉ A_F_soften → (q, k) ∉ O_F_soften → G q k = G q k := fun _ _ _ _ => rfl
  obtain ⟨x8_1, ex8_1, hf⟩ := zx_lt_some hf
  rcases zx_if_some hf with ⟨hc_2, hf⟩ | ⟨hc_2, hf⟩
  · skip
    exact zv_tr hg (v_F_soften_139 hk11 hk26 x1 x2 x4 x5 x6 x7 x8_1 (0 : Int32) G hf)
  · skip
    obtain ⟨hb_3, hf⟩ := zx_gd_some hf
    obtain ⟨r_5, G_4, hq_6, hf⟩ := zx_bd_some hf
    have hg := zv_call hg (v_F_pull ((G 18 (Int32.toNatClampNeg (x6 - (16 : Int32)))) - x7) x2 G hq_6) (by decide) (by decide)
    exact zv_tr hg (v_F_soften_139 hk11 hk26 x1 x2 x4 x5 x6 x7 x8_1 r_5 G_4 hf)
theorem v_F_soften_76 {r : Int32} {G1 : zx_G} {k11 : Int32 → Int32 → Int32 → zx_G → Option (Int32 × zx_G)} {k26 : Int32 → Int32 → Int32 → Int32 → zx_G → Option (Int32 × zx_G)} (hk11 : ∀ (x1 x2 x4 : Int32) (G : zx_G), k11 x1 x2 x4 G = some (r, G1) → ∀ q k, q ∉ A_F_soften → (q, k) ∉ O_F_soften → G1 q k = G q k) (hk26 : ∀ (x1 x2 x4 x5 : Int32) (G : zx_G), k26 x1 x2 x4 x5 G = some (r, G1) → ∀ q k, q ∉ A_F_soften → (q, k) ∉ O_F_soften → G1 q k = G q k) (x1 x2 x4 x5 x6 x7 s0 : Int32) (G : zx_G) (hf : f_F_soften_76 k11 k26 x1 x2 x4 x5 x6 x7 s0 G = some (r, G1)) : ∀ q k, q ∉ A_F_soften → (q, k) ∉ O_F_soften → G1 q k = G q k := by
  unfold f_F_soften_76 at hf
  have hg : ∀ q k, q ∉ A_F_soften → (q, k) ∉ O_F_soften → G q k = G q k := fun _ _ _ _ => rfl
  obtain ⟨x8_1, ex8_1, hf⟩ := zx_lt_some hf
  rcases zx_if_some hf with ⟨hc_2, hf⟩ | ⟨hc_2, hf⟩
  · skip
    exact zv_tr hg (v_F_soften_111 hk11 hk26 x1 x2 x4 x5 x6 x7 x8_1 (0 : Int32) G hf)
  · skip
    obtain ⟨hb_3, hf⟩ := zx_gd_some hf
    obtain ⟨r_5, G_4, hq_6, hf⟩ := zx_bd_some hf
    have hg := zv_call hg (v_F_pull ((G 18 (Int32.toNatClampNeg (x6 + (1 : Int32)))) - x7) x2 G hq_6) (by decide) (by decide)
    exact zv_tr hg (v_F_soften_111 hk11 hk26 x1 x2 x4 x5 x6 x7 x8_1 r_5 G_4 hf)
theorem v_F_soften_26 {r : Int32} {G1 : zx_G} {k11 : Int32 → Int32 → Int32 → zx_G → Option (Int32 × zx_G)} (hk11 : ∀ (x1 x2 x4 : Int32) (G : zx_G), k11 x1 x2 x4 G = some (r, G1) → ∀ q k, q ∉ A_F_soften → (q, k) ∉ O_F_soften → G1 q k = G q k) : ∀ (n : Nat) (x1 x2 x4 x5 : Int32) (G : zx_G), f_F_soften_26 k11 n x1 x2 x4 x5 G = some (r, G1) → ∀ q k, q ∉ A_F_soften → (q, k) ∉ O_F_soften → G1 q k = G q k := by
  intro n
  induction n with
  | zero => intro x1 x2 x4 x5 G hf; cases hf
  | succ n ih =>
    intro x1 x2 x4 x5 G hf
    unfold f_F_soften_26 at hf
    have hg : ∀ q k, q ∉ A_F_soften → (q, k) ∉ O_F_soften → G q k = G q k := fun _ _ _ _ => rfl
    rcases zx_if_some hf with ⟨hc_1, hf⟩ | ⟨hc_1, hf⟩
    · skip
      obtain ⟨x4_2, ex4_2, hf⟩ := zx_lt_some hf
      exact zv_tr hg (hk11 x1 x2 x4_2 G hf)
    · skip
      obtain ⟨r_4, G_3, hq_5, hf⟩ := zx_bd_some hf
      have hg := zv_call hg (v_P_placeOf x1 x5 x4 G hq_5) (by decide) (by decide)
      obtain ⟨x6_6, ex6_6, hf⟩ := zx_lt_some hf
      obtain ⟨hb_7, hf⟩ := zx_gd_some hf
      obtain ⟨x7_8, ex7_8, hf⟩ := zx_lt_some hf
      rcases zx_if_some hf with ⟨hc_9, hf⟩ | ⟨hc_9, hf⟩
      · skip
        exact zv_tr hg (v_F_soften_76 hk11 ih x1 x2 x4 x5 x6_6 x7_8 (0 : Int32) G_3 hf)
      · skip
        obtain ⟨hb_10, hf⟩ := zx_gd_some hf
        obtain ⟨r_12, G_11, hq_13, hf⟩ := zx_bd_some hf
        have hg := zv_call hg (v_F_pull ((G_3 18 (Int32.toNatClampNeg (x6_6 - (1 : Int32)))) - x7_8) x2 G_3 hq_13) (by decide) (by decide)
        exact zv_tr hg (v_F_soften_76 hk11 ih x1 x2 x4 x5 x6_6 x7_8 r_12 G_11 hf)
theorem v_F_soften_216 {r : Int32} {G1 : zx_G} : ∀ (n : Nat) (x1 x4 : Int32) (G : zx_G), f_F_soften_216 n x1 x4 G = some (r, G1) → ∀ q k, q ∉ A_F_soften → (q, k) ∉ O_F_soften → G1 q k = G q k := by
  intro n
  induction n with
  | zero => intro x1 x4 G hf; cases hf
  | succ n ih =>
    intro x1 x4 G hf
    unfold f_F_soften_216 at hf
    have hg : ∀ q k, q ∉ A_F_soften → (q, k) ∉ O_F_soften → G q k = G q k := fun _ _ _ _ => rfl
    rcases zx_if_some hf with ⟨hc_1, hf⟩ | ⟨hc_1, hf⟩
    · skip
      exact zv_ret hg hf
    · skip
      obtain ⟨r_3, G_2, hq_4, hf⟩ := zx_bd_some hf
      have hg := zv_call hg (v_P_placeOf x1 (0 : Int32) x4 G hq_4) (by decide) (by decide)
      obtain ⟨hb_5, hf⟩ := zx_gd_some hf
      obtain ⟨G_6, eG_6, hf⟩ := zx_lt_some hf
      have hg := zv_cp hg eG_6 (by decide)
      obtain ⟨x4_7, ex4_7, hf⟩ := zx_lt_some hf
      exact zv_tr hg (ih x1 x4_7 G_6 hf)
theorem v_F_soften_11 {r : Int32} {G1 : zx_G} : ∀ (n : Nat) (x1 x2 x4 : Int32) (G : zx_G), f_F_soften_11 n x1 x2 x4 G = some (r, G1) → ∀ q k, q ∉ A_F_soften → (q, k) ∉ O_F_soften → G1 q k = G q k := by
  intro n
  induction n with
  | zero => intro x1 x2 x4 G hf; cases hf
  | succ n ih =>
    intro x1 x2 x4 G hf
    unfold f_F_soften_11 at hf
    have hg : ∀ q k, q ∉ A_F_soften → (q, k) ∉ O_F_soften → G q k = G q k := fun _ _ _ _ => rfl
    rcases zx_if_some hf with ⟨hc_1, hf⟩ | ⟨hc_1, hf⟩
    · skip
      obtain ⟨x4_2, ex4_2, hf⟩ := zx_lt_some hf
      exact zv_tr hg (v_F_soften_216 2048 x1 x4_2 G hf)
    · skip
      obtain ⟨x5_3, ex5_3, hf⟩ := zx_lt_some hf
      exact zv_tr hg (v_F_soften_26 ih 2048 x1 x2 x4 x5_3 G hf)
theorem v_F_soften_0 {r : Int32} {G1 : zx_G} (x1 x2 : Int32) (G : zx_G) (hf : f_F_soften x1 x2 G = some (r, G1)) : ∀ q k, q ∉ A_F_soften → (q, k) ∉ O_F_soften → G1 q k = G q k := by
  unfold f_F_soften at hf
  have hg : ∀ q k, q ∉ A_F_soften → (q, k) ∉ O_F_soften → G q k = G q k := fun _ _ _ _ => rfl
  obtain ⟨x4_1, ex4_1, hf⟩ := zx_lt_some hf
  exact zv_tr hg (v_F_soften_11 2048 x1 x2 x4_1 G hf)
theorem v_F_soften (x1 x2 : Int32) (G : zx_G) {r : Int32} {G1 : zx_G} (hf : f_F_soften x1 x2 G = some (r, G1)) : ∀ q k, q ∉ A_F_soften → (q, k) ∉ O_F_soften → G1 q k = G q k := v_F_soften_0 x1 x2 G hf
abbrev A_P_ownerAt : List Nat := []
abbrev O_P_ownerAt : List (Nat × Nat) := []
theorem v_P_ownerAt_0 {r : Int32} {G1 : zx_G} (x1 x2 : Int32) (G : zx_G) (hf : f_P_ownerAt x1 x2 G = some (r, G1)) : ∀ q k, q ∉ A_P_ownerAt → (q, k) ∉ O_P_ownerAt → G1 q k = G q k := by
  unfold f_P_ownerAt at hf
  have hg : ∀ q k, q ∉ A_P_ownerAt → (q, k) ∉ O_P_ownerAt → G q k = G q k := fun _ _ _ _ => rfl
  obtain ⟨hb_1, hf⟩ := zx_gd_some hf
  exact zv_ret hg hf
theorem v_P_ownerAt (x1 x2 : Int32) (G : zx_G) {r : Int32} {G1 : zx_G} (hf : f_P_ownerAt x1 x2 G = some (r, G1)) : ∀ q k, q ∉ A_P_ownerAt → (q, k) ∉ O_P_ownerAt → G1 q k = G q k := v_P_ownerAt_0 x1 x2 G hf
abbrev A_P_limited : List Nat := []
abbrev O_P_limited : List (Nat × Nat) := []
theorem v_P_limited_0 {r : Int32} {G1 : zx_G} (x1 : Int32) (G : zx_G) (hf : f_P_limited x1 G = some (r, G1)) : ∀ q k, q ∉ A_P_limited → (q, k) ∉ O_P_limited → G1 q k = G q k := by
  unfold f_P_limited at hf
  have hg : ∀ q k, q ∉ A_P_limited → (q, k) ∉ O_P_limited → G q k = G q k := fun _ _ _ _ => rfl
  exact zv_ret hg hf
theorem v_P_limited (x1 : Int32) (G : zx_G) {r : Int32} {G1 : zx_G} (hf : f_P_limited x1 G = some (r, G1)) : ∀ q k, q ∉ A_P_limited → (q, k) ∉ O_P_limited → G1 q k = G q k := v_P_limited_0 x1 G hf
abbrev A_F_smooth : List Nat := [18]
abbrev O_F_smooth : List (Nat × Nat) := []
theorem v_F_smooth_0 {r : Int32} {G1 : zx_G} (x1 x2 x3 : Int32) (G : zx_G) (hf : f_F_smooth x1 x2 x3 G = some (r, G1)) : ∀ q k, q ∉ A_F_smooth → (q, k) ∉ O_F_smooth → G1 q k = G q k := by
  unfold f_F_smooth at hf
  have hg : ∀ q k, q ∉ A_F_smooth → (q, k) ∉ O_F_smooth → G q k = G q k := fun _ _ _ _ => rfl
  obtain ⟨hb_1, hf⟩ := zx_gd_some hf
  obtain ⟨x5_2, ex5_2, hf⟩ := zx_lt_some hf
  obtain ⟨hb_3, hf⟩ := zx_gd_some hf
  obtain ⟨x6_4, ex6_4, hf⟩ := zx_lt_some hf
  obtain ⟨hb_5, hf⟩ := zx_gd_some hf
  obtain ⟨x7_6, ex7_6, hf⟩ := zx_lt_some hf
  obtain ⟨hb_7, hf⟩ := zx_gd_some hf
  obtain ⟨x8_8, ex8_8, hf⟩ := zx_lt_some hf
  rcases zx_if_some hf with ⟨hc_9, hf⟩ | ⟨hc_9, hf⟩
  · skip
    obtain ⟨x9_10, ex9_10, hf⟩ := zx_lt_some hf
    obtain ⟨x9_11, ex9_11, hf⟩ := zx_lt_some hf
    obtain ⟨r_13, G_12, hq_14, hf⟩ := zx_bd_some hf
    have hg := zv_call hg (v_P_limited (x6_4 + x9_11) G hq_14) (by decide) (by decide)
    obtain ⟨hb_15, hf⟩ := zx_gd_some hf
    obtain ⟨G_16, eG_16, hf⟩ := zx_lt_some hf
    have hg := zv_ua hg eG_16 (by decide)
    obtain ⟨r_18, G_17, hq_19, hf⟩ := zx_bd_some hf
    have hg := zv_call hg (v_P_limited (x7_6 - x9_11) G_16 hq_19) (by decide) (by decide)
    obtain ⟨hb_20, hf⟩ := zx_gd_some hf
    obtain ⟨G_21, eG_21, hf⟩ := zx_lt_some hf
    have hg := zv_ua hg eG_21 (by decide)
    exact zv_ret hg hf
  · skip
    exact zv_ret hg hf
theorem v_F_smooth (x1 x2 x3 : Int32) (G : zx_G) {r : Int32} {G1 : zx_G} (hf : f_F_smooth x1 x2 x3 G = some (r, G1)) : ∀ q k, q ∉ A_F_smooth → (q, k) ∉ O_F_smooth → G1 q k = G q k := v_F_smooth_0 x1 x2 x3 G hf
abbrev A_F_smoothColumns : List Nat := [18]
abbrev O_F_smoothColumns : List (Nat × Nat) := []
theorem v_F_smoothColumns_66 {r : Int32} {G1 : zx_G} {k2 : Int32 → Int32 → Int32 → zx_G → Option (Int32 × zx_G)} {k16 : Int32 → Int32 → Int32 → Int32 → zx_G → Option (Int32 × zx_G)} (hk2 : ∀ (x1 x2 x3 : Int32) (G : zx_G), k2 x1 x2 x3 G = some (r, G1) → ∀ q k, q ∉ A_F_smoothColumns → (q, k) ∉ O_F_smoothColumns → G1 q k = G q k) (hk16 : ∀ (x1 x2 x3 x4 : Int32) (G : zx_G), k16 x1 x2 x3 x4 G = some (r, G1) → ∀ q k, q ∉ A_F_smoothColumns → (q, k) ∉ O_F_smoothColumns → G1 q k = G q k) (x1 x2 x3 x4 : Int32) (G : zx_G) (hf : f_F_smoothColumns_66 k2 k16 x1 x2 x3 x4 G = some (r, G1)) : ∀ q k, q ∉ A_F_smoothColumns → (q, k) ∉ O_F_smoothColumns → G1 q k = G q k := by
  unfold f_F_smoothColumns_66 at hf
  have hg : ∀ q k, q ∉ A_F_smoothColumns → (q, k) ∉ O_F_smoothColumns → G q k = G q k := fun _ _ _ _ => rfl
  obtain ⟨x4_1, ex4_1, hf⟩ := zx_lt_some hf
  exact zv_tr hg (hk16 x1 x2 x3 x4_1 G hf)
theorem v_F_smoothColumns_16 {r : Int32} {G1 : zx_G} {k2 : Int32 → Int32 → Int32 → zx_G → Option (Int32 × zx_G)} (hk2 : ∀ (x1 x2 x3 : Int32) (G : zx_G), k2 x1 x2 x3 G = some (r, G1) → ∀ q k, q ∉ A_F_smoothColumns → (q, k) ∉ O_F_smoothColumns → G1 q k = G q k) : ∀ (n : Nat) (x1 x2 x3 x4 : Int32) (G : zx_G), f_F_smoothColumns_16 k2 n x1 x2 x3 x4 G = some (r, G1) → ∀ q k, q ∉ A_F_smoothColumns → (q, k) ∉ O_F_smoothColumns → G1 q k = G q k := by
  intro n
  induction n with
  | zero => intro x1 x2 x3 x4 G hf; cases hf
  | succ n ih =>
    intro x1 x2 x3 x4 G hf
    unfold f_F_smoothColumns_16 at hf
    have hg : ∀ q k, q ∉ A_F_smoothColumns → (q, k) ∉ O_F_smoothColumns → G q k = G q k := fun _ _ _ _ => rfl
    rcases zx_if_some hf with ⟨hc_1, hf⟩ | ⟨hc_1, hf⟩
    · skip
      obtain ⟨x3_2, ex3_2, hf⟩ := zx_lt_some hf
      exact zv_tr hg (hk2 x1 x2 x3_2 G hf)
    · skip
      obtain ⟨r_4, G_3, hq_5, hf⟩ := zx_bd_some hf
      have hg := zv_call hg (v_P_ownerAt (x3 - (1 : Int32)) x4 G hq_5) (by decide) (by decide)
      obtain ⟨r_7, G_6, hq_8, hf⟩ := zx_bd_some hf
      have hg := zv_call hg (v_P_ownerAt x3 x4 G_3 hq_8) (by decide) (by decide)
      rcases zx_if_some hf with ⟨hc_9, hf⟩ | ⟨hc_9, hf⟩
      · skip
        exact zv_tr hg (v_F_smoothColumns_66 hk2 ih x1 x2 x3 x4 G_6 hf)
      · skip
        obtain ⟨r_11, G_10, hq_12, hf⟩ := zx_bd_some hf
        have hg := zv_call hg (v_P_placeOf x1 x3 x4 G_6 hq_12) (by decide) (by decide)
        obtain ⟨r_14, G_13, hq_15, hf⟩ := zx_bd_some hf
        have hg := zv_call hg (v_F_smooth r_11 (1 : Int32) x2 G_10 hq_15) (by decide) (by decide)
        exact zv_tr hg (v_F_smoothColumns_66 hk2 ih x1 x2 x3 x4 G_13 hf)
theorem v_F_smoothColumns_2 {r : Int32} {G1 : zx_G} : ∀ (n : Nat) (x1 x2 x3 : Int32) (G : zx_G), f_F_smoothColumns_2 n x1 x2 x3 G = some (r, G1) → ∀ q k, q ∉ A_F_smoothColumns → (q, k) ∉ O_F_smoothColumns → G1 q k = G q k := by
  intro n
  induction n with
  | zero => intro x1 x2 x3 G hf; cases hf
  | succ n ih =>
    intro x1 x2 x3 G hf
    unfold f_F_smoothColumns_2 at hf
    have hg : ∀ q k, q ∉ A_F_smoothColumns → (q, k) ∉ O_F_smoothColumns → G q k = G q k := fun _ _ _ _ => rfl
    rcases zx_if_some hf with ⟨hc_1, hf⟩ | ⟨hc_1, hf⟩
    · skip
      exact zv_ret hg hf
    · skip
      obtain ⟨x4_2, ex4_2, hf⟩ := zx_lt_some hf
      exact zv_tr hg (v_F_smoothColumns_16 ih 2048 x1 x2 x3 x4_2 G hf)
theorem v_F_smoothColumns_0 {r : Int32} {G1 : zx_G} (x1 x2 : Int32) (G : zx_G) (hf : f_F_smoothColumns x1 x2 G = some (r, G1)) : ∀ q k, q ∉ A_F_smoothColumns → (q, k) ∉ O_F_smoothColumns → G1 q k = G q k := by
  unfold f_F_smoothColumns at hf
  have hg : ∀ q k, q ∉ A_F_smoothColumns → (q, k) ∉ O_F_smoothColumns → G q k = G q k := fun _ _ _ _ => rfl
  obtain ⟨x3_1, ex3_1, hf⟩ := zx_lt_some hf
  exact zv_tr hg (v_F_smoothColumns_2 2048 x1 x2 x3_1 G hf)
theorem v_F_smoothColumns (x1 x2 : Int32) (G : zx_G) {r : Int32} {G1 : zx_G} (hf : f_F_smoothColumns x1 x2 G = some (r, G1)) : ∀ q k, q ∉ A_F_smoothColumns → (q, k) ∉ O_F_smoothColumns → G1 q k = G q k := v_F_smoothColumns_0 x1 x2 G hf
abbrev A_F_smoothRows : List Nat := [18]
abbrev O_F_smoothRows : List (Nat × Nat) := []
theorem v_F_smoothRows_67 {r : Int32} {G1 : zx_G} {k2 : Int32 → Int32 → Int32 → zx_G → Option (Int32 × zx_G)} {k16 : Int32 → Int32 → Int32 → Int32 → zx_G → Option (Int32 × zx_G)} (hk2 : ∀ (x1 x2 x3 : Int32) (G : zx_G), k2 x1 x2 x3 G = some (r, G1) → ∀ q k, q ∉ A_F_smoothRows → (q, k) ∉ O_F_smoothRows → G1 q k = G q k) (hk16 : ∀ (x1 x2 x3 x4 : Int32) (G : zx_G), k16 x1 x2 x3 x4 G = some (r, G1) → ∀ q k, q ∉ A_F_smoothRows → (q, k) ∉ O_F_smoothRows → G1 q k = G q k) (x1 x2 x3 x4 : Int32) (G : zx_G) (hf : f_F_smoothRows_67 k2 k16 x1 x2 x3 x4 G = some (r, G1)) : ∀ q k, q ∉ A_F_smoothRows → (q, k) ∉ O_F_smoothRows → G1 q k = G q k := by
  unfold f_F_smoothRows_67 at hf
  have hg : ∀ q k, q ∉ A_F_smoothRows → (q, k) ∉ O_F_smoothRows → G q k = G q k := fun _ _ _ _ => rfl
  obtain ⟨x4_1, ex4_1, hf⟩ := zx_lt_some hf
  exact zv_tr hg (hk16 x1 x2 x3 x4_1 G hf)
theorem v_F_smoothRows_16 {r : Int32} {G1 : zx_G} {k2 : Int32 → Int32 → Int32 → zx_G → Option (Int32 × zx_G)} (hk2 : ∀ (x1 x2 x3 : Int32) (G : zx_G), k2 x1 x2 x3 G = some (r, G1) → ∀ q k, q ∉ A_F_smoothRows → (q, k) ∉ O_F_smoothRows → G1 q k = G q k) : ∀ (n : Nat) (x1 x2 x3 x4 : Int32) (G : zx_G), f_F_smoothRows_16 k2 n x1 x2 x3 x4 G = some (r, G1) → ∀ q k, q ∉ A_F_smoothRows → (q, k) ∉ O_F_smoothRows → G1 q k = G q k := by
  intro n
  induction n with
  | zero => intro x1 x2 x3 x4 G hf; cases hf
  | succ n ih =>
    intro x1 x2 x3 x4 G hf
    unfold f_F_smoothRows_16 at hf
    have hg : ∀ q k, q ∉ A_F_smoothRows → (q, k) ∉ O_F_smoothRows → G q k = G q k := fun _ _ _ _ => rfl
    rcases zx_if_some hf with ⟨hc_1, hf⟩ | ⟨hc_1, hf⟩
    · skip
      obtain ⟨x3_2, ex3_2, hf⟩ := zx_lt_some hf
      exact zv_tr hg (hk2 x1 x2 x3_2 G hf)
    · skip
      obtain ⟨r_4, G_3, hq_5, hf⟩ := zx_bd_some hf
      have hg := zv_call hg (v_P_ownerAt x4 (x3 - (1 : Int32)) G hq_5) (by decide) (by decide)
      obtain ⟨r_7, G_6, hq_8, hf⟩ := zx_bd_some hf
      have hg := zv_call hg (v_P_ownerAt x4 x3 G_3 hq_8) (by decide) (by decide)
      rcases zx_if_some hf with ⟨hc_9, hf⟩ | ⟨hc_9, hf⟩
      · skip
        exact zv_tr hg (v_F_smoothRows_67 hk2 ih x1 x2 x3 x4 G_6 hf)
      · skip
        obtain ⟨r_11, G_10, hq_12, hf⟩ := zx_bd_some hf
        have hg := zv_call hg (v_P_placeOf x1 x4 x3 G_6 hq_12) (by decide) (by decide)
        obtain ⟨r_14, G_13, hq_15, hf⟩ := zx_bd_some hf
        have hg := zv_call hg (v_F_smooth r_11 (16 : Int32) x2 G_10 hq_15) (by decide) (by decide)
        exact zv_tr hg (v_F_smoothRows_67 hk2 ih x1 x2 x3 x4 G_13 hf)
theorem v_F_smoothRows_2 {r : Int32} {G1 : zx_G} : ∀ (n : Nat) (x1 x2 x3 : Int32) (G : zx_G), f_F_smoothRows_2 n x1 x2 x3 G = some (r, G1) → ∀ q k, q ∉ A_F_smoothRows → (q, k) ∉ O_F_smoothRows → G1 q k = G q k := by
  intro n
  induction n with
  | zero => intro x1 x2 x3 G hf; cases hf
  | succ n ih =>
    intro x1 x2 x3 G hf
    unfold f_F_smoothRows_2 at hf
    have hg : ∀ q k, q ∉ A_F_smoothRows → (q, k) ∉ O_F_smoothRows → G q k = G q k := fun _ _ _ _ => rfl
    rcases zx_if_some hf with ⟨hc_1, hf⟩ | ⟨hc_1, hf⟩
    · skip
      exact zv_ret hg hf
    · skip
      obtain ⟨x4_2, ex4_2, hf⟩ := zx_lt_some hf
      exact zv_tr hg (v_F_smoothRows_16 ih 2048 x1 x2 x3 x4_2 G hf)
theorem v_F_smoothRows_0 {r : Int32} {G1 : zx_G} (x1 x2 : Int32) (G : zx_G) (hf : f_F_smoothRows x1 x2 G = some (r, G1)) : ∀ q k, q ∉ A_F_smoothRows → (q, k) ∉ O_F_smoothRows → G1 q k = G q k := by
  unfold f_F_smoothRows at hf
  have hg : ∀ q k, q ∉ A_F_smoothRows → (q, k) ∉ O_F_smoothRows → G q k = G q k := fun _ _ _ _ => rfl
  obtain ⟨x3_1, ex3_1, hf⟩ := zx_lt_some hf
  exact zv_tr hg (v_F_smoothRows_2 2048 x1 x2 x3_1 G hf)
theorem v_F_smoothRows (x1 x2 : Int32) (G : zx_G) {r : Int32} {G1 : zx_G} (hf : f_F_smoothRows x1 x2 G = some (r, G1)) : ∀ q k, q ∉ A_F_smoothRows → (q, k) ∉ O_F_smoothRows → G1 q k = G q k := v_F_smoothRows_0 x1 x2 G hf
abbrev A_F_run : List Nat := [18, 31]
abbrev O_F_run : List (Nat × Nat) := []
theorem v_F_run_88 {r : Int32} {G1 : zx_G} {k15 : Int32 → Int32 → zx_G → Option (Int32 × zx_G)} (hk15 : ∀ (x1 x2 : Int32) (G : zx_G), k15 x1 x2 G = some (r, G1) → ∀ q k, q ∉ A_F_run → (q, k) ∉ O_F_run → G1 q k = G q k) (x1 x2 : Int32) (G : zx_G) (hf : f_F_run_88 k15 x1 x2 G = some (r, G1)) : ∀ q k, q ∉ A_F_run → (q, k) ∉ O_F_run → G1 q k = G q k := by
  unfold f_F_run_88 at hf
  have hg : ∀ q k, q ∉ A_F_run → (q, k) ∉ O_F_run → G q k = G q k := fun _ _ _ _ => rfl
  obtain ⟨x2_1, ex2_1, hf⟩ := zx_lt_some hf
  exact zv_tr hg (hk15 x1 x2_1 G hf)
theorem v_F_run_64 {r : Int32} {G1 : zx_G} {k15 : Int32 → Int32 → zx_G → Option (Int32 × zx_G)} (hk15 : ∀ (x1 x2 : Int32) (G : zx_G), k15 x1 x2 G = some (r, G1) → ∀ q k, q ∉ A_F_run → (q, k) ∉ O_F_run → G1 q k = G q k) (x1 x2 : Int32) (G : zx_G) (hf : f_F_run_64 k15 x1 x2 G = some (r, G1)) : ∀ q k, q ∉ A_F_run → (q, k) ∉ O_F_run → G1 q k = G q k := by
  unfold f_F_run_64 at hf
  have hg : ∀ q k, q ∉ A_F_run → (q, k) ∉ O_F_run → G q k = G q k := fun _ _ _ _ => rfl
  rcases zx_if_some hf with ⟨hc_1, hf⟩ | ⟨hc_1, hf⟩
  · skip
    exact zv_tr hg (v_F_run_88 hk15 x1 x2 G hf)
  · skip
    obtain ⟨r_3, G_2, hq_4, hf⟩ := zx_bd_some hf
    have hg := zv_call hg (v_F_soften x2 ((G 11 13) * x1) G hq_4) (by decide) (by decide)
    exact zv_tr hg (v_F_run_88 hk15 x1 x2 G_2 hf)
theorem v_F_run_15 {r : Int32} {G1 : zx_G} : ∀ (n : Nat) (x1 x2 : Int32) (G : zx_G), f_F_run_15 n x1 x2 G = some (r, G1) → ∀ q k, q ∉ A_F_run → (q, k) ∉ O_F_run → G1 q k = G q k := by
  intro n
  induction n with
  | zero => intro x1 x2 G hf; cases hf
  | succ n ih =>
    intro x1 x2 G hf
    unfold f_F_run_15 at hf
    have hg : ∀ q k, q ∉ A_F_run → (q, k) ∉ O_F_run → G q k = G q k := fun _ _ _ _ => rfl
    rcases zx_if_some hf with ⟨hc_1, hf⟩ | ⟨hc_1, hf⟩
    · skip
      exact zv_ret hg hf
    · skip
      rcases zx_if_some hf with ⟨hc_2, hf⟩ | ⟨hc_2, hf⟩
      · skip
        exact zv_tr hg (v_F_run_64 ih x1 x2 G hf)
      · skip
        obtain ⟨r_4, G_3, hq_5, hf⟩ := zx_bd_some hf
        have hg := zv_call hg (v_F_smoothColumns x2 ((G 11 12) * x1) G hq_5) (by decide) (by decide)
        obtain ⟨r_7, G_6, hq_8, hf⟩ := zx_bd_some hf
        have hg := zv_call hg (v_F_smoothRows x2 ((G_3 11 12) * x1) G_3 hq_8) (by decide) (by decide)
        exact zv_tr hg (v_F_run_64 ih x1 x2 G_6 hf)
theorem v_F_run_0 {r : Int32} {G1 : zx_G} (G : zx_G) (hf : f_F_run G = some (r, G1)) : ∀ q k, q ∉ A_F_run → (q, k) ∉ O_F_run → G1 q k = G q k := by
  unfold f_F_run at hf
  have hg : ∀ q k, q ∉ A_F_run → (q, k) ∉ O_F_run → G q k = G q k := fun _ _ _ _ => rfl
  obtain ⟨x1_1, ex1_1, hf⟩ := zx_lt_some hf
  obtain ⟨x2_2, ex2_2, hf⟩ := zx_lt_some hf
  exact zv_tr hg (v_F_run_15 2048 x1_1 x2_2 G hf)
theorem v_F_run (G : zx_G) {r : Int32} {G1 : zx_G} (hf : f_F_run G = some (r, G1)) : ∀ q k, q ∉ A_F_run → (q, k) ∉ O_F_run → G1 q k = G q k := v_F_run_0 G hf
abbrev A_C_takeBit : List Nat := []
abbrev O_C_takeBit : List (Nat × Nat) := [(14, 7), (14, 8)]
theorem v_C_takeBit_43 {r : Int32} {G1 : zx_G} (s0 : Int32) (G : zx_G) (hf : f_C_takeBit_43 s0 G = some (r, G1)) : ∀ q k, q ∉ A_C_takeBit → (q, k) ∉ O_C_takeBit → G1 q k = G q k := by
  unfold f_C_takeBit_43 at hf
  have hg : ∀ q k, q ∉ A_C_takeBit → (q, k) ∉ O_C_takeBit → G q k = G q k := fun _ _ _ _ => rfl
  obtain ⟨x2_1, ex2_1, hf⟩ := zx_lt_some hf
  obtain ⟨G_2, eG_2, hf⟩ := zx_lt_some hf
  have hg := zv_uo hg eG_2 (by decide)
  obtain ⟨G_3, eG_3, hf⟩ := zx_lt_some hf
  have hg := zv_uo hg eG_3 (by decide)
  exact zv_ret hg hf
theorem v_C_takeBit_0 {r : Int32} {G1 : zx_G} (G : zx_G) (hf : f_C_takeBit G = some (r, G1)) : ∀ q k, q ∉ A_C_takeBit → (q, k) ∉ O_C_takeBit → G1 q k = G q k := by
  unfold f_C_takeBit at hf
  have hg : ∀ q k, q ∉ A_C_takeBit → (q, k) ∉ O_C_takeBit → G q k = G q k := fun _ _ _ _ => rfl
  obtain ⟨x1_1, ex1_1, hf⟩ := zx_lt_some hf
  rcases zx_if_some hf with ⟨hc_2, hf⟩ | ⟨hc_2, hf⟩
  · skip
    exact zv_tr hg (v_C_takeBit_43 (0 : Int32) G hf)
  · skip
    obtain ⟨hb_3, hf⟩ := zx_gd_some hf
    exact zv_tr hg (v_C_takeBit_43 (((G 9 (Int32.toNatClampNeg x1_1)) >>> (((7 : Int32) - ((G 14 8) &&& (7 : Int32))) &&& 31)) &&& (1 : Int32)) G hf)
theorem v_C_takeBit (G : zx_G) {r : Int32} {G1 : zx_G} (hf : f_C_takeBit G = some (r, G1)) : ∀ q k, q ∉ A_C_takeBit → (q, k) ∉ O_C_takeBit → G1 q k = G q k := v_C_takeBit_0 G hf
abbrev A_C_narrow : List Nat := []
abbrev O_C_narrow : List (Nat × Nat) := [(14, 6), (14, 7), (14, 8), (14, 9)]
theorem v_C_narrow_65 {r : Int32} {G1 : zx_G} (G : zx_G) (hf : f_C_narrow_65 G = some (r, G1)) : ∀ q k, q ∉ A_C_narrow → (q, k) ∉ O_C_narrow → G1 q k = G q k := by
  unfold f_C_narrow_65 at hf
  have hg : ∀ q k, q ∉ A_C_narrow → (q, k) ∉ O_C_narrow → G q k = G q k := fun _ _ _ _ => rfl
  exact zv_ret hg hf
theorem v_C_narrow_29 {r : Int32} {G1 : zx_G} : ∀ (n : Nat) (x3 : Int32) (G : zx_G), f_C_narrow_29 n x3 G = some (r, G1) → ∀ q k, q ∉ A_C_narrow → (q, k) ∉ O_C_narrow → G1 q k = G q k := by
  intro n
  induction n with
  | zero => intro x3 G hf; cases hf
  | succ n ih =>
    intro x3 G hf
    unfold f_C_narrow_29 at hf
    have hg : ∀ q k, q ∉ A_C_narrow → (q, k) ∉ O_C_narrow → G q k = G q k := fun _ _ _ _ => rfl
    rcases zx_if_some hf with ⟨hc_1, hf⟩ | ⟨hc_1, hf⟩
    · skip
      exact zv_tr hg (v_C_narrow_65 G hf)
    · skip
      rcases zx_if_some hf with ⟨hc_2, hf⟩ | ⟨hc_2, hf⟩
      · skip
        exact zv_tr hg (v_C_narrow_65 G hf)
      · skip
        obtain ⟨G_3, eG_3, hf⟩ := zx_lt_some hf
        have hg := zv_uo hg eG_3 (by decide)
        obtain ⟨r_5, G_4, hq_6, hf⟩ := zx_bd_some hf
        have hg := zv_call hg (v_C_takeBit G_3 hq_6) (by decide) (by decide)
        obtain ⟨x3_7, ex3_7, hf⟩ := zx_lt_some hf
        exact zv_tr hg (ih x3_7 G_4 hf)
theorem v_C_narrow_0 {r : Int32} {G1 : zx_G} (x1 x2 : Int32) (G : zx_G) (hf : f_C_narrow x1 x2 G = some (r, G1)) : ∀ q k, q ∉ A_C_narrow → (q, k) ∉ O_C_narrow → G1 q k = G q k := by
  unfold f_C_narrow at hf
  have hg : ∀ q k, q ∉ A_C_narrow → (q, k) ∉ O_C_narrow → G q k = G q k := fun _ _ _ _ => rfl
  obtain ⟨G_1, eG_1, hf⟩ := zx_lt_some hf
  have hg := zv_uo hg eG_1 (by decide)
  obtain ⟨G_2, eG_2, hf⟩ := zx_lt_some hf
  have hg := zv_uo hg eG_2 (by decide)
  obtain ⟨G_3, eG_3, hf⟩ := zx_lt_some hf
  have hg := zv_uo hg eG_3 (by decide)
  obtain ⟨x3_4, ex3_4, hf⟩ := zx_lt_some hf
  exact zv_tr hg (v_C_narrow_29 2048 x3_4 G_3 hf)
theorem v_C_narrow (x1 x2 : Int32) (G : zx_G) {r : Int32} {G1 : zx_G} (hf : f_C_narrow x1 x2 G = some (r, G1)) : ∀ q k, q ∉ A_C_narrow → (q, k) ∉ O_C_narrow → G1 q k = G q k := v_C_narrow_0 x1 x2 G hf
abbrev A_C_readBit : List Nat := []
abbrev O_C_readBit : List (Nat × Nat) := [(14, 6), (14, 7), (14, 8), (14, 9)]
theorem v_C_readBit_0 {r : Int32} {G1 : zx_G} (G : zx_G) (hf : f_C_readBit G = some (r, G1)) : ∀ q k, q ∉ A_C_readBit → (q, k) ∉ O_C_readBit → G1 q k = G q k := by
  unfold f_C_readBit at hf
  have hg : ∀ q k, q ∉ A_C_readBit → (q, k) ∉ O_C_readBit → G q k = G q k := fun _ _ _ _ => rfl
  obtain ⟨x1_1, ex1_1, hf⟩ := zx_lt_some hf
  rcases zx_if_some hf with ⟨hc_2, hf⟩ | ⟨hc_2, hf⟩
  · skip
    obtain ⟨r_4, G_3, hq_5, hf⟩ := zx_bd_some hf
    have hg := zv_call hg (v_C_narrow x1_1 (G 14 6) G hq_5) (by decide) (by decide)
    exact zv_ret hg hf
  · skip
    obtain ⟨r_7, G_6, hq_8, hf⟩ := zx_bd_some hf
    have hg := zv_call hg (v_C_narrow (0 : Int32) x1_1 G hq_8) (by decide) (by decide)
    exact zv_ret hg hf
theorem v_C_readBit (G : zx_G) {r : Int32} {G1 : zx_G} (hf : f_C_readBit G = some (r, G1)) : ∀ q k, q ∉ A_C_readBit → (q, k) ∉ O_C_readBit → G1 q k = G q k := v_C_readBit_0 G hf
abbrev A_C_readExcess : List Nat := []
abbrev O_C_readExcess : List (Nat × Nat) := [(14, 6), (14, 7), (14, 8), (14, 9)]
theorem v_C_readExcess_33 {r : Int32} {G1 : zx_G} : ∀ (n : Nat) (x1 x2 x3 : Int32) (G : zx_G), f_C_readExcess_33 n x1 x2 x3 G = some (r, G1) → ∀ q k, q ∉ A_C_readExcess → (q, k) ∉ O_C_readExcess → G1 q k = G q k := by
  intro n
  induction n with
  | zero => intro x1 x2 x3 G hf; cases hf
  | succ n ih =>
    intro x1 x2 x3 G hf
    unfold f_C_readExcess_33 at hf
    have hg : ∀ q k, q ∉ A_C_readExcess → (q, k) ∉ O_C_readExcess → G q k = G q k := fun _ _ _ _ => rfl
    rcases zx_if_some hf with ⟨hc_1, hf⟩ | ⟨hc_1, hf⟩
    · skip
      exact zv_ret hg hf
    · skip
      obtain ⟨r_3, G_2, hq_4, hf⟩ := zx_bd_some hf
      have hg := zv_call hg (v_C_readBit G hq_4) (by decide) (by decide)
      obtain ⟨x2_5, ex2_5, hf⟩ := zx_lt_some hf
      obtain ⟨x3_6, ex3_6, hf⟩ := zx_lt_some hf
      exact zv_tr hg (ih x1 x2_5 x3_6 G_2 hf)
theorem v_C_readExcess_21 {r : Int32} {G1 : zx_G} (x1 : Int32) (G : zx_G) (hf : f_C_readExcess_21 x1 G = some (r, G1)) : ∀ q k, q ∉ A_C_readExcess → (q, k) ∉ O_C_readExcess → G1 q k = G q k := by
  unfold f_C_readExcess_21 at hf
  have hg : ∀ q k, q ∉ A_C_readExcess → (q, k) ∉ O_C_readExcess → G q k = G q k := fun _ _ _ _ => rfl
  rcases zx_if_some hf with ⟨hc_1, hf⟩ | ⟨hc_1, hf⟩
  · skip
    obtain ⟨x2_2, ex2_2, hf⟩ := zx_lt_some hf
    obtain ⟨x3_3, ex3_3, hf⟩ := zx_lt_some hf
    exact zv_tr hg (v_C_readExcess_33 2048 x1 x2_2 x3_3 G hf)
  · skip
    exact zv_ret hg hf
theorem v_C_readExcess_2 {r : Int32} {G1 : zx_G} : ∀ (n : Nat) (x1 : Int32) (G : zx_G), f_C_readExcess_2 n x1 G = some (r, G1) → ∀ q k, q ∉ A_C_readExcess → (q, k) ∉ O_C_readExcess → G1 q k = G q k := by
  intro n
  induction n with
  | zero => intro x1 G hf; cases hf
  | succ n ih =>
    intro x1 G hf
    unfold f_C_readExcess_2 at hf
    have hg : ∀ q k, q ∉ A_C_readExcess → (q, k) ∉ O_C_readExcess → G q k = G q k := fun _ _ _ _ => rfl
    rcases zx_if_some hf with ⟨hc_1, hf⟩ | ⟨hc_1, hf⟩
    · skip
      exact zv_tr hg (v_C_readExcess_21 x1 G hf)
    · skip
      obtain ⟨r_3, G_2, hq_4, hf⟩ := zx_bd_some hf
      have hg := zv_call hg (v_C_readBit G hq_4) (by decide) (by decide)
      rcases zx_if_some hf with ⟨hc_5, hf⟩ | ⟨hc_5, hf⟩
      · skip
        exact zv_tr hg (v_C_readExcess_21 x1 G_2 hf)
      · skip
        obtain ⟨x1_6, ex1_6, hf⟩ := zx_lt_some hf
        exact zv_tr hg (ih x1_6 G_2 hf)
theorem v_C_readExcess_0 {r : Int32} {G1 : zx_G} (G : zx_G) (hf : f_C_readExcess G = some (r, G1)) : ∀ q k, q ∉ A_C_readExcess → (q, k) ∉ O_C_readExcess → G1 q k = G q k := by
  unfold f_C_readExcess at hf
  have hg : ∀ q k, q ∉ A_C_readExcess → (q, k) ∉ O_C_readExcess → G q k = G q k := fun _ _ _ _ => rfl
  obtain ⟨x1_1, ex1_1, hf⟩ := zx_lt_some hf
  exact zv_tr hg (v_C_readExcess_2 2048 x1_1 G hf)
theorem v_C_readExcess (G : zx_G) {r : Int32} {G1 : zx_G} (hf : f_C_readExcess G = some (r, G1)) : ∀ q k, q ∉ A_C_readExcess → (q, k) ∉ O_C_readExcess → G1 q k = G q k := v_C_readExcess_0 G hf
abbrev A_C_adapt : List Nat := [15, 16]
abbrev O_C_adapt : List (Nat × Nat) := []
theorem v_C_adapt_106 {r : Int32} {G1 : zx_G} {k52 : Int32 → Int32 → Int32 → Int32 → Int32 → Int32 → zx_G → Option (Int32 × zx_G)} (hk52 : ∀ (x1 x2 x3 x4 x5 x6 : Int32) (G : zx_G), k52 x1 x2 x3 x4 x5 x6 G = some (r, G1) → ∀ q k, q ∉ A_C_adapt → (q, k) ∉ O_C_adapt → G1 q k = G q k) (x1 x2 x3 x4 x5 x6 s1 s2 : Int32) (G : zx_G) (hf : f_C_adapt_106 k52 x1 x2 x3 x4 x5 x6 s1 s2 G = some (r, G1)) : ∀ q k, q ∉ A_C_adapt → (q, k) ∉ O_C_adapt → G1 q k = G q k := by
  unfold f_C_adapt_106 at hf
  have hg : ∀ q k, q ∉ A_C_adapt → (q, k) ∉ O_C_adapt → G q k = G q k := fun _ _ _ _ => rfl
  obtain ⟨hb_1, hf⟩ := zx_gd_some hf
  obtain ⟨G_2, eG_2, hf⟩ := zx_lt_some hf
  have hg := zv_ua hg eG_2 (by decide)
  obtain ⟨x6_3, ex6_3, hf⟩ := zx_lt_some hf
  exact zv_tr hg (hk52 x1 x2 x3 x4 x5 x6_3 G_2 hf)
theorem v_C_adapt_52 {r : Int32} {G1 : zx_G} : ∀ (n : Nat) (x1 x2 x3 x4 x5 x6 : Int32) (G : zx_G), f_C_adapt_52 n x1 x2 x3 x4 x5 x6 G = some (r, G1) → ∀ q k, q ∉ A_C_adapt → (q, k) ∉ O_C_adapt → G1 q k = G q k := by
  intro n
  induction n with
  | zero => intro x1 x2 x3 x4 x5 x6 G hf; cases hf
  | succ n ih =>
    intro x1 x2 x3 x4 x5 x6 G hf
    unfold f_C_adapt_52 at hf
    have hg : ∀ q k, q ∉ A_C_adapt → (q, k) ∉ O_C_adapt → G q k = G q k := fun _ _ _ _ => rfl
    rcases zx_if_some hf with ⟨hc_1, hf⟩ | ⟨hc_1, hf⟩
    · skip
      obtain ⟨hb_2, hf⟩ := zx_gd_some hf
      obtain ⟨hb_3, hf⟩ := zx_gd_some hf
      obtain ⟨G_4, eG_4, hf⟩ := zx_lt_some hf
      have hg := zv_ua hg eG_4 (by decide)
      exact zv_ret hg hf
    · skip
      obtain ⟨hb_5, hf⟩ := zx_gd_some hf
      obtain ⟨x7_6, ex7_6, hf⟩ := zx_lt_some hf
      rcases zx_if_some hf with ⟨hc_7, hf⟩ | ⟨hc_7, hf⟩
      · skip
        exact zv_tr hg (v_C_adapt_106 ih x1 x2 x3 x4 x5 x6 (x3 + x6) (x7_6 - (x7_6 >>> (x5 &&& 31))) G hf)
      · skip
        exact zv_tr hg (v_C_adapt_106 ih x1 x2 x3 x4 x5 x6 (x3 + x6) (x7_6 + (((32768 : Int32) - x7_6) >>> (x5 &&& 31))) G hf)
theorem v_C_adapt_46 {r : Int32} {G1 : zx_G} (x1 x2 x3 x4 s0 s1 : Int32) (G : zx_G) (hf : f_C_adapt_46 x1 x2 x3 x4 s0 s1 G = some (r, G1)) : ∀ q k, q ∉ A_C_adapt → (q, k) ∉ O_C_adapt → G1 q k = G q k := by
  unfold f_C_adapt_46 at hf
  have hg : ∀ q k, q ∉ A_C_adapt → (q, k) ∉ O_C_adapt → G q k = G q k := fun _ _ _ _ => rfl
  obtain ⟨x5_1, ex5_1, hf⟩ := zx_lt_some hf
  obtain ⟨x6_2, ex6_2, hf⟩ := zx_lt_some hf
  exact zv_tr hg (v_C_adapt_52 2048 x1 x2 x3 x4 x5_1 x6_2 G hf)
theorem v_C_adapt_31 {r : Int32} {G1 : zx_G} (x1 x2 x3 x4 s0 s1 : Int32) (G : zx_G) (hf : f_C_adapt_31 x1 x2 x3 x4 s0 s1 G = some (r, G1)) : ∀ q k, q ∉ A_C_adapt → (q, k) ∉ O_C_adapt → G1 q k = G q k := by
  unfold f_C_adapt_31 at hf
  have hg : ∀ q k, q ∉ A_C_adapt → (q, k) ∉ O_C_adapt → G q k = G q k := fun _ _ _ _ => rfl
  obtain ⟨hb_1, hf⟩ := zx_gd_some hf
  rcases zx_if_some hf with ⟨hc_2, hf⟩ | ⟨hc_2, hf⟩
  · skip
    exact zv_tr hg (v_C_adapt_46 x1 x2 x3 x4 (s0 + s1) (0 : Int32) G hf)
  · skip
    exact zv_tr hg (v_C_adapt_46 x1 x2 x3 x4 (s0 + s1) (1 : Int32) G hf)
theorem v_C_adapt_0 {r : Int32} {G1 : zx_G} (x1 x2 : Int32) (G : zx_G) (hf : f_C_adapt x1 x2 G = some (r, G1)) : ∀ q k, q ∉ A_C_adapt → (q, k) ∉ O_C_adapt → G1 q k = G q k := by
  unfold f_C_adapt at hf
  have hg : ∀ q k, q ∉ A_C_adapt → (q, k) ∉ O_C_adapt → G q k = G q k := fun _ _ _ _ => rfl
  obtain ⟨x3_1, ex3_1, hf⟩ := zx_lt_some hf
  obtain ⟨hb_2, hf⟩ := zx_gd_some hf
  obtain ⟨x4_3, ex4_3, hf⟩ := zx_lt_some hf
  obtain ⟨hb_4, hf⟩ := zx_gd_some hf
  rcases zx_if_some hf with ⟨hc_5, hf⟩ | ⟨hc_5, hf⟩
  · skip
    exact zv_tr hg (v_C_adapt_31 x1 x2 x3_1 x4_3 (4 : Int32) (0 : Int32) G hf)
  · skip
    exact zv_tr hg (v_C_adapt_31 x1 x2 x3_1 x4_3 (4 : Int32) (1 : Int32) G hf)
theorem v_C_adapt (x1 x2 : Int32) (G : zx_G) {r : Int32} {G1 : zx_G} (hf : f_C_adapt x1 x2 G = some (r, G1)) : ∀ q k, q ∉ A_C_adapt → (q, k) ∉ O_C_adapt → G1 q k = G q k := v_C_adapt_0 x1 x2 G hf
abbrev A_C_readSymbol : List Nat := [15, 16]
abbrev O_C_readSymbol : List (Nat × Nat) := [(14, 6), (14, 7), (14, 8), (14, 9)]
theorem v_C_readSymbol_101 {r : Int32} {G1 : zx_G} (x4 : Int32) (G : zx_G) (hf : f_C_readSymbol_101 x4 G = some (r, G1)) : ∀ q k, q ∉ A_C_readSymbol → (q, k) ∉ O_C_readSymbol → G1 q k = G q k := by
  unfold f_C_readSymbol_101 at hf
  have hg : ∀ q k, q ∉ A_C_readSymbol → (q, k) ∉ O_C_readSymbol → G q k = G q k := fun _ _ _ _ => rfl
  exact zv_ret hg hf
theorem v_C_readSymbol_79 {r : Int32} {G1 : zx_G} (x1 x4 x5 x6 : Int32) (G : zx_G) (hf : f_C_readSymbol_79 x1 x4 x5 x6 G = some (r, G1)) : ∀ q k, q ∉ A_C_readSymbol → (q, k) ∉ O_C_readSymbol → G1 q k = G q k := by
  unfold f_C_readSymbol_79 at hf
  have hg : ∀ q k, q ∉ A_C_readSymbol → (q, k) ∉ O_C_readSymbol → G q k = G q k := fun _ _ _ _ => rfl
  obtain ⟨r_2, G_1, hq_3, hf⟩ := zx_bd_some hf
  have hg := zv_call hg (v_C_narrow x5 x6 G hq_3) (by decide) (by decide)
  rcases zx_if_some hf with ⟨hc_4, hf⟩ | ⟨hc_4, hf⟩
  · skip
    exact zv_tr hg (v_C_readSymbol_101 x4 G_1 hf)
  · skip
    obtain ⟨r_6, G_5, hq_7, hf⟩ := zx_bd_some hf
    have hg := zv_call hg (v_C_adapt x1 x4 G_1 hq_7) (by decide) (by decide)
    exact zv_tr hg (v_C_readSymbol_101 x4 G_5 hf)
theorem v_C_readSymbol_35 {r : Int32} {G1 : zx_G} : ∀ (n : Nat) (x1 x2 x3 x4 x5 x6 : Int32) (G : zx_G), f_C_readSymbol_35 n x1 x2 x3 x4 x5 x6 G = some (r, G1) → ∀ q k, q ∉ A_C_readSymbol → (q, k) ∉ O_C_readSymbol → G1 q k = G q k := by
  intro n
  induction n with
  | zero => intro x1 x2 x3 x4 x5 x6 G hf; cases hf
  | succ n ih =>
    intro x1 x2 x3 x4 x5 x6 G hf
    unfold f_C_readSymbol_35 at hf
    have hg : ∀ q k, q ∉ A_C_readSymbol → (q, k) ∉ O_C_readSymbol → G q k = G q k := fun _ _ _ _ => rfl
    rcases zx_if_some hf with ⟨hc_1, hf⟩ | ⟨hc_1, hf⟩
    · skip
      exact zv_tr hg (v_C_readSymbol_79 x1 x4 x5 x6 G hf)
    · skip
      rcases zx_if_some hf with ⟨hc_2, hf⟩ | ⟨hc_2, hf⟩
      · skip
        exact zv_tr hg (v_C_readSymbol_79 x1 x4 x5 x6 G hf)
      · skip
        obtain ⟨x4_3, ex4_3, hf⟩ := zx_lt_some hf
        obtain ⟨x5_4, ex5_4, hf⟩ := zx_lt_some hf
        obtain ⟨hb_5, hf⟩ := zx_gd_some hf
        obtain ⟨x6_6, ex6_6, hf⟩ := zx_lt_some hf
        exact zv_tr hg (ih x1 x2 x3 x4_3 x5_4 x6_6 G hf)
theorem v_C_readSymbol_0 {r : Int32} {G1 : zx_G} (x1 : Int32) (G : zx_G) (hf : f_C_readSymbol x1 G = some (r, G1)) : ∀ q k, q ∉ A_C_readSymbol → (q, k) ∉ O_C_readSymbol → G1 q k = G q k := by
  unfold f_C_readSymbol at hf
  have hg : ∀ q k, q ∉ A_C_readSymbol → (q, k) ∉ O_C_readSymbol → G q k = G q k := fun _ _ _ _ => rfl
  obtain ⟨x2_1, ex2_1, hf⟩ := zx_lt_some hf
  obtain ⟨hb_2, hf⟩ := zx_gd_some hf
  obtain ⟨x3_3, ex3_3, hf⟩ := zx_lt_some hf
  obtain ⟨x4_4, ex4_4, hf⟩ := zx_lt_some hf
  obtain ⟨x5_5, ex5_5, hf⟩ := zx_lt_some hf
  obtain ⟨hb_6, hf⟩ := zx_gd_some hf
  obtain ⟨x6_7, ex6_7, hf⟩ := zx_lt_some hf
  exact zv_tr hg (v_C_readSymbol_35 2048 x1 x2_1 x3_3 x4_4 x5_5 x6_7 G hf)
theorem v_C_readSymbol (x1 : Int32) (G : zx_G) {r : Int32} {G1 : zx_G} (hf : f_C_readSymbol x1 G = some (r, G1)) : ∀ q k, q ∉ A_C_readSymbol → (q, k) ∉ O_C_readSymbol → G1 q k = G q k := v_C_readSymbol_0 x1 G hf
abbrev A_D_transformLine : List Nat := [24, 25]
abbrev O_D_transformLine : List (Nat × Nat) := []
theorem v_D_transformLine_109 {r : Int32} {G1 : zx_G} {k36 : Int32 → Int32 → Int32 → Int32 → zx_G → Option (Int32 × zx_G)} (hk36 : ∀ (x1 x2 x3 x4 : Int32) (G : zx_G), k36 x1 x2 x3 x4 G = some (r, G1) → ∀ q k, q ∉ A_D_transformLine → (q, k) ∉ O_D_transformLine → G1 q k = G q k) (x1 x2 x3 x4 x5 : Int32) (G : zx_G) (hf : f_D_transformLine_109 k36 x1 x2 x3 x4 x5 G = some (r, G1)) : ∀ q k, q ∉ A_D_transformLine → (q, k) ∉ O_D_transformLine → G1 q k = G q k := by
  unfold f_D_transformLine_109 at hf
  have hg : ∀ q k, q ∉ A_D_transformLine → (q, k) ∉ O_D_transformLine → G q k = G q k := fun _ _ _ _ => rfl
  obtain ⟨hb_1, hf⟩ := zx_gd_some hf
  obtain ⟨G_2, eG_2, hf⟩ := zx_lt_some hf
  have hg := zv_ua hg eG_2 (by decide)
  obtain ⟨x4_3, ex4_3, hf⟩ := zx_lt_some hf
  exact zv_tr hg (hk36 x1 x2 x3 x4_3 G_2 hf)
theorem v_D_transformLine_73 {r : Int32} {G1 : zx_G} {k36 : Int32 → Int32 → Int32 → Int32 → zx_G → Option (Int32 × zx_G)} (hk36 : ∀ (x1 x2 x3 x4 : Int32) (G : zx_G), k36 x1 x2 x3 x4 G = some (r, G1) → ∀ q k, q ∉ A_D_transformLine → (q, k) ∉ O_D_transformLine → G1 q k = G q k) : ∀ (n : Nat) (x1 x2 x3 x4 x5 x6 : Int32) (G : zx_G), f_D_transformLine_73 k36 n x1 x2 x3 x4 x5 x6 G = some (r, G1) → ∀ q k, q ∉ A_D_transformLine → (q, k) ∉ O_D_transformLine → G1 q k = G q k := by
  intro n
  induction n with
  | zero => intro x1 x2 x3 x4 x5 x6 G hf; cases hf
  | succ n ih =>
    intro x1 x2 x3 x4 x5 x6 G hf
    unfold f_D_transformLine_73 at hf
    have hg : ∀ q k, q ∉ A_D_transformLine → (q, k) ∉ O_D_transformLine → G q k = G q k := fun _ _ _ _ => rfl
    rcases zx_if_some hf with ⟨hc_1, hf⟩ | ⟨hc_1, hf⟩
    · skip
      exact zv_tr hg (v_D_transformLine_109 hk36 x1 x2 x3 x4 x5 G hf)
    · skip
      obtain ⟨hb_2, hf⟩ := zx_gd_some hf
      obtain ⟨hb_3, hf⟩ := zx_gd_some hf
      obtain ⟨x5_4, ex5_4, hf⟩ := zx_lt_some hf
      obtain ⟨x6_5, ex6_5, hf⟩ := zx_lt_some hf
      exact zv_tr hg (ih x1 x2 x3 x4 x5_4 x6_5 G hf)
theorem v_D_transformLine_36 {r : Int32} {G1 : zx_G} : ∀ (n : Nat) (x1 x2 x3 x4 : Int32) (G : zx_G), f_D_transformLine_36 n x1 x2 x3 x4 G = some (r, G1) → ∀ q k, q ∉ A_D_transformLine → (q, k) ∉ O_D_transformLine → G1 q k = G q k := by
  intro n
  induction n with
  | zero => intro x1 x2 x3 x4 G hf; cases hf
  | succ n ih =>
    intro x1 x2 x3 x4 G hf
    unfold f_D_transformLine_36 at hf
    have hg : ∀ q k, q ∉ A_D_transformLine → (q, k) ∉ O_D_transformLine → G q k = G q k := fun _ _ _ _ => rfl
    rcases zx_if_some hf with ⟨hc_1, hf⟩ | ⟨hc_1, hf⟩
    · skip
      exact zv_ret hg hf
    · skip
      obtain ⟨x5_2, ex5_2, hf⟩ := zx_lt_some hf
      rcases zx_if_some hf with ⟨hc_3, hf⟩ | ⟨hc_3, hf⟩
      · skip
        obtain ⟨x6_4, ex6_4, hf⟩ := zx_lt_some hf
        exact zv_tr hg (v_D_transformLine_73 ih 2048 x1 x2 x3 x4 x5_2 x6_4 G hf)
      · skip
        obtain ⟨hb_5, hf⟩ := zx_gd_some hf
        obtain ⟨x5_6, ex5_6, hf⟩ := zx_lt_some hf
        exact zv_tr hg (v_D_transformLine_109 ih x1 x2 x3 x4 x5_6 G hf)
theorem v_D_transformLine_3 {r : Int32} {G1 : zx_G} : ∀ (n : Nat) (x1 x2 x3 x4 : Int32) (G : zx_G), f_D_transformLine_3 n x1 x2 x3 x4 G = some (r, G1) → ∀ q k, q ∉ A_D_transformLine → (q, k) ∉ O_D_transformLine → G1 q k = G q k := by
  intro n
  induction n with
  | zero => intro x1 x2 x3 x4 G hf; cases hf
  | succ n ih =>
    intro x1 x2 x3 x4 G hf
    unfold f_D_transformLine_3 at hf
    have hg : ∀ q k, q ∉ A_D_transformLine → (q, k) ∉ O_D_transformLine → G q k = G q k := fun _ _ _ _ => rfl
    rcases zx_if_some hf with ⟨hc_1, hf⟩ | ⟨hc_1, hf⟩
    · skip
      obtain ⟨x4_2, ex4_2, hf⟩ := zx_lt_some hf
      exact zv_tr hg (v_D_transformLine_36 2048 x1 x2 x3 x4_2 G hf)
    · skip
      obtain ⟨hb_3, hf⟩ := zx_gd_some hf
      obtain ⟨hb_4, hf⟩ := zx_gd_some hf
      obtain ⟨G_5, eG_5, hf⟩ := zx_lt_some hf
      have hg := zv_ua hg eG_5 (by decide)
      obtain ⟨x4_6, ex4_6, hf⟩ := zx_lt_some hf
      exact zv_tr hg (ih x1 x2 x3 x4_6 G_5 hf)
theorem v_D_transformLine_0 {r : Int32} {G1 : zx_G} (x1 x2 x3 : Int32) (G : zx_G) (hf : f_D_transformLine x1 x2 x3 G = some (r, G1)) : ∀ q k, q ∉ A_D_transformLine → (q, k) ∉ O_D_transformLine → G1 q k = G q k := by
  unfold f_D_transformLine at hf
  have hg : ∀ q k, q ∉ A_D_transformLine → (q, k) ∉ O_D_transformLine → G q k = G q k := fun _ _ _ _ => rfl
  obtain ⟨x4_1, ex4_1, hf⟩ := zx_lt_some hf
  exact zv_tr hg (v_D_transformLine_3 2048 x1 x2 x3 x4_1 G hf)
theorem v_D_transformLine (x1 x2 x3 : Int32) (G : zx_G) {r : Int32} {G1 : zx_G} (hf : f_D_transformLine x1 x2 x3 G = some (r, G1)) : ∀ q k, q ∉ A_D_transformLine → (q, k) ∉ O_D_transformLine → G1 q k = G q k := v_D_transformLine_0 x1 x2 x3 G hf
abbrev A_D_limitAll : List Nat := [24]
abbrev O_D_limitAll : List (Nat × Nat) := []
theorem v_D_limitAll_2 {r : Int32} {G1 : zx_G} : ∀ (n : Nat) (x1 : Int32) (G : zx_G), f_D_limitAll_2 n x1 G = some (r, G1) → ∀ q k, q ∉ A_D_limitAll → (q, k) ∉ O_D_limitAll → G1 q k = G q k := by
  intro n
  induction n with
  | zero => intro x1 G hf; cases hf
  | succ n ih =>
    intro x1 G hf
    unfold f_D_limitAll_2 at hf
    have hg : ∀ q k, q ∉ A_D_limitAll → (q, k) ∉ O_D_limitAll → G q k = G q k := fun _ _ _ _ => rfl
    rcases zx_if_some hf with ⟨hc_1, hf⟩ | ⟨hc_1, hf⟩
    · skip
      exact zv_ret hg hf
    · skip
      obtain ⟨hb_2, hf⟩ := zx_gd_some hf
      obtain ⟨hb_3, hf⟩ := zx_gd_some hf
      obtain ⟨G_4, eG_4, hf⟩ := zx_lt_some hf
      have hg := zv_ua hg eG_4 (by decide)
      obtain ⟨x1_5, ex1_5, hf⟩ := zx_lt_some hf
      exact zv_tr hg (ih x1_5 G_4 hf)
theorem v_D_limitAll_0 {r : Int32} {G1 : zx_G} (G : zx_G) (hf : f_D_limitAll G = some (r, G1)) : ∀ q k, q ∉ A_D_limitAll → (q, k) ∉ O_D_limitAll → G1 q k = G q k := by
  unfold f_D_limitAll at hf
  have hg : ∀ q k, q ∉ A_D_limitAll → (q, k) ∉ O_D_limitAll → G q k = G q k := fun _ _ _ _ => rfl
  obtain ⟨x1_1, ex1_1, hf⟩ := zx_lt_some hf
  exact zv_tr hg (v_D_limitAll_2 2048 x1_1 G hf)
theorem v_D_limitAll (G : zx_G) {r : Int32} {G1 : zx_G} (hf : f_D_limitAll G = some (r, G1)) : ∀ q k, q ∉ A_D_limitAll → (q, k) ∉ O_D_limitAll → G1 q k = G q k := v_D_limitAll_0 G hf
abbrev A_D_transform : List Nat := [24, 25]
abbrev O_D_transform : List (Nat × Nat) := []
theorem v_D_transform_32 {r : Int32} {G1 : zx_G} {k2 : Int32 → Int32 → Int32 → zx_G → Option (Int32 × zx_G)} (hk2 : ∀ (x1 x2 x3 : Int32) (G : zx_G), k2 x1 x2 x3 G = some (r, G1) → ∀ q k, q ∉ A_D_transform → (q, k) ∉ O_D_transform → G1 q k = G q k) (x1 x2 x3 s1 s2 s3 : Int32) (G : zx_G) (hf : f_D_transform_32 k2 x1 x2 x3 s1 s2 s3 G = some (r, G1)) : ∀ q k, q ∉ A_D_transform → (q, k) ∉ O_D_transform → G1 q k = G q k := by
  unfold f_D_transform_32 at hf
  have hg : ∀ q k, q ∉ A_D_transform → (q, k) ∉ O_D_transform → G q k = G q k := fun _ _ _ _ => rfl
  obtain ⟨hb_1, hf⟩ := zx_gd_some hf
  obtain ⟨G_2, eG_2, hf⟩ := zx_lt_some hf
  have hg := zv_ua hg eG_2 (by decide)
  obtain ⟨x3_3, ex3_3, hf⟩ := zx_lt_some hf
  exact zv_tr hg (hk2 x1 x2 x3_3 G_2 hf)
theorem v_D_transform_67 {r : Int32} {G1 : zx_G} {k46 : Int32 → Int32 → zx_G → Option (Int32 × zx_G)} (hk46 : ∀ (x2 x3 : Int32) (G : zx_G), k46 x2 x3 G = some (r, G1) → ∀ q k, q ∉ A_D_transform → (q, k) ∉ O_D_transform → G1 q k = G q k) (x2 x3 s1 s2 s3 : Int32) (G : zx_G) (hf : f_D_transform_67 k46 x2 x3 s1 s2 s3 G = some (r, G1)) : ∀ q k, q ∉ A_D_transform → (q, k) ∉ O_D_transform → G1 q k = G q k := by
  unfold f_D_transform_67 at hf
  have hg : ∀ q k, q ∉ A_D_transform → (q, k) ∉ O_D_transform → G q k = G q k := fun _ _ _ _ => rfl
  obtain ⟨r_2, G_1, hq_3, hf⟩ := zx_bd_some hf
  have hg := zv_call hg (v_D_transformLine s1 s2 s3 G hq_3) (by decide) (by decide)
  obtain ⟨x3_4, ex3_4, hf⟩ := zx_lt_some hf
  exact zv_tr hg (hk46 x2 x3_4 G_1 hf)
theorem v_D_transform_101 {r : Int32} {G1 : zx_G} {k82 : Int32 → Int32 → zx_G → Option (Int32 × zx_G)} (hk82 : ∀ (x2 x3 : Int32) (G : zx_G), k82 x2 x3 G = some (r, G1) → ∀ q k, q ∉ A_D_transform → (q, k) ∉ O_D_transform → G1 q k = G q k) (x2 x3 s1 s2 s3 : Int32) (G : zx_G) (hf : f_D_transform_101 k82 x2 x3 s1 s2 s3 G = some (r, G1)) : ∀ q k, q ∉ A_D_transform → (q, k) ∉ O_D_transform → G1 q k = G q k := by
  unfold f_D_transform_101 at hf
  have hg : ∀ q k, q ∉ A_D_transform → (q, k) ∉ O_D_transform → G q k = G q k := fun _ _ _ _ => rfl
  obtain ⟨r_2, G_1, hq_3, hf⟩ := zx_bd_some hf
  have hg := zv_call hg (v_D_transformLine s1 s2 s3 G hq_3) (by decide) (by decide)
  obtain ⟨x3_4, ex3_4, hf⟩ := zx_lt_some hf
  exact zv_tr hg (hk82 x2 x3_4 G_1 hf)
theorem v_D_transform_112 {r : Int32} {G1 : zx_G} : ∀ (n : Nat) (x3 : Int32) (G : zx_G), f_D_transform_112 n x3 G = some (r, G1) → ∀ q k, q ∉ A_D_transform → (q, k) ∉ O_D_transform → G1 q k = G q k := by
  intro n
  induction n with
  | zero => intro x3 G hf; cases hf
  | succ n ih =>
    intro x3 G hf
    unfold f_D_transform_112 at hf
    have hg : ∀ q k, q ∉ A_D_transform → (q, k) ∉ O_D_transform → G q k = G q k := fun _ _ _ _ => rfl
    rcases zx_if_some hf with ⟨hc_1, hf⟩ | ⟨hc_1, hf⟩
    · skip
      exact zv_ret hg hf
    · skip
      obtain ⟨hb_2, hf⟩ := zx_gd_some hf
      obtain ⟨hb_3, hf⟩ := zx_gd_some hf
      obtain ⟨G_4, eG_4, hf⟩ := zx_lt_some hf
      have hg := zv_ua hg eG_4 (by decide)
      obtain ⟨x3_5, ex3_5, hf⟩ := zx_lt_some hf
      exact zv_tr hg (ih x3_5 G_4 hf)
theorem v_D_transform_82 {r : Int32} {G1 : zx_G} : ∀ (n : Nat) (x2 x3 : Int32) (G : zx_G), f_D_transform_82 n x2 x3 G = some (r, G1) → ∀ q k, q ∉ A_D_transform → (q, k) ∉ O_D_transform → G1 q k = G q k := by
  intro n
  induction n with
  | zero => intro x2 x3 G hf; cases hf
  | succ n ih =>
    intro x2 x3 G hf
    unfold f_D_transform_82 at hf
    have hg : ∀ q k, q ∉ A_D_transform → (q, k) ∉ O_D_transform → G q k = G q k := fun _ _ _ _ => rfl
    rcases zx_if_some hf with ⟨hc_1, hf⟩ | ⟨hc_1, hf⟩
    · skip
      obtain ⟨x3_2, ex3_2, hf⟩ := zx_lt_some hf
      exact zv_tr hg (v_D_transform_112 2048 x3_2 G hf)
    · skip
      rcases zx_if_some hf with ⟨hc_3, hf⟩ | ⟨hc_3, hf⟩
      · skip
        exact zv_tr hg (v_D_transform_101 ih x2 x3 x3 (4 : Int32) (0 : Int32) G hf)
      · skip
        exact zv_tr hg (v_D_transform_101 ih x2 x3 x3 (4 : Int32) (1 : Int32) G hf)
theorem v_D_transform_46 {r : Int32} {G1 : zx_G} : ∀ (n : Nat) (x2 x3 : Int32) (G : zx_G), f_D_transform_46 n x2 x3 G = some (r, G1) → ∀ q k, q ∉ A_D_transform → (q, k) ∉ O_D_transform → G1 q k = G q k := by
  intro n
  induction n with
  | zero => intro x2 x3 G hf; cases hf
  | succ n ih =>
    intro x2 x3 G hf
    unfold f_D_transform_46 at hf
    have hg : ∀ q k, q ∉ A_D_transform → (q, k) ∉ O_D_transform → G q k = G q k := fun _ _ _ _ => rfl
    rcases zx_if_some hf with ⟨hc_1, hf⟩ | ⟨hc_1, hf⟩
    · skip
      obtain ⟨r_3, G_2, hq_4, hf⟩ := zx_bd_some hf
      have hg := zv_call hg (v_D_limitAll G hq_4) (by decide) (by decide)
      obtain ⟨x3_5, ex3_5, hf⟩ := zx_lt_some hf
      exact zv_tr hg (v_D_transform_82 2048 x2 x3_5 G_2 hf)
    · skip
      rcases zx_if_some hf with ⟨hc_6, hf⟩ | ⟨hc_6, hf⟩
      · skip
        exact zv_tr hg (v_D_transform_67 ih x2 x3 ((4 : Int32) * x3) (1 : Int32) (0 : Int32) G hf)
      · skip
        exact zv_tr hg (v_D_transform_67 ih x2 x3 ((4 : Int32) * x3) (1 : Int32) (1 : Int32) G hf)
theorem v_D_transform_2 {r : Int32} {G1 : zx_G} : ∀ (n : Nat) (x1 x2 x3 : Int32) (G : zx_G), f_D_transform_2 n x1 x2 x3 G = some (r, G1) → ∀ q k, q ∉ A_D_transform → (q, k) ∉ O_D_transform → G1 q k = G q k := by
  intro n
  induction n with
  | zero => intro x1 x2 x3 G hf; cases hf
  | succ n ih =>
    intro x1 x2 x3 G hf
    unfold f_D_transform_2 at hf
    have hg : ∀ q k, q ∉ A_D_transform → (q, k) ∉ O_D_transform → G q k = G q k := fun _ _ _ _ => rfl
    rcases zx_if_some hf with ⟨hc_1, hf⟩ | ⟨hc_1, hf⟩
    · skip
      obtain ⟨r_3, G_2, hq_4, hf⟩ := zx_bd_some hf
      have hg := zv_call hg (v_D_limitAll G hq_4) (by decide) (by decide)
      obtain ⟨x3_5, ex3_5, hf⟩ := zx_lt_some hf
      exact zv_tr hg (v_D_transform_46 2048 x2 x3_5 G_2 hf)
    · skip
      obtain ⟨hb_6, hf⟩ := zx_gd_some hf
      rcases zx_if_some hf with ⟨hc_7, hf⟩ | ⟨hc_7, hf⟩
      · skip
        exact zv_tr hg (v_D_transform_32 ih x1 x2 x3 x3 (G 24 (Int32.toNatClampNeg x3)) ((4 : Int32) + ((3 : Int32) * x1)) G hf)
      · skip
        exact zv_tr hg (v_D_transform_32 ih x1 x2 x3 x3 (G 24 (Int32.toNatClampNeg x3)) ((4 : Int32) + ((2 : Int32) * x1)) G hf)
theorem v_D_transform_0 {r : Int32} {G1 : zx_G} (x1 x2 : Int32) (G : zx_G) (hf : f_D_transform x1 x2 G = some (r, G1)) : ∀ q k, q ∉ A_D_transform → (q, k) ∉ O_D_transform → G1 q k = G q k := by
  unfold f_D_transform at hf
  have hg : ∀ q k, q ∉ A_D_transform → (q, k) ∉ O_D_transform → G q k = G q k := fun _ _ _ _ => rfl
  obtain ⟨x3_1, ex3_1, hf⟩ := zx_lt_some hf
  exact zv_tr hg (v_D_transform_2 2048 x1 x2 x3_1 G hf)
theorem v_D_transform (x1 x2 : Int32) (G : zx_G) {r : Int32} {G1 : zx_G} (hf : f_D_transform x1 x2 G = some (r, G1)) : ∀ q k, q ∉ A_D_transform → (q, k) ∉ O_D_transform → G1 q k = G q k := v_D_transform_0 x1 x2 G hf
abbrev A_D_mixLine : List Nat := [24]
abbrev O_D_mixLine : List (Nat × Nat) := []
theorem v_D_mixLine_0 {r : Int32} {G1 : zx_G} (x1 x2 : Int32) (G : zx_G) (hf : f_D_mixLine x1 x2 G = some (r, G1)) : ∀ q k, q ∉ A_D_mixLine → (q, k) ∉ O_D_mixLine → G1 q k = G q k := by
  unfold f_D_mixLine at hf
  have hg : ∀ q k, q ∉ A_D_mixLine → (q, k) ∉ O_D_mixLine → G q k = G q k := fun _ _ _ _ => rfl
  obtain ⟨hb_1, hf⟩ := zx_gd_some hf
  obtain ⟨x3_2, ex3_2, hf⟩ := zx_lt_some hf
  obtain ⟨hb_3, hf⟩ := zx_gd_some hf
  obtain ⟨x4_4, ex4_4, hf⟩ := zx_lt_some hf
  obtain ⟨hb_5, hf⟩ := zx_gd_some hf
  obtain ⟨x5_6, ex5_6, hf⟩ := zx_lt_some hf
  obtain ⟨hb_7, hf⟩ := zx_gd_some hf
  obtain ⟨x6_8, ex6_8, hf⟩ := zx_lt_some hf
  obtain ⟨hb_9, hf⟩ := zx_gd_some hf
  obtain ⟨G_10, eG_10, hf⟩ := zx_lt_some hf
  have hg := zv_ua hg eG_10 (by decide)
  obtain ⟨hb_11, hf⟩ := zx_gd_some hf
  obtain ⟨G_12, eG_12, hf⟩ := zx_lt_some hf
  have hg := zv_ua hg eG_12 (by decide)
  obtain ⟨hb_13, hf⟩ := zx_gd_some hf
  obtain ⟨G_14, eG_14, hf⟩ := zx_lt_some hf
  have hg := zv_ua hg eG_14 (by decide)
  obtain ⟨hb_15, hf⟩ := zx_gd_some hf
  obtain ⟨G_16, eG_16, hf⟩ := zx_lt_some hf
  have hg := zv_ua hg eG_16 (by decide)
  exact zv_ret hg hf
theorem v_D_mixLine (x1 x2 : Int32) (G : zx_G) {r : Int32} {G1 : zx_G} (hf : f_D_mixLine x1 x2 G = some (r, G1)) : ∀ q k, q ∉ A_D_mixLine → (q, k) ∉ O_D_mixLine → G1 q k = G q k := v_D_mixLine_0 x1 x2 G hf
abbrev A_D_mix : List Nat := [24]
abbrev O_D_mix : List (Nat × Nat) := []
theorem v_D_mix_42 {r : Int32} {G1 : zx_G} : ∀ (n : Nat) (x1 : Int32) (G : zx_G), f_D_mix_42 n x1 G = some (r, G1) → ∀ q k, q ∉ A_D_mix → (q, k) ∉ O_D_mix → G1 q k = G q k := by
  intro n
  induction n with
  | zero => intro x1 G hf; cases hf
  | succ n ih =>
    intro x1 G hf
    unfold f_D_mix_42 at hf
    have hg : ∀ q k, q ∉ A_D_mix → (q, k) ∉ O_D_mix → G q k = G q k := fun _ _ _ _ => rfl
    rcases zx_if_some hf with ⟨hc_1, hf⟩ | ⟨hc_1, hf⟩
    · skip
      exact zv_ret hg hf
    · skip
      obtain ⟨hb_2, hf⟩ := zx_gd_some hf
      obtain ⟨hb_3, hf⟩ := zx_gd_some hf
      obtain ⟨G_4, eG_4, hf⟩ := zx_lt_some hf
      have hg := zv_ua hg eG_4 (by decide)
      obtain ⟨x1_5, ex1_5, hf⟩ := zx_lt_some hf
      exact zv_tr hg (ih x1_5 G_4 hf)
theorem v_D_mix_23 {r : Int32} {G1 : zx_G} : ∀ (n : Nat) (x1 : Int32) (G : zx_G), f_D_mix_23 n x1 G = some (r, G1) → ∀ q k, q ∉ A_D_mix → (q, k) ∉ O_D_mix → G1 q k = G q k := by
  intro n
  induction n with
  | zero => intro x1 G hf; cases hf
  | succ n ih =>
    intro x1 G hf
    unfold f_D_mix_23 at hf
    have hg : ∀ q k, q ∉ A_D_mix → (q, k) ∉ O_D_mix → G q k = G q k := fun _ _ _ _ => rfl
    rcases zx_if_some hf with ⟨hc_1, hf⟩ | ⟨hc_1, hf⟩
    · skip
      obtain ⟨x1_2, ex1_2, hf⟩ := zx_lt_some hf
      exact zv_tr hg (v_D_mix_42 2048 x1_2 G hf)
    · skip
      obtain ⟨r_4, G_3, hq_5, hf⟩ := zx_bd_some hf
      have hg := zv_call hg (v_D_mixLine x1 (4 : Int32) G hq_5) (by decide) (by decide)
      obtain ⟨x1_6, ex1_6, hf⟩ := zx_lt_some hf
      exact zv_tr hg (ih x1_6 G_3 hf)
theorem v_D_mix_2 {r : Int32} {G1 : zx_G} : ∀ (n : Nat) (x1 : Int32) (G : zx_G), f_D_mix_2 n x1 G = some (r, G1) → ∀ q k, q ∉ A_D_mix → (q, k) ∉ O_D_mix → G1 q k = G q k := by
  intro n
  induction n with
  | zero => intro x1 G hf; cases hf
  | succ n ih =>
    intro x1 G hf
    unfold f_D_mix_2 at hf
    have hg : ∀ q k, q ∉ A_D_mix → (q, k) ∉ O_D_mix → G q k = G q k := fun _ _ _ _ => rfl
    rcases zx_if_some hf with ⟨hc_1, hf⟩ | ⟨hc_1, hf⟩
    · skip
      obtain ⟨x1_2, ex1_2, hf⟩ := zx_lt_some hf
      exact zv_tr hg (v_D_mix_23 2048 x1_2 G hf)
    · skip
      obtain ⟨r_4, G_3, hq_5, hf⟩ := zx_bd_some hf
      have hg := zv_call hg (v_D_mixLine ((4 : Int32) * x1) (1 : Int32) G hq_5) (by decide) (by decide)
      obtain ⟨x1_6, ex1_6, hf⟩ := zx_lt_some hf
      exact zv_tr hg (ih x1_6 G_3 hf)
theorem v_D_mix_0 {r : Int32} {G1 : zx_G} (G : zx_G) (hf : f_D_mix G = some (r, G1)) : ∀ q k, q ∉ A_D_mix → (q, k) ∉ O_D_mix → G1 q k = G q k := by
  unfold f_D_mix at hf
  have hg : ∀ q k, q ∉ A_D_mix → (q, k) ∉ O_D_mix → G q k = G q k := fun _ _ _ _ => rfl
  obtain ⟨x1_1, ex1_1, hf⟩ := zx_lt_some hf
  exact zv_tr hg (v_D_mix_2 2048 x1_1 G hf)
theorem v_D_mix (G : zx_G) {r : Int32} {G1 : zx_G} (hf : f_D_mix G = some (r, G1)) : ∀ q k, q ∉ A_D_mix → (q, k) ∉ O_D_mix → G1 q k = G q k := v_D_mix_0 G hf
abbrev A_A_fill_24 : List Nat := [24]
abbrev O_A_fill_24 : List (Nat × Nat) := []
theorem v_A_fill_24_5 {r : Int32} {G1 : zx_G} : ∀ (n : Nat) (x1 x2 x3 : Int32) (G : zx_G), f_A_fill_24_5 n x1 x2 x3 G = some (r, G1) → ∀ q k, q ∉ A_A_fill_24 → (q, k) ∉ O_A_fill_24 → G1 q k = G q k := by
  intro n
  induction n with
  | zero => intro x1 x2 x3 G hf; cases hf
  | succ n ih =>
    intro x1 x2 x3 G hf
    unfold f_A_fill_24_5 at hf
    have hg : ∀ q k, q ∉ A_A_fill_24 → (q, k) ∉ O_A_fill_24 → G q k = G q k := fun _ _ _ _ => rfl
    rcases zx_if_some hf with ⟨hc_1, hf⟩ | ⟨hc_1, hf⟩
    · skip
      exact zv_ret hg hf
    · skip
      obtain ⟨hb_2, hf⟩ := zx_gd_some hf
      obtain ⟨G_3, eG_3, hf⟩ := zx_lt_some hf
      have hg := zv_ua hg eG_3 (by decide)
      obtain ⟨x2_4, ex2_4, hf⟩ := zx_lt_some hf
      exact zv_tr hg (ih x1 x2_4 x3 G_3 hf)
theorem v_A_fill_24_0 {r : Int32} {G1 : zx_G} (x1 : Int32) (G : zx_G) (hf : f_A_fill_24 x1 G = some (r, G1)) : ∀ q k, q ∉ A_A_fill_24 → (q, k) ∉ O_A_fill_24 → G1 q k = G q k := by
  unfold f_A_fill_24 at hf
  have hg : ∀ q k, q ∉ A_A_fill_24 → (q, k) ∉ O_A_fill_24 → G q k = G q k := fun _ _ _ _ => rfl
  obtain ⟨x2_1, ex2_1, hf⟩ := zx_lt_some hf
  obtain ⟨x3_2, ex3_2, hf⟩ := zx_lt_some hf
  exact zv_tr hg (v_A_fill_24_5 2048 x1 x2_1 x3_2 G hf)
theorem v_A_fill_24 (x1 : Int32) (G : zx_G) {r : Int32} {G1 : zx_G} (hf : f_A_fill_24 x1 G = some (r, G1)) : ∀ q k, q ∉ A_A_fill_24 → (q, k) ∉ O_A_fill_24 → G1 q k = G q k := v_A_fill_24_0 x1 G hf
abbrev A_D_read : List Nat := [15, 16, 24, 25]
abbrev O_D_read : List (Nat × Nat) := [(14, 6), (14, 7), (14, 8), (14, 9)]
theorem v_D_read_194 {r : Int32} {G1 : zx_G} {k55 : Int32 → Int32 → Int32 → Int32 → Int32 → zx_G → Option (Int32 × zx_G)} (hk55 : ∀ (x2 x3 x4 x5 x6 : Int32) (G : zx_G), k55 x2 x3 x4 x5 x6 G = some (r, G1) → ∀ q k, q ∉ A_D_read → (q, k) ∉ O_D_read → G1 q k = G q k) (x2 x3 x4 x5 x6 s1 s2 : Int32) (G : zx_G) (hf : f_D_read_194 k55 x2 x3 x4 x5 x6 s1 s2 G = some (r, G1)) : ∀ q k, q ∉ A_D_read → (q, k) ∉ O_D_read → G1 q k = G q k := by
  unfold f_D_read_194 at hf
  have hg : ∀ q k, q ∉ A_D_read → (q, k) ∉ O_D_read → G q k = G q k := fun _ _ _ _ => rfl
  obtain ⟨hb_1, hf⟩ := zx_gd_some hf
  obtain ⟨G_2, eG_2, hf⟩ := zx_lt_some hf
  have hg := zv_ua hg eG_2 (by decide)
  obtain ⟨x6_3, ex6_3, hf⟩ := zx_lt_some hf
  exact zv_tr hg (hk55 x2 x3 x4 x5 x6_3 G_2 hf)
theorem v_D_read_169 {r : Int32} {G1 : zx_G} {k55 : Int32 → Int32 → Int32 → Int32 → Int32 → zx_G → Option (Int32 × zx_G)} (hk55 : ∀ (x2 x3 x4 x5 x6 : Int32) (G : zx_G), k55 x2 x3 x4 x5 x6 G = some (r, G1) → ∀ q k, q ∉ A_D_read → (q, k) ∉ O_D_read → G1 q k = G q k) (x2 x3 x4 x5 x6 x9 s0 : Int32) (G : zx_G) (hf : f_D_read_169 k55 x2 x3 x4 x5 x6 x9 s0 G = some (r, G1)) : ∀ q k, q ∉ A_D_read → (q, k) ∉ O_D_read → G1 q k = G q k := by
  unfold f_D_read_169 at hf
  have hg : ∀ q k, q ∉ A_D_read → (q, k) ∉ O_D_read → G q k = G q k := fun _ _ _ _ => rfl
  obtain ⟨x10_1, ex10_1, hf⟩ := zx_lt_some hf
  obtain ⟨hb_2, hf⟩ := zx_gd_some hf
  rcases zx_if_some hf with ⟨hc_3, hf⟩ | ⟨hc_3, hf⟩
  · skip
    exact zv_tr hg (v_D_read_194 hk55 x2 x3 x4 x5 x6 (zx_tab1 (Int32.toNatClampNeg x6)) x9 G hf)
  · skip
    exact zv_tr hg (v_D_read_194 hk55 x2 x3 x4 x5 x6 (zx_tab1 (Int32.toNatClampNeg x6)) (-x9) G hf)
theorem v_D_read_168 {r : Int32} {G1 : zx_G} {k55 : Int32 → Int32 → Int32 → Int32 → Int32 → zx_G → Option (Int32 × zx_G)} (hk55 : ∀ (x2 x3 x4 x5 x6 : Int32) (G : zx_G), k55 x2 x3 x4 x5 x6 G = some (r, G1) → ∀ q k, q ∉ A_D_read → (q, k) ∉ O_D_read → G1 q k = G q k) (x2 x3 x4 x5 x6 x9 : Int32) (G : zx_G) (hf : f_D_read_168 k55 x2 x3 x4 x5 x6 x9 G = some (r, G1)) : ∀ q k, q ∉ A_D_read → (q, k) ∉ O_D_read → G1 q k = G q k := by
  unfold f_D_read_168 at hf
  have hg : ∀ q k, q ∉ A_D_read → (q, k) ∉ O_D_read → G q k = G q k := fun _ _ _ _ => rfl
  exact zv_tr hg (v_D_read_169 hk55 x2 x3 x4 x5 x6 x9 (0 : Int32) G hf)
theorem v_D_read_148 {r : Int32} {G1 : zx_G} {k55 : Int32 → Int32 → Int32 → Int32 → Int32 → zx_G → Option (Int32 × zx_G)} (hk55 : ∀ (x2 x3 x4 x5 x6 : Int32) (G : zx_G), k55 x2 x3 x4 x5 x6 G = some (r, G1) → ∀ q k, q ∉ A_D_read → (q, k) ∉ O_D_read → G1 q k = G q k) (x2 x3 x4 x5 x6 x9 : Int32) (G : zx_G) (hf : f_D_read_148 k55 x2 x3 x4 x5 x6 x9 G = some (r, G1)) : ∀ q k, q ∉ A_D_read → (q, k) ∉ O_D_read → G1 q k = G q k := by
  unfold f_D_read_148 at hf
  have hg : ∀ q k, q ∉ A_D_read → (q, k) ∉ O_D_read → G q k = G q k := fun _ _ _ _ => rfl
  rcases zx_if_some hf with ⟨hc_1, hf⟩ | ⟨hc_1, hf⟩
  · skip
    exact zv_tr hg (v_D_read_168 hk55 x2 x3 x4 x5 x6 x9 G hf)
  · skip
    obtain ⟨r_3, G_2, hq_4, hf⟩ := zx_bd_some hf
    have hg := zv_call hg (v_C_readBit G hq_4) (by decide) (by decide)
    rcases zx_if_some hf with ⟨hc_5, hf⟩ | ⟨hc_5, hf⟩
    · skip
      exact zv_tr hg (v_D_read_168 hk55 x2 x3 x4 x5 x6 x9 G_2 hf)
    · skip
      exact zv_tr hg (v_D_read_169 hk55 x2 x3 x4 x5 x6 x9 (1 : Int32) G_2 hf)
theorem v_D_read_117 {r : Int32} {G1 : zx_G} {k55 : Int32 → Int32 → Int32 → Int32 → Int32 → zx_G → Option (Int32 × zx_G)} (hk55 : ∀ (x2 x3 x4 x5 x6 : Int32) (G : zx_G), k55 x2 x3 x4 x5 x6 G = some (r, G1) → ∀ q k, q ∉ A_D_read → (q, k) ∉ O_D_read → G1 q k = G q k) (x2 x3 x4 x5 x6 x8 s0 : Int32) (G : zx_G) (hf : f_D_read_117 k55 x2 x3 x4 x5 x6 x8 s0 G = some (r, G1)) : ∀ q k, q ∉ A_D_read → (q, k) ∉ O_D_read → G1 q k = G q k := by
  unfold f_D_read_117 at hf
  have hg : ∀ q k, q ∉ A_D_read → (q, k) ∉ O_D_read → G q k = G q k := fun _ _ _ _ => rfl
  obtain ⟨x9_1, ex9_1, hf⟩ := zx_lt_some hf
  rcases zx_if_some hf with ⟨hc_2, hf⟩ | ⟨hc_2, hf⟩
  · skip
    exact zv_tr hg (v_D_read_148 hk55 x2 x3 x4 x5 x6 x9_1 G hf)
  · skip
    obtain ⟨r_4, G_3, hq_5, hf⟩ := zx_bd_some hf
    have hg := zv_call hg (v_C_readExcess G hq_5) (by decide) (by decide)
    obtain ⟨x10_6, ex10_6, hf⟩ := zx_lt_some hf
    rcases zx_if_some hf with ⟨hc_7, hf⟩ | ⟨hc_7, hf⟩
    · skip
      obtain ⟨x9_8, ex9_8, hf⟩ := zx_lt_some hf
      exact zv_tr hg (v_D_read_148 hk55 x2 x3 x4 x5 x6 x9_8 G_3 hf)
    · skip
      obtain ⟨hb_9, hf⟩ := zx_gd_some hf
      exact zv_ret hg hf
theorem v_D_read_80 {r : Int32} {G1 : zx_G} {k55 : Int32 → Int32 → Int32 → Int32 → Int32 → zx_G → Option (Int32 × zx_G)} (hk55 : ∀ (x2 x3 x4 x5 x6 : Int32) (G : zx_G), k55 x2 x3 x4 x5 x6 G = some (r, G1) → ∀ q k, q ∉ A_D_read → (q, k) ∉ O_D_read → G1 q k = G q k) (x2 x3 x4 x5 x6 s0 : Int32) (G : zx_G) (hf : f_D_read_80 k55 x2 x3 x4 x5 x6 s0 G = some (r, G1)) : ∀ q k, q ∉ A_D_read → (q, k) ∉ O_D_read → G1 q k = G q k := by
  unfold f_D_read_80 at hf
  have hg : ∀ q k, q ∉ A_D_read → (q, k) ∉ O_D_read → G q k = G q k := fun _ _ _ _ => rfl
  obtain ⟨x7_1, ex7_1, hf⟩ := zx_lt_some hf
  obtain ⟨r_3, G_2, hq_4, hf⟩ := zx_bd_some hf
  have hg := zv_call hg (v_C_readSymbol (((13 : Int32) + ((3 : Int32) * x4)) + x7_1) G hq_4) (by decide) (by decide)
  obtain ⟨x8_5, ex8_5, hf⟩ := zx_lt_some hf
  rcases zx_if_some hf with ⟨hc_6, hf⟩ | ⟨hc_6, hf⟩
  · skip
    exact zv_tr hg (v_D_read_117 hk55 x2 x3 x4 x5 x6 x8_5 x8_5 G_2 hf)
  · skip
    exact zv_tr hg (v_D_read_117 hk55 x2 x3 x4 x5 x6 x8_5 (x8_5 + (1 : Int32)) G_2 hf)
theorem v_D_read_218 {r : Int32} {G1 : zx_G} (G : zx_G) (hf : f_D_read_218 G = some (r, G1)) : ∀ q k, q ∉ A_D_read → (q, k) ∉ O_D_read → G1 q k = G q k := by
  unfold f_D_read_218 at hf
  have hg : ∀ q k, q ∉ A_D_read → (q, k) ∉ O_D_read → G q k = G q k := fun _ _ _ _ => rfl
  obtain ⟨hb_1, hf⟩ := zx_gd_some hf
  exact zv_ret hg hf
theorem v_D_read_55 {r : Int32} {G1 : zx_G} : ∀ (n : Nat) (x2 x3 x4 x5 x6 : Int32) (G : zx_G), f_D_read_55 n x2 x3 x4 x5 x6 G = some (r, G1) → ∀ q k, q ∉ A_D_read → (q, k) ∉ O_D_read → G1 q k = G q k := by
  intro n
  induction n with
  | zero => intro x2 x3 x4 x5 x6 G hf; cases hf
  | succ n ih =>
    intro x2 x3 x4 x5 x6 G hf
    unfold f_D_read_55 at hf
    have hg : ∀ q k, q ∉ A_D_read → (q, k) ∉ O_D_read → G q k = G q k := fun _ _ _ _ => rfl
    rcases zx_if_some hf with ⟨hc_1, hf⟩ | ⟨hc_1, hf⟩
    · skip
      rcases zx_if_some hf with ⟨hc_2, hf⟩ | ⟨hc_2, hf⟩
      · skip
        obtain ⟨r_4, G_3, hq_5, hf⟩ := zx_bd_some hf
        have hg := zv_call hg (v_D_transform x2 x3 G hq_5) (by decide) (by decide)
        exact zv_tr hg (v_D_read_218 G_3 hf)
      · skip
        obtain ⟨r_7, G_6, hq_8, hf⟩ := zx_bd_some hf
        have hg := zv_call hg (v_D_mix G hq_8) (by decide) (by decide)
        exact zv_tr hg (v_D_read_218 G_6 hf)
    · skip
      rcases zx_if_some hf with ⟨hc_9, hf⟩ | ⟨hc_9, hf⟩
      · skip
        rcases zx_if_some hf with ⟨hc_10, hf⟩ | ⟨hc_10, hf⟩
        · skip
          exact zv_tr hg (v_D_read_80 ih x2 x3 x4 x5 x6 (2 : Int32) G hf)
        · skip
          exact zv_tr hg (v_D_read_80 ih x2 x3 x4 x5 x6 (1 : Int32) G hf)
      · skip
        exact zv_tr hg (v_D_read_80 ih x2 x3 x4 x5 x6 (0 : Int32) G hf)
theorem v_D_read_9 {r : Int32} {G1 : zx_G} (x2 x3 s0 : Int32) (G : zx_G) (hf : f_D_read_9 x2 x3 s0 G = some (r, G1)) : ∀ q k, q ∉ A_D_read → (q, k) ∉ O_D_read → G1 q k = G q k := by
  unfold f_D_read_9 at hf
  have hg : ∀ q k, q ∉ A_D_read → (q, k) ∉ O_D_read → G q k = G q k := fun _ _ _ _ => rfl
  obtain ⟨x4_1, ex4_1, hf⟩ := zx_lt_some hf
  obtain ⟨r_3, G_2, hq_4, hf⟩ := zx_bd_some hf
  have hg := zv_call hg (v_A_fill_24 (0 : Int32) G hq_4) (by decide) (by decide)
  obtain ⟨r_6, G_5, hq_7, hf⟩ := zx_bd_some hf
  have hg := zv_call hg (v_C_readSymbol ((8 : Int32) + x4_1) G_2 hq_7) (by decide) (by decide)
  rcases zx_if_some hf with ⟨hc_8, hf⟩ | ⟨hc_8, hf⟩
  · skip
    obtain ⟨r_10, G_9, hq_11, hf⟩ := zx_bd_some hf
    have hg := zv_call hg (v_C_readSymbol ((11 : Int32) + x4_1) G_5 hq_11) (by decide) (by decide)
    obtain ⟨x5_12, ex5_12, hf⟩ := zx_lt_some hf
    obtain ⟨x6_13, ex6_13, hf⟩ := zx_lt_some hf
    exact zv_tr hg (v_D_read_55 2048 x2 x3 x4_1 x5_12 x6_13 G_9 hf)
  · skip
    obtain ⟨hb_14, hf⟩ := zx_gd_some hf
    exact zv_ret hg hf
theorem v_D_read_0 {r : Int32} {G1 : zx_G} (x1 x2 x3 : Int32) (G : zx_G) (hf : f_D_read x1 x2 x3 G = some (r, G1)) : ∀ q k, q ∉ A_D_read → (q, k) ∉ O_D_read → G1 q k = G q k := by
  unfold f_D_read at hf
  have hg : ∀ q k, q ∉ A_D_read → (q, k) ∉ O_D_read → G q k = G q k := fun _ _ _ _ => rfl
  rcases zx_if_some hf with ⟨hc_1, hf⟩ | ⟨hc_1, hf⟩
  · skip
    exact zv_tr hg (v_D_read_9 x2 x3 (1 : Int32) G hf)
  · skip
    exact zv_tr hg (v_D_read_9 x2 x3 (0 : Int32) G hf)
theorem v_D_read (x1 x2 x3 : Int32) (G : zx_G) {r : Int32} {G1 : zx_G} (hf : f_D_read x1 x2 x3 G = some (r, G1)) : ∀ q k, q ∉ A_D_read → (q, k) ∉ O_D_read → G1 q k = G q k := v_D_read_0 x1 x2 x3 G hf
abbrev A_E_addShare : List Nat := [27]
abbrev O_E_addShare : List (Nat × Nat) := []
theorem v_E_addShare_58 {r : Int32} {G1 : zx_G} : ∀ (n : Nat) (x1 x2 x5 x6 : Int32) (G : zx_G), f_E_addShare_58 n x1 x2 x5 x6 G = some (r, G1) → ∀ q k, q ∉ A_E_addShare → (q, k) ∉ O_E_addShare → G1 q k = G q k := by
  intro n
  induction n with
  | zero => intro x1 x2 x5 x6 G hf; cases hf
  | succ n ih =>
    intro x1 x2 x5 x6 G hf
    unfold f_E_addShare_58 at hf
    have hg : ∀ q k, q ∉ A_E_addShare → (q, k) ∉ O_E_addShare → G q k = G q k := fun _ _ _ _ => rfl
    rcases zx_if_some hf with ⟨hc_1, hf⟩ | ⟨hc_1, hf⟩
    · skip
      exact zv_ret hg hf
    · skip
      obtain ⟨hb_2, hf⟩ := zx_gd_some hf
      obtain ⟨x7_3, ex7_3, hf⟩ := zx_lt_some hf
      obtain ⟨hb_4, hf⟩ := zx_gd_some hf
      obtain ⟨r_6, G_5, hq_7, hf⟩ := zx_bd_some hf
      have hg := zv_call hg (v_P_limited ((G 27 (Int32.toNatClampNeg x6)) + (((x2 * (x7_3 - x5)) + (2 : Int32)) >>> ((2 : Int32) &&& 31))) G hq_7) (by decide) (by decide)
      obtain ⟨hb_8, hf⟩ := zx_gd_some hf
      obtain ⟨G_9, eG_9, hf⟩ := zx_lt_some hf
      have hg := zv_ua hg eG_9 (by decide)
      obtain ⟨x6_10, ex6_10, hf⟩ := zx_lt_some hf
      exact zv_tr hg (ih x1 x2 x5 x6_10 G_9 hf)
theorem v_E_addShare_15 {r : Int32} {G1 : zx_G} : ∀ (n : Nat) (x1 x2 x4 x5 : Int32) (G : zx_G), f_E_addShare_15 n x1 x2 x4 x5 G = some (r, G1) → ∀ q k, q ∉ A_E_addShare → (q, k) ∉ O_E_addShare → G1 q k = G q k := by
  intro n
  induction n with
  | zero => intro x1 x2 x4 x5 G hf; cases hf
  | succ n ih =>
    intro x1 x2 x4 x5 G hf
    unfold f_E_addShare_15 at hf
    have hg : ∀ q k, q ∉ A_E_addShare → (q, k) ∉ O_E_addShare → G q k = G q k := fun _ _ _ _ => rfl
    rcases zx_if_some hf with ⟨hc_1, hf⟩ | ⟨hc_1, hf⟩
    · skip
      obtain ⟨x5_2, ex5_2, hf⟩ := zx_lt_some hf
      obtain ⟨x6_3, ex6_3, hf⟩ := zx_lt_some hf
      exact zv_tr hg (v_E_addShare_58 2048 x1 x2 x5_2 x6_3 G hf)
    · skip
      obtain ⟨hb_4, hf⟩ := zx_gd_some hf
      obtain ⟨x4_5, ex4_5, hf⟩ := zx_lt_some hf
      obtain ⟨x5_6, ex5_6, hf⟩ := zx_lt_some hf
      exact zv_tr hg (ih x1 x2 x4_5 x5_6 G hf)
theorem v_E_addShare_0 {r : Int32} {G1 : zx_G} (x1 x2 : Int32) (G : zx_G) (hf : f_E_addShare x1 x2 G = some (r, G1)) : ∀ q k, q ∉ A_E_addShare → (q, k) ∉ O_E_addShare → G1 q k = G q k := by
  unfold f_E_addShare at hf
  have hg : ∀ q k, q ∉ A_E_addShare → (q, k) ∉ O_E_addShare → G q k = G q k := fun _ _ _ _ => rfl
  obtain ⟨x4_1, ex4_1, hf⟩ := zx_lt_some hf
  obtain ⟨x5_2, ex5_2, hf⟩ := zx_lt_some hf
  exact zv_tr hg (v_E_addShare_15 2048 x1 x2 x4_1 x5_2 G hf)
theorem v_E_addShare (x1 x2 : Int32) (G : zx_G) {r : Int32} {G1 : zx_G} (hf : f_E_addShare x1 x2 G = some (r, G1)) : ∀ q k, q ∉ A_E_addShare → (q, k) ∉ O_E_addShare → G1 q k = G q k := v_E_addShare_0 x1 x2 G hf
abbrev A_E_nearest : List Nat := []
abbrev O_E_nearest : List (Nat × Nat) := []
theorem v_E_nearest_56 {r : Int32} {G1 : zx_G} (x4 : Int32) (G : zx_G) (hf : f_E_nearest_56 x4 G = some (r, G1)) : ∀ q k, q ∉ A_E_nearest → (q, k) ∉ O_E_nearest → G1 q k = G q k := by
  unfold f_E_nearest_56 at hf
  have hg : ∀ q k, q ∉ A_E_nearest → (q, k) ∉ O_E_nearest → G q k = G q k := fun _ _ _ _ => rfl
  exact zv_ret hg hf
theorem v_E_nearest_31 {r : Int32} {G1 : zx_G} (x3 x4 : Int32) (G : zx_G) (hf : f_E_nearest_31 x3 x4 G = some (r, G1)) : ∀ q k, q ∉ A_E_nearest → (q, k) ∉ O_E_nearest → G1 q k = G q k := by
  unfold f_E_nearest_31 at hf
  have hg : ∀ q k, q ∉ A_E_nearest → (q, k) ∉ O_E_nearest → G q k = G q k := fun _ _ _ _ => rfl
  rcases zx_if_some hf with ⟨hc_1, hf⟩ | ⟨hc_1, hf⟩
  · skip
    exact zv_tr hg (v_E_nearest_56 x4 G hf)
  · skip
    obtain ⟨x4_2, ex4_2, hf⟩ := zx_lt_some hf
    exact zv_tr hg (v_E_nearest_56 x4_2 G hf)
theorem v_E_nearest_0 {r : Int32} {G1 : zx_G} (x1 x2 : Int32) (G : zx_G) (hf : f_E_nearest x1 x2 G = some (r, G1)) : ∀ q k, q ∉ A_E_nearest → (q, k) ∉ O_E_nearest → G1 q k = G q k := by
  unfold f_E_nearest at hf
  have hg : ∀ q k, q ∉ A_E_nearest → (q, k) ∉ O_E_nearest → G q k = G q k := fun _ _ _ _ => rfl
  obtain ⟨x3_1, ex3_1, hf⟩ := zx_lt_some hf
  obtain ⟨x4_2, ex4_2, hf⟩ := zx_lt_some hf
  rcases zx_if_some hf with ⟨hc_3, hf⟩ | ⟨hc_3, hf⟩
  · skip
    exact zv_tr hg (v_E_nearest_31 x3_1 x4_2 G hf)
  · skip
    obtain ⟨x4_4, ex4_4, hf⟩ := zx_lt_some hf
    exact zv_tr hg (v_E_nearest_31 x3_1 x4_4 G hf)
theorem v_E_nearest (x1 x2 : Int32) (G : zx_G) {r : Int32} {G1 : zx_G} (hf : f_E_nearest x1 x2 G = some (r, G1)) : ∀ q k, q ∉ A_E_nearest → (q, k) ∉ O_E_nearest → G1 q k = G q k := v_E_nearest_0 x1 x2 G hf
abbrev A_E_blended : List Nat := []
abbrev O_E_blended : List (Nat × Nat) := []
theorem v_E_blended_0 {r : Int32} {G1 : zx_G} (x1 x2 : Int32) (G : zx_G) (hf : f_E_blended x1 x2 G = some (r, G1)) : ∀ q k, q ∉ A_E_blended → (q, k) ∉ O_E_blended → G1 q k = G q k := by
  unfold f_E_blended at hf
  have hg : ∀ q k, q ∉ A_E_blended → (q, k) ∉ O_E_blended → G q k = G q k := fun _ _ _ _ => rfl
  obtain ⟨x3_1, ex3_1, hf⟩ := zx_lt_some hf
  obtain ⟨x4_2, ex4_2, hf⟩ := zx_lt_some hf
  obtain ⟨hb_3, hf⟩ := zx_gd_some hf
  obtain ⟨hb_4, hf⟩ := zx_gd_some hf
  obtain ⟨x5_5, ex5_5, hf⟩ := zx_lt_some hf
  obtain ⟨hb_6, hf⟩ := zx_gd_some hf
  obtain ⟨hb_7, hf⟩ := zx_gd_some hf
  obtain ⟨x6_8, ex6_8, hf⟩ := zx_lt_some hf
  exact zv_ret hg hf
theorem v_E_blended (x1 x2 : Int32) (G : zx_G) {r : Int32} {G1 : zx_G} (hf : f_E_blended x1 x2 G = some (r, G1)) : ∀ q k, q ∉ A_E_blended → (q, k) ∉ O_E_blended → G1 q k = G q k := v_E_blended_0 x1 x2 G hf
abbrev A_E_predicted : List Nat := []
abbrev O_E_predicted : List (Nat × Nat) := []
theorem v_E_predicted_0 {r : Int32} {G1 : zx_G} (x1 x2 x3 : Int32) (G : zx_G) (hf : f_E_predicted x1 x2 x3 G = some (r, G1)) : ∀ q k, q ∉ A_E_predicted → (q, k) ∉ O_E_predicted → G1 q k = G q k := by
  unfold f_E_predicted at hf
  have hg : ∀ q k, q ∉ A_E_predicted → (q, k) ∉ O_E_predicted → G q k = G q k := fun _ _ _ _ => rfl
  rcases zx_if_some hf with ⟨hc_1, hf⟩ | ⟨hc_1, hf⟩
  · skip
    obtain ⟨hb_2, hf⟩ := zx_gd_some hf
    exact zv_ret hg hf
  · skip
    rcases zx_if_some hf with ⟨hc_3, hf⟩ | ⟨hc_3, hf⟩
    · skip
      obtain ⟨hb_4, hf⟩ := zx_gd_some hf
      exact zv_ret hg hf
    · skip
      rcases zx_if_some hf with ⟨hc_5, hf⟩ | ⟨hc_5, hf⟩
      · skip
        obtain ⟨hb_6, hf⟩ := zx_gd_some hf
        obtain ⟨hb_7, hf⟩ := zx_gd_some hf
        obtain ⟨r_9, G_8, hq_10, hf⟩ := zx_bd_some hf
        have hg := zv_call hg (v_E_nearest (G 29 (Int32.toNatClampNeg x3)) (G 28 (Int32.toNatClampNeg x2)) G hq_10) (by decide) (by decide)
        exact zv_ret hg hf
      · skip
        rcases zx_if_some hf with ⟨hc_11, hf⟩ | ⟨hc_11, hf⟩
        · skip
          obtain ⟨r_13, G_12, hq_14, hf⟩ := zx_bd_some hf
          have hg := zv_call hg (v_E_blended x2 x3 G hq_14) (by decide) (by decide)
          exact zv_ret hg hf
        · skip
          rcases zx_if_some hf with ⟨hc_15, hf⟩ | ⟨hc_15, hf⟩
          · skip
            obtain ⟨hb_16, hf⟩ := zx_gd_some hf
            obtain ⟨hb_17, hf⟩ := zx_gd_some hf
            exact zv_ret hg hf
          · skip
            exact zv_ret hg hf
theorem v_E_predicted (x1 x2 x3 : Int32) (G : zx_G) {r : Int32} {G1 : zx_G} (hf : f_E_predicted x1 x2 x3 G = some (r, G1)) : ∀ q k, q ∉ A_E_predicted → (q, k) ∉ O_E_predicted → G1 q k = G q k := v_E_predicted_0 x1 x2 x3 G hf
abbrev A_P_middle : List Nat := []
abbrev O_P_middle : List (Nat × Nat) := []
theorem v_P_middle_0 {r : Int32} {G1 : zx_G} (G : zx_G) (hf : f_P_middle G = some (r, G1)) : ∀ q k, q ∉ A_P_middle → (q, k) ∉ O_P_middle → G1 q k = G q k := by
  unfold f_P_middle at hf
  have hg : ∀ q k, q ∉ A_P_middle → (q, k) ∉ O_P_middle → G q k = G q k := fun _ _ _ _ => rfl
  exact zv_ret hg hf
theorem v_P_middle (G : zx_G) {r : Int32} {G1 : zx_G} (hf : f_P_middle G = some (r, G1)) : ∀ q k, q ∉ A_P_middle → (q, k) ∉ O_P_middle → G1 q k = G q k := v_P_middle_0 G hf
abbrev A_E_look : List Nat := [28, 29]
abbrev O_E_look : List (Nat × Nat) := [(26, 4)]
theorem v_E_look_164 {r : Int32} {G1 : zx_G} {k103 : Int32 → Int32 → Int32 → Int32 → Int32 → Int32 → Int32 → Int32 → zx_G → Option (Int32 × zx_G)} (hk103 : ∀ (x2 x3 x5 x6 x7 x8 x9 x10 : Int32) (G : zx_G), k103 x2 x3 x5 x6 x7 x8 x9 x10 G = some (r, G1) → ∀ q k, q ∉ A_E_look → (q, k) ∉ O_E_look → G1 q k = G q k) (x2 x3 x5 x6 x7 x8 x9 x10 s1 s2 : Int32) (G : zx_G) (hf : f_E_look_164 k103 x2 x3 x5 x6 x7 x8 x9 x10 s1 s2 G = some (r, G1)) : ∀ q k, q ∉ A_E_look → (q, k) ∉ O_E_look → G1 q k = G q k := by
  unfold f_E_look_164 at hf
  have hg : ∀ q k, q ∉ A_E_look → (q, k) ∉ O_E_look → G q k = G q k := fun _ _ _ _ => rfl
  obtain ⟨hb_1, hf⟩ := zx_gd_some hf
  obtain ⟨G_2, eG_2, hf⟩ := zx_lt_some hf
  have hg := zv_ua hg eG_2 (by decide)
  obtain ⟨x10_3, ex10_3, hf⟩ := zx_lt_some hf
  exact zv_tr hg (hk103 x2 x3 x5 x6 x7 x8 x9 x10_3 G_2 hf)
theorem v_E_look_135 {r : Int32} {G1 : zx_G} {k103 : Int32 → Int32 → Int32 → Int32 → Int32 → Int32 → Int32 → Int32 → zx_G → Option (Int32 × zx_G)} (hk103 : ∀ (x2 x3 x5 x6 x7 x8 x9 x10 : Int32) (G : zx_G), k103 x2 x3 x5 x6 x7 x8 x9 x10 G = some (r, G1) → ∀ q k, q ∉ A_E_look → (q, k) ∉ O_E_look → G1 q k = G q k) (x2 x3 x5 x6 x7 x8 x9 x10 s1 s2 : Int32) (G : zx_G) (hf : f_E_look_135 k103 x2 x3 x5 x6 x7 x8 x9 x10 s1 s2 G = some (r, G1)) : ∀ q k, q ∉ A_E_look → (q, k) ∉ O_E_look → G1 q k = G q k := by
  unfold f_E_look_135 at hf
  have hg : ∀ q k, q ∉ A_E_look → (q, k) ∉ O_E_look → G q k = G q k := fun _ _ _ _ => rfl
  obtain ⟨hb_1, hf⟩ := zx_gd_some hf
  obtain ⟨G_2, eG_2, hf⟩ := zx_lt_some hf
  have hg := zv_ua hg eG_2 (by decide)
  rcases zx_if_some hf with ⟨hc_3, hf⟩ | ⟨hc_3, hf⟩
  · skip
    exact zv_tr hg (v_E_look_164 hk103 x2 x3 x5 x6 x7 x8 x9 x10 x10 x9 G_2 hf)
  · skip
    obtain ⟨hb_4, hf⟩ := zx_gd_some hf
    exact zv_tr hg (v_E_look_164 hk103 x2 x3 x5 x6 x7 x8 x9 x10 x10 (G_2 18 (Int32.toNatClampNeg ((x5 - (1 : Int32)) + (x10 * (16 : Int32))))) G_2 hf)
theorem v_E_look_211 {r : Int32} {G1 : zx_G} (G : zx_G) (hf : f_E_look_211 G = some (r, G1)) : ∀ q k, q ∉ A_E_look → (q, k) ∉ O_E_look → G1 q k = G q k := by
  unfold f_E_look_211 at hf
  have hg : ∀ q k, q ∉ A_E_look → (q, k) ∉ O_E_look → G q k = G q k := fun _ _ _ _ => rfl
  exact zv_ret hg hf
theorem v_E_look_208 {r : Int32} {G1 : zx_G} (s1 : Int32) (G : zx_G) (hf : f_E_look_208 s1 G = some (r, G1)) : ∀ q k, q ∉ A_E_look → (q, k) ∉ O_E_look → G1 q k = G q k := by
  unfold f_E_look_208 at hf
  have hg : ∀ q k, q ∉ A_E_look → (q, k) ∉ O_E_look → G q k = G q k := fun _ _ _ _ => rfl
  obtain ⟨G_1, eG_1, hf⟩ := zx_lt_some hf
  have hg := zv_uo hg eG_1 (by decide)
  exact zv_tr hg (v_E_look_211 G_1 hf)
theorem v_E_look_196 {r : Int32} {G1 : zx_G} (x3 x6 x7 : Int32) (G : zx_G) (hf : f_E_look_196 x3 x6 x7 G = some (r, G1)) : ∀ q k, q ∉ A_E_look → (q, k) ∉ O_E_look → G1 q k = G q k := by
  unfold f_E_look_196 at hf
  have hg : ∀ q k, q ∉ A_E_look → (q, k) ∉ O_E_look → G q k = G q k := fun _ _ _ _ => rfl
  rcases zx_if_some hf with ⟨hc_1, hf⟩ | ⟨hc_1, hf⟩
  · skip
    exact zv_tr hg (v_E_look_208 x7 G hf)
  · skip
    exact zv_tr hg (v_E_look_208 x6 G hf)
theorem v_E_look_103 {r : Int32} {G1 : zx_G} : ∀ (n : Nat) (x2 x3 x5 x6 x7 x8 x9 x10 : Int32) (G : zx_G), f_E_look_103 n x2 x3 x5 x6 x7 x8 x9 x10 G = some (r, G1) → ∀ q k, q ∉ A_E_look → (q, k) ∉ O_E_look → G1 q k = G q k := by
  intro n
  induction n with
  | zero => intro x2 x3 x5 x6 x7 x8 x9 x10 G hf; cases hf
  | succ n ih =>
    intro x2 x3 x5 x6 x7 x8 x9 x10 G hf
    unfold f_E_look_103 at hf
    have hg : ∀ q k, q ∉ A_E_look → (q, k) ∉ O_E_look → G q k = G q k := fun _ _ _ _ => rfl
    rcases zx_if_some hf with ⟨hc_1, hf⟩ | ⟨hc_1, hf⟩
    · skip
      rcases zx_if_some hf with ⟨hc_2, hf⟩ | ⟨hc_2, hf⟩
      · skip
        exact zv_tr hg (v_E_look_196 x3 x6 x7 G hf)
      · skip
        rcases zx_if_some hf with ⟨hc_3, hf⟩ | ⟨hc_3, hf⟩
        · skip
          exact zv_tr hg (v_E_look_196 x3 x6 x7 G hf)
        · skip
          obtain ⟨hb_4, hf⟩ := zx_gd_some hf
          obtain ⟨G_5, eG_5, hf⟩ := zx_lt_some hf
          have hg := zv_uo hg eG_5 (by decide)
          exact zv_tr hg (v_E_look_211 G_5 hf)
    · skip
      rcases zx_if_some hf with ⟨hc_6, hf⟩ | ⟨hc_6, hf⟩
      · skip
        exact zv_tr hg (v_E_look_135 ih x2 x3 x5 x6 x7 x8 x9 x10 x10 x8 G hf)
      · skip
        obtain ⟨hb_7, hf⟩ := zx_gd_some hf
        exact zv_tr hg (v_E_look_135 ih x2 x3 x5 x6 x7 x8 x9 x10 x10 (G 18 (Int32.toNatClampNeg ((x5 - (16 : Int32)) + x10))) G hf)
theorem v_E_look_98 {r : Int32} {G1 : zx_G} (x2 x3 x5 x6 x7 x8 s0 : Int32) (G : zx_G) (hf : f_E_look_98 x2 x3 x5 x6 x7 x8 s0 G = some (r, G1)) : ∀ q k, q ∉ A_E_look → (q, k) ∉ O_E_look → G1 q k = G q k := by
  unfold f_E_look_98 at hf
  have hg : ∀ q k, q ∉ A_E_look → (q, k) ∉ O_E_look → G q k = G q k := fun _ _ _ _ => rfl
  obtain ⟨x9_1, ex9_1, hf⟩ := zx_lt_some hf
  obtain ⟨x10_2, ex10_2, hf⟩ := zx_lt_some hf
  exact zv_tr hg (v_E_look_103 2048 x2 x3 x5 x6 x7 x8 x9_1 x10_2 G hf)
theorem v_E_look_80 {r : Int32} {G1 : zx_G} (x2 x3 x5 x6 x7 s0 : Int32) (G : zx_G) (hf : f_E_look_80 x2 x3 x5 x6 x7 s0 G = some (r, G1)) : ∀ q k, q ∉ A_E_look → (q, k) ∉ O_E_look → G1 q k = G q k := by
  unfold f_E_look_80 at hf
  have hg : ∀ q k, q ∉ A_E_look → (q, k) ∉ O_E_look → G q k = G q k := fun _ _ _ _ => rfl
  obtain ⟨x8_1, ex8_1, hf⟩ := zx_lt_some hf
  rcases zx_if_some hf with ⟨hc_2, hf⟩ | ⟨hc_2, hf⟩
  · skip
    obtain ⟨r_4, G_3, hq_5, hf⟩ := zx_bd_some hf
    have hg := zv_call hg (v_P_middle G hq_5) (by decide) (by decide)
    exact zv_tr hg (v_E_look_98 x2 x3 x5 x6 x7 x8_1 r_4 G_3 hf)
  · skip
    exact zv_tr hg (v_E_look_98 x2 x3 x5 x6 x7 x8_1 x6 G hf)
theorem v_E_look_62 {r : Int32} {G1 : zx_G} (x2 x3 x5 x6 s0 : Int32) (G : zx_G) (hf : f_E_look_62 x2 x3 x5 x6 s0 G = some (r, G1)) : ∀ q k, q ∉ A_E_look → (q, k) ∉ O_E_look → G1 q k = G q k := by
  unfold f_E_look_62 at hf
  have hg : ∀ q k, q ∉ A_E_look → (q, k) ∉ O_E_look → G q k = G q k := fun _ _ _ _ => rfl
  obtain ⟨x7_1, ex7_1, hf⟩ := zx_lt_some hf
  rcases zx_if_some hf with ⟨hc_2, hf⟩ | ⟨hc_2, hf⟩
  · skip
    obtain ⟨r_4, G_3, hq_5, hf⟩ := zx_bd_some hf
    have hg := zv_call hg (v_P_middle G hq_5) (by decide) (by decide)
    exact zv_tr hg (v_E_look_80 x2 x3 x5 x6 x7_1 r_4 G_3 hf)
  · skip
    exact zv_tr hg (v_E_look_80 x2 x3 x5 x6 x7_1 x7_1 G hf)
theorem v_E_look_39 {r : Int32} {G1 : zx_G} (x2 x3 x5 s0 : Int32) (G : zx_G) (hf : f_E_look_39 x2 x3 x5 s0 G = some (r, G1)) : ∀ q k, q ∉ A_E_look → (q, k) ∉ O_E_look → G1 q k = G q k := by
  unfold f_E_look_39 at hf
  have hg : ∀ q k, q ∉ A_E_look → (q, k) ∉ O_E_look → G q k = G q k := fun _ _ _ _ => rfl
  obtain ⟨x6_1, ex6_1, hf⟩ := zx_lt_some hf
  rcases zx_if_some hf with ⟨hc_2, hf⟩ | ⟨hc_2, hf⟩
  · skip
    obtain ⟨r_4, G_3, hq_5, hf⟩ := zx_bd_some hf
    have hg := zv_call hg (v_P_middle G hq_5) (by decide) (by decide)
    exact zv_tr hg (v_E_look_62 x2 x3 x5 x6_1 r_4 G_3 hf)
  · skip
    obtain ⟨hb_6, hf⟩ := zx_gd_some hf
    exact zv_tr hg (v_E_look_62 x2 x3 x5 x6_1 (G 18 (Int32.toNatClampNeg (x5 - (1 : Int32)))) G hf)
theorem v_E_look_0 {r : Int32} {G1 : zx_G} (x1 x2 x3 : Int32) (G : zx_G) (hf : f_E_look x1 x2 x3 G = some (r, G1)) : ∀ q k, q ∉ A_E_look → (q, k) ∉ O_E_look → G1 q k = G q k := by
  unfold f_E_look at hf
  have hg : ∀ q k, q ∉ A_E_look → (q, k) ∉ O_E_look → G q k = G q k := fun _ _ _ _ => rfl
  obtain ⟨r_2, G_1, hq_3, hf⟩ := zx_bd_some hf
  have hg := zv_call hg (v_P_placeOf x1 x2 x3 G hq_3) (by decide) (by decide)
  obtain ⟨x5_4, ex5_4, hf⟩ := zx_lt_some hf
  rcases zx_if_some hf with ⟨hc_5, hf⟩ | ⟨hc_5, hf⟩
  · skip
    obtain ⟨r_7, G_6, hq_8, hf⟩ := zx_bd_some hf
    have hg := zv_call hg (v_P_middle G_1 hq_8) (by decide) (by decide)
    exact zv_tr hg (v_E_look_39 x2 x3 x5_4 r_7 G_6 hf)
  · skip
    obtain ⟨hb_9, hf⟩ := zx_gd_some hf
    exact zv_tr hg (v_E_look_39 x2 x3 x5_4 (G_1 18 (Int32.toNatClampNeg (x5_4 - (16 : Int32)))) G_1 hf)
theorem v_E_look (x1 x2 x3 : Int32) (G : zx_G) {r : Int32} {G1 : zx_G} (hf : f_E_look x1 x2 x3 G = some (r, G1)) : ∀ q k, q ∉ A_E_look → (q, k) ∉ O_E_look → G1 q k = G q k := v_E_look_0 x1 x2 x3 G hf
abbrev A_E_make : List Nat := [27, 28, 29]
abbrev O_E_make : List (Nat × Nat) := [(26, 4), (26, 5)]
theorem v_E_make_117 {r : Int32} {G1 : zx_G} (G : zx_G) (hf : f_E_make_117 G = some (r, G1)) : ∀ q k, q ∉ A_E_make → (q, k) ∉ O_E_make → G1 q k = G q k := by
  unfold f_E_make_117 at hf
  have hg : ∀ q k, q ∉ A_E_make → (q, k) ∉ O_E_make → G q k = G q k := fun _ _ _ _ => rfl
  exact zv_ret hg hf
theorem v_E_make_64 {r : Int32} {G1 : zx_G} : ∀ (n : Nat) (x2 x3 x4 x5 x6 : Int32) (G : zx_G), f_E_make_64 n x2 x3 x4 x5 x6 G = some (r, G1) → ∀ q k, q ∉ A_E_make → (q, k) ∉ O_E_make → G1 q k = G q k := by
  intro n
  induction n with
  | zero => intro x2 x3 x4 x5 x6 G hf; cases hf
  | succ n ih =>
    intro x2 x3 x4 x5 x6 G hf
    unfold f_E_make_64 at hf
    have hg : ∀ q k, q ∉ A_E_make → (q, k) ∉ O_E_make → G q k = G q k := fun _ _ _ _ => rfl
    rcases zx_if_some hf with ⟨hc_1, hf⟩ | ⟨hc_1, hf⟩
    · skip
      rcases zx_if_some hf with ⟨hc_2, hf⟩ | ⟨hc_2, hf⟩
      · skip
        exact zv_tr hg (v_E_make_117 G hf)
      · skip
        obtain ⟨r_4, G_3, hq_5, hf⟩ := zx_bd_some hf
        have hg := zv_call hg (v_P_placeOf (0 : Int32) x2 x3 G hq_5) (by decide) (by decide)
        obtain ⟨r_7, G_6, hq_8, hf⟩ := zx_bd_some hf
        have hg := zv_call hg (v_E_addShare r_4 x5 G_3 hq_8) (by decide) (by decide)
        exact zv_tr hg (v_E_make_117 G_6 hf)
    · skip
      obtain ⟨r_10, G_9, hq_11, hf⟩ := zx_bd_some hf
      have hg := zv_call hg (v_E_predicted x4 (x6 &&& (3 : Int32)) (x6 >>> ((2 : Int32) &&& 31)) G hq_11) (by decide) (by decide)
      obtain ⟨hb_12, hf⟩ := zx_gd_some hf
      obtain ⟨G_13, eG_13, hf⟩ := zx_lt_some hf
      have hg := zv_ua hg eG_13 (by decide)
      obtain ⟨x6_14, ex6_14, hf⟩ := zx_lt_some hf
      exact zv_tr hg (ih x2 x3 x4 x5 x6_14 G_13 hf)
theorem v_E_make_15 {r : Int32} {G1 : zx_G} : ∀ (n : Nat) (x2 x3 x4 x5 x6 : Int32) (G : zx_G), f_E_make_15 n x2 x3 x4 x5 x6 G = some (r, G1) → ∀ q k, q ∉ A_E_make → (q, k) ∉ O_E_make → G1 q k = G q k := by
  intro n
  induction n with
  | zero => intro x2 x3 x4 x5 x6 G hf; cases hf
  | succ n ih =>
    intro x2 x3 x4 x5 x6 G hf
    unfold f_E_make_15 at hf
    have hg : ∀ q k, q ∉ A_E_make → (q, k) ∉ O_E_make → G q k = G q k := fun _ _ _ _ => rfl
    rcases zx_if_some hf with ⟨hc_1, hf⟩ | ⟨hc_1, hf⟩
    · skip
      obtain ⟨G_2, eG_2, hf⟩ := zx_lt_some hf
      have hg := zv_uo hg eG_2 (by decide)
      obtain ⟨x6_3, ex6_3, hf⟩ := zx_lt_some hf
      exact zv_tr hg (v_E_make_64 2048 x2 x3 x4 x5 x6_3 G_2 hf)
    · skip
      obtain ⟨hb_4, hf⟩ := zx_gd_some hf
      obtain ⟨hb_5, hf⟩ := zx_gd_some hf
      obtain ⟨G_6, eG_6, hf⟩ := zx_lt_some hf
      have hg := zv_uo hg eG_6 (by decide)
      obtain ⟨x6_7, ex6_7, hf⟩ := zx_lt_some hf
      exact zv_tr hg (ih x2 x3 x4 x5 x6_7 G_6 hf)
theorem v_E_make_0 {r : Int32} {G1 : zx_G} (x1 x2 x3 x4 x5 : Int32) (G : zx_G) (hf : f_E_make x1 x2 x3 x4 x5 G = some (r, G1)) : ∀ q k, q ∉ A_E_make → (q, k) ∉ O_E_make → G1 q k = G q k := by
  unfold f_E_make at hf
  have hg : ∀ q k, q ∉ A_E_make → (q, k) ∉ O_E_make → G q k = G q k := fun _ _ _ _ => rfl
  obtain ⟨r_2, G_1, hq_3, hf⟩ := zx_bd_some hf
  have hg := zv_call hg (v_E_look x1 x2 x3 G hq_3) (by decide) (by decide)
  obtain ⟨G_4, eG_4, hf⟩ := zx_lt_some hf
  have hg := zv_uo hg eG_4 (by decide)
  obtain ⟨x6_5, ex6_5, hf⟩ := zx_lt_some hf
  exact zv_tr hg (v_E_make_15 2048 x2 x3 x4 x5 x6_5 G_4 hf)
theorem v_E_make (x1 x2 x3 x4 x5 : Int32) (G : zx_G) {r : Int32} {G1 : zx_G} (hf : f_E_make x1 x2 x3 x4 x5 G = some (r, G1)) : ∀ q k, q ∉ A_E_make → (q, k) ∉ O_E_make → G1 q k = G q k := v_E_make_0 x1 x2 x3 x4 x5 G hf
abbrev A_T_mend : List Nat := [18]
abbrev O_T_mend : List (Nat × Nat) := []
theorem v_T_mend_2 {r : Int32} {G1 : zx_G} : ∀ (n : Nat) (x1 x2 : Int32) (G : zx_G), f_T_mend_2 n x1 x2 G = some (r, G1) → ∀ q k, q ∉ A_T_mend → (q, k) ∉ O_T_mend → G1 q k = G q k := by
  intro n
  induction n with
  | zero => intro x1 x2 G hf; cases hf
  | succ n ih =>
    intro x1 x2 G hf
    unfold f_T_mend_2 at hf
    have hg : ∀ q k, q ∉ A_T_mend → (q, k) ∉ O_T_mend → G q k = G q k := fun _ _ _ _ => rfl
    rcases zx_if_some hf with ⟨hc_1, hf⟩ | ⟨hc_1, hf⟩
    · skip
      exact zv_ret hg hf
    · skip
      obtain ⟨x3_2, ex3_2, hf⟩ := zx_lt_some hf
      obtain ⟨hb_3, hf⟩ := zx_gd_some hf
      obtain ⟨hb_4, hf⟩ := zx_gd_some hf
      obtain ⟨r_6, G_5, hq_7, hf⟩ := zx_bd_some hf
      have hg := zv_call hg (v_P_limited ((G 27 (Int32.toNatClampNeg x2)) + (G 24 (Int32.toNatClampNeg x2))) G hq_7) (by decide) (by decide)
      obtain ⟨hb_8, hf⟩ := zx_gd_some hf
      obtain ⟨G_9, eG_9, hf⟩ := zx_lt_some hf
      have hg := zv_ua hg eG_9 (by decide)
      obtain ⟨x2_10, ex2_10, hf⟩ := zx_lt_some hf
      exact zv_tr hg (ih x1 x2_10 G_9 hf)
theorem v_T_mend_0 {r : Int32} {G1 : zx_G} (x1 : Int32) (G : zx_G) (hf : f_T_mend x1 G = some (r, G1)) : ∀ q k, q ∉ A_T_mend → (q, k) ∉ O_T_mend → G1 q k = G q k := by
  unfold f_T_mend at hf
  have hg : ∀ q k, q ∉ A_T_mend → (q, k) ∉ O_T_mend → G q k = G q k := fun _ _ _ _ => rfl
  obtain ⟨x2_1, ex2_1, hf⟩ := zx_lt_some hf
  exact zv_tr hg (v_T_mend_2 2048 x1 x2_1 G hf)
theorem v_T_mend (x1 : Int32) (G : zx_G) {r : Int32} {G1 : zx_G} (hf : f_T_mend x1 G = some (r, G1)) : ∀ q k, q ∉ A_T_mend → (q, k) ∉ O_T_mend → G1 q k = G q k := v_T_mend_0 x1 G hf
abbrev A_P_tellOf : List Nat := []
abbrev O_P_tellOf : List (Nat × Nat) := []
theorem v_P_tellOf_0 {r : Int32} {G1 : zx_G} (x1 x2 : Int32) (G : zx_G) (hf : f_P_tellOf x1 x2 G = some (r, G1)) : ∀ q k, q ∉ A_P_tellOf → (q, k) ∉ O_P_tellOf → G1 q k = G q k := by
  unfold f_P_tellOf at hf
  have hg : ∀ q k, q ∉ A_P_tellOf → (q, k) ∉ O_P_tellOf → G q k = G q k := fun _ _ _ _ => rfl
  obtain ⟨hb_1, hf⟩ := zx_gd_some hf
  exact zv_ret hg hf
theorem v_P_tellOf (x1 x2 : Int32) (G : zx_G) {r : Int32} {G1 : zx_G} (hf : f_P_tellOf x1 x2 G = some (r, G1)) : ∀ q k, q ∉ A_P_tellOf → (q, k) ∉ O_P_tellOf → G1 q k = G q k := v_P_tellOf_0 x1 x2 G hf
abbrev A_T_readUnits : List Nat := [15, 16, 18, 24, 25, 27, 28, 29]
abbrev O_T_readUnits : List (Nat × Nat) := [(14, 6), (14, 7), (14, 8), (14, 9), (26, 4), (26, 5)]
theorem v_T_readUnits_152 {r : Int32} {G1 : zx_G} {k47 : Int32 → Int32 → Int32 → Int32 → Int32 → Int32 → Int32 → zx_G → Option (Int32 × zx_G)} (hk47 : ∀ (x1 x2 x3 x5 x6 x7 x8 : Int32) (G : zx_G), k47 x1 x2 x3 x5 x6 x7 x8 G = some (r, G1) → ∀ q k, q ∉ A_T_readUnits → (q, k) ∉ O_T_readUnits → G1 q k = G q k) (x1 x2 x3 x5 x6 x7 x8 : Int32) (G : zx_G) (hf : f_T_readUnits_152 k47 x1 x2 x3 x5 x6 x7 x8 G = some (r, G1)) : ∀ q k, q ∉ A_T_readUnits → (q, k) ∉ O_T_readUnits → G1 q k = G q k := by
  unfold f_T_readUnits_152 at hf
  have hg : ∀ q k, q ∉ A_T_readUnits → (q, k) ∉ O_T_readUnits → G q k = G q k := fun _ _ _ _ => rfl
  obtain ⟨x8_1, ex8_1, hf⟩ := zx_lt_some hf
  exact zv_tr hg (hk47 x1 x2 x3 x5 x6 x7 x8_1 G hf)
theorem v_T_readUnits_71 {r : Int32} {G1 : zx_G} {k47 : Int32 → Int32 → Int32 → Int32 → Int32 → Int32 → Int32 → zx_G → Option (Int32 × zx_G)} (hk47 : ∀ (x1 x2 x3 x5 x6 x7 x8 : Int32) (G : zx_G), k47 x1 x2 x3 x5 x6 x7 x8 G = some (r, G1) → ∀ q k, q ∉ A_T_readUnits → (q, k) ∉ O_T_readUnits → G1 q k = G q k) : ∀ (n : Nat) (x1 x2 x3 x5 x6 x7 x8 x9 : Int32) (G : zx_G), f_T_readUnits_71 k47 n x1 x2 x3 x5 x6 x7 x8 x9 G = some (r, G1) → ∀ q k, q ∉ A_T_readUnits → (q, k) ∉ O_T_readUnits → G1 q k = G q k := by
  intro n
  induction n with
  | zero => intro x1 x2 x3 x5 x6 x7 x8 x9 G hf; cases hf
  | succ n ih =>
    intro x1 x2 x3 x5 x6 x7 x8 x9 G hf
    unfold f_T_readUnits_71 at hf
    have hg : ∀ q k, q ∉ A_T_readUnits → (q, k) ∉ O_T_readUnits → G q k = G q k := fun _ _ _ _ => rfl
    rcases zx_if_some hf with ⟨hc_1, hf⟩ | ⟨hc_1, hf⟩
    · skip
      exact zv_tr hg (v_T_readUnits_152 hk47 x1 x2 x3 x5 x6 x7 x8 G hf)
    · skip
      rcases zx_if_some hf with ⟨hc_2, hf⟩ | ⟨hc_2, hf⟩
      · skip
        exact zv_tr hg (v_T_readUnits_152 hk47 x1 x2 x3 x5 x6 x7 x8 G hf)
      · skip
        obtain ⟨r_4, G_3, hq_5, hf⟩ := zx_bd_some hf
        have hg := zv_call hg (v_D_read x1 (G 11 10) x7 G hq_5) (by decide) (by decide)
        rcases zx_if_some hf with ⟨hc_6, hf⟩ | ⟨hc_6, hf⟩
        · skip
          obtain ⟨hb_7, hf⟩ := zx_gd_some hf
          obtain ⟨r_9, G_8, hq_10, hf⟩ := zx_bd_some hf
          have hg := zv_call hg (v_E_make x1 x9 x8 x6 (G_3 22 (Int32.toNatClampNeg x1)) G_3 hq_10) (by decide) (by decide)
          obtain ⟨r_12, G_11, hq_13, hf⟩ := zx_bd_some hf
          have hg := zv_call hg (v_P_placeOf x1 x9 x8 G_8 hq_13) (by decide) (by decide)
          obtain ⟨r_15, G_14, hq_16, hf⟩ := zx_bd_some hf
          have hg := zv_call hg (v_T_mend r_12 G_11 hq_16) (by decide) (by decide)
          obtain ⟨x9_17, ex9_17, hf⟩ := zx_lt_some hf
          exact zv_tr hg (ih x1 x2 x3 x5 x6 x7 x8 x9_17 G_14 hf)
        · skip
          obtain ⟨hb_18, hf⟩ := zx_gd_some hf
          exact zv_ret hg hf
theorem v_T_readUnits_158 {r : Int32} {G1 : zx_G} (G : zx_G) (hf : f_T_readUnits_158 G = some (r, G1)) : ∀ q k, q ∉ A_T_readUnits → (q, k) ∉ O_T_readUnits → G1 q k = G q k := by
  unfold f_T_readUnits_158 at hf
  have hg : ∀ q k, q ∉ A_T_readUnits → (q, k) ∉ O_T_readUnits → G q k = G q k := fun _ _ _ _ => rfl
  obtain ⟨hb_1, hf⟩ := zx_gd_some hf
  exact zv_ret hg hf
theorem v_T_readUnits_47 {r : Int32} {G1 : zx_G} : ∀ (n : Nat) (x1 x2 x3 x5 x6 x7 x8 : Int32) (G : zx_G), f_T_readUnits_47 n x1 x2 x3 x5 x6 x7 x8 G = some (r, G1) → ∀ q k, q ∉ A_T_readUnits → (q, k) ∉ O_T_readUnits → G1 q k = G q k := by
  intro n
  induction n with
  | zero => intro x1 x2 x3 x5 x6 x7 x8 G hf; cases hf
  | succ n ih =>
    intro x1 x2 x3 x5 x6 x7 x8 G hf
    unfold f_T_readUnits_47 at hf
    have hg : ∀ q k, q ∉ A_T_readUnits → (q, k) ∉ O_T_readUnits → G q k = G q k := fun _ _ _ _ => rfl
    rcases zx_if_some hf with ⟨hc_1, hf⟩ | ⟨hc_1, hf⟩
    · skip
      exact zv_tr hg (v_T_readUnits_158 G hf)
    · skip
      rcases zx_if_some hf with ⟨hc_2, hf⟩ | ⟨hc_2, hf⟩
      · skip
        exact zv_tr hg (v_T_readUnits_158 G hf)
      · skip
        obtain ⟨x9_3, ex9_3, hf⟩ := zx_lt_some hf
        exact zv_tr hg (v_T_readUnits_71 ih 2048 x1 x2 x3 x5 x6 x7 x8 x9_3 G hf)
theorem v_T_readUnits_27 {r : Int32} {G1 : zx_G} (x1 x2 x3 x4 x5 s1 s2 : Int32) (G : zx_G) (hf : f_T_readUnits_27 x1 x2 x3 x4 x5 s1 s2 G = some (r, G1)) : ∀ q k, q ∉ A_T_readUnits → (q, k) ∉ O_T_readUnits → G1 q k = G q k := by
  unfold f_T_readUnits_27 at hf
  have hg : ∀ q k, q ∉ A_T_readUnits → (q, k) ∉ O_T_readUnits → G q k = G q k := fun _ _ _ _ => rfl
  obtain ⟨r_2, G_1, hq_3, hf⟩ := zx_bd_some hf
  have hg := zv_call hg (v_P_tellOf s1 s2 G hq_3) (by decide) (by decide)
  obtain ⟨x6_4, ex6_4, hf⟩ := zx_lt_some hf
  obtain ⟨r_6, G_5, hq_7, hf⟩ := zx_bd_some hf
  have hg := zv_call hg (v_P_tellOf x4 (3 : Int32) G_1 hq_7) (by decide) (by decide)
  obtain ⟨x7_8, ex7_8, hf⟩ := zx_lt_some hf
  obtain ⟨x8_9, ex8_9, hf⟩ := zx_lt_some hf
  exact zv_tr hg (v_T_readUnits_47 2048 x1 x2 x3 x5 x6_4 x7_8 x8_9 G_5 hf)
theorem v_T_readUnits_0 {r : Int32} {G1 : zx_G} (x1 x2 x3 x4 : Int32) (G : zx_G) (hf : f_T_readUnits x1 x2 x3 x4 G = some (r, G1)) : ∀ q k, q ∉ A_T_readUnits → (q, k) ∉ O_T_readUnits → G1 q k = G q k := by
  unfold f_T_readUnits at hf
  have hg : ∀ q k, q ∉ A_T_readUnits → (q, k) ∉ O_T_readUnits → G q k = G q k := fun _ _ _ _ => rfl
  obtain ⟨r_2, G_1, hq_3, hf⟩ := zx_bd_some hf
  have hg := zv_call hg (v_P_tellOf x4 (0 : Int32) G hq_3) (by decide) (by decide)
  obtain ⟨x5_4, ex5_4, hf⟩ := zx_lt_some hf
  rcases zx_if_some hf with ⟨hc_5, hf⟩ | ⟨hc_5, hf⟩
  · skip
    exact zv_tr hg (v_T_readUnits_27 x1 x2 x3 x4 x5_4 x4 (2 : Int32) G_1 hf)
  · skip
    exact zv_tr hg (v_T_readUnits_27 x1 x2 x3 x4 x5_4 x4 (1 : Int32) G_1 hf)
theorem v_T_readUnits (x1 x2 x3 x4 : Int32) (G : zx_G) {r : Int32} {G1 : zx_G} (hf : f_T_readUnits x1 x2 x3 x4 G = some (r, G1)) : ∀ q k, q ∉ A_T_readUnits → (q, k) ∉ O_T_readUnits → G1 q k = G q k := v_T_readUnits_0 x1 x2 x3 x4 G hf
abbrev A_T_readSide : List Nat := [15, 16]
abbrev O_T_readSide : List (Nat × Nat) := [(14, 6), (14, 7), (14, 8), (14, 9)]
theorem v_T_readSide_38 {r : Int32} {G1 : zx_G} (G : zx_G) (hf : f_T_readSide_38 G = some (r, G1)) : ∀ q k, q ∉ A_T_readSide → (q, k) ∉ O_T_readSide → G1 q k = G q k := by
  unfold f_T_readSide_38 at hf
  have hg : ∀ q k, q ∉ A_T_readSide → (q, k) ∉ O_T_readSide → G q k = G q k := fun _ _ _ _ => rfl
  exact zv_ret hg hf
theorem v_T_readSide_18 {r : Int32} {G1 : zx_G} (x1 : Int32) (G : zx_G) (hf : f_T_readSide_18 x1 G = some (r, G1)) : ∀ q k, q ∉ A_T_readSide → (q, k) ∉ O_T_readSide → G1 q k = G q k := by
  unfold f_T_readSide_18 at hf
  have hg : ∀ q k, q ∉ A_T_readSide → (q, k) ∉ O_T_readSide → G q k = G q k := fun _ _ _ _ => rfl
  rcases zx_if_some hf with ⟨hc_1, hf⟩ | ⟨hc_1, hf⟩
  · skip
    exact zv_tr hg (v_T_readSide_38 G hf)
  · skip
    obtain ⟨r_3, G_2, hq_4, hf⟩ := zx_bd_some hf
    have hg := zv_call hg (v_C_readSymbol (1 : Int32) G hq_4) (by decide) (by decide)
    rcases zx_if_some hf with ⟨hc_5, hf⟩ | ⟨hc_5, hf⟩
    · skip
      exact zv_tr hg (v_T_readSide_38 G_2 hf)
    · skip
      exact zv_ret hg hf
theorem v_T_readSide_0 {r : Int32} {G1 : zx_G} (x1 : Int32) (G : zx_G) (hf : f_T_readSide x1 G = some (r, G1)) : ∀ q k, q ∉ A_T_readSide → (q, k) ∉ O_T_readSide → G1 q k = G q k := by
  unfold f_T_readSide at hf
  have hg : ∀ q k, q ∉ A_T_readSide → (q, k) ∉ O_T_readSide → G q k = G q k := fun _ _ _ _ => rfl
  rcases zx_if_some hf with ⟨hc_1, hf⟩ | ⟨hc_1, hf⟩
  · skip
    exact zv_tr hg (v_T_readSide_18 x1 G hf)
  · skip
    obtain ⟨r_3, G_2, hq_4, hf⟩ := zx_bd_some hf
    have hg := zv_call hg (v_C_readSymbol (0 : Int32) G hq_4) (by decide) (by decide)
    rcases zx_if_some hf with ⟨hc_5, hf⟩ | ⟨hc_5, hf⟩
    · skip
      exact zv_tr hg (v_T_readSide_18 x1 G_2 hf)
    · skip
      exact zv_ret hg hf
theorem v_T_readSide (x1 : Int32) (G : zx_G) {r : Int32} {G1 : zx_G} (hf : f_T_readSide x1 G = some (r, G1)) : ∀ q k, q ∉ A_T_readSide → (q, k) ∉ O_T_readSide → G1 q k = G q k := v_T_readSide_0 x1 G hf
abbrev A_P_tell : List Nat := [20]
abbrev O_P_tell : List (Nat × Nat) := []
theorem v_P_tell_0 {r : Int32} {G1 : zx_G} (x1 x2 x3 : Int32) (G : zx_G) (hf : f_P_tell x1 x2 x3 G = some (r, G1)) : ∀ q k, q ∉ A_P_tell → (q, k) ∉ O_P_tell → G1 q k = G q k := by
  unfold f_P_tell at hf
  have hg : ∀ q k, q ∉ A_P_tell → (q, k) ∉ O_P_tell → G q k = G q k := fun _ _ _ _ => rfl
  obtain ⟨hb_1, hf⟩ := zx_gd_some hf
  obtain ⟨G_2, eG_2, hf⟩ := zx_lt_some hf
  have hg := zv_ua hg eG_2 (by decide)
  exact zv_ret hg hf
theorem v_P_tell (x1 x2 x3 : Int32) (G : zx_G) {r : Int32} {G1 : zx_G} (hf : f_P_tell x1 x2 x3 G = some (r, G1)) : ∀ q k, q ∉ A_P_tell → (q, k) ∉ O_P_tell → G1 q k = G q k := v_P_tell_0 x1 x2 x3 G hf
abbrev A_P_addBlock : List Nat := [19]
abbrev O_P_addBlock : List (Nat × Nat) := [(17, 3)]
theorem v_P_addBlock_20 {r : Int32} {G1 : zx_G} {k9 : Int32 → Int32 → Int32 → Int32 → Int32 → zx_G → Option (Int32 × zx_G)} (hk9 : ∀ (x1 x2 x3 x4 x5 : Int32) (G : zx_G), k9 x1 x2 x3 x4 x5 G = some (r, G1) → ∀ q k, q ∉ A_P_addBlock → (q, k) ∉ O_P_addBlock → G1 q k = G q k) : ∀ (n : Nat) (x1 x2 x3 x4 x5 x6 : Int32) (G : zx_G), f_P_addBlock_20 k9 n x1 x2 x3 x4 x5 x6 G = some (r, G1) → ∀ q k, q ∉ A_P_addBlock → (q, k) ∉ O_P_addBlock → G1 q k = G q k := by
  intro n
  induction n with
  | zero => intro x1 x2 x3 x4 x5 x6 G hf; cases hf
  | succ n ih =>
    intro x1 x2 x3 x4 x5 x6 G hf
    unfold f_P_addBlock_20 at hf
    have hg : ∀ q k, q ∉ A_P_addBlock → (q, k) ∉ O_P_addBlock → G q k = G q k := fun _ _ _ _ => rfl
    rcases zx_if_some hf with ⟨hc_1, hf⟩ | ⟨hc_1, hf⟩
    · skip
      obtain ⟨x5_2, ex5_2, hf⟩ := zx_lt_some hf
      exact zv_tr hg (hk9 x1 x2 x3 x4 x5_2 G hf)
    · skip
      obtain ⟨hb_3, hf⟩ := zx_gd_some hf
      obtain ⟨G_4, eG_4, hf⟩ := zx_lt_some hf
      have hg := zv_ua hg eG_4 (by decide)
      obtain ⟨x6_5, ex6_5, hf⟩ := zx_lt_some hf
      exact zv_tr hg (ih x1 x2 x3 x4 x5 x6_5 G_4 hf)
theorem v_P_addBlock_9 {r : Int32} {G1 : zx_G} : ∀ (n : Nat) (x1 x2 x3 x4 x5 : Int32) (G : zx_G), f_P_addBlock_9 n x1 x2 x3 x4 x5 G = some (r, G1) → ∀ q k, q ∉ A_P_addBlock → (q, k) ∉ O_P_addBlock → G1 q k = G q k := by
  intro n
  induction n with
  | zero => intro x1 x2 x3 x4 x5 G hf; cases hf
  | succ n ih =>
    intro x1 x2 x3 x4 x5 G hf
    unfold f_P_addBlock_9 at hf
    have hg : ∀ q k, q ∉ A_P_addBlock → (q, k) ∉ O_P_addBlock → G q k = G q k := fun _ _ _ _ => rfl
    rcases zx_if_some hf with ⟨hc_1, hf⟩ | ⟨hc_1, hf⟩
    · skip
      obtain ⟨G_2, eG_2, hf⟩ := zx_lt_some hf
      have hg := zv_uo hg eG_2 (by decide)
      exact zv_ret hg hf
    · skip
      obtain ⟨x6_3, ex6_3, hf⟩ := zx_lt_some hf
      exact zv_tr hg (v_P_addBlock_20 ih 2048 x1 x2 x3 x4 x5 x6_3 G hf)
theorem v_P_addBlock_0 {r : Int32} {G1 : zx_G} (x1 x2 x3 : Int32) (G : zx_G) (hf : f_P_addBlock x1 x2 x3 G = some (r, G1)) : ∀ q k, q ∉ A_P_addBlock → (q, k) ∉ O_P_addBlock → G1 q k = G q k := by
  unfold f_P_addBlock at hf
  have hg : ∀ q k, q ∉ A_P_addBlock → (q, k) ∉ O_P_addBlock → G q k = G q k := fun _ _ _ _ => rfl
  obtain ⟨x4_1, ex4_1, hf⟩ := zx_lt_some hf
  obtain ⟨x5_2, ex5_2, hf⟩ := zx_lt_some hf
  exact zv_tr hg (v_P_addBlock_9 2048 x1 x2 x3 x4_1 x5_2 G hf)
theorem v_P_addBlock (x1 x2 x3 : Int32) (G : zx_G) {r : Int32} {G1 : zx_G} (hf : f_P_addBlock x1 x2 x3 G = some (r, G1)) : ∀ q k, q ∉ A_P_addBlock → (q, k) ∉ O_P_addBlock → G1 q k = G q k := v_P_addBlock_0 x1 x2 x3 G hf
abbrev A_T_readBlock : List Nat := [15, 16, 19, 20, 22]
abbrev O_T_readBlock : List (Nat × Nat) := [(14, 6), (14, 7), (14, 8), (14, 9), (17, 3)]
theorem v_T_readBlock_190 {r : Int32} {G1 : zx_G} {k156 : Int32 → Int32 → Int32 → zx_G → Option (Int32 × zx_G)} (hk156 : ∀ (x6 x7 x8 : Int32) (G : zx_G), k156 x6 x7 x8 G = some (r, G1) → ∀ q k, q ∉ A_T_readBlock → (q, k) ∉ O_T_readBlock → G1 q k = G q k) (x6 x7 x8 s1 s2 : Int32) (G : zx_G) (hf : f_T_readBlock_190 k156 x6 x7 x8 s1 s2 G = some (r, G1)) : ∀ q k, q ∉ A_T_readBlock → (q, k) ∉ O_T_readBlock → G1 q k = G q k := by
  unfold f_T_readBlock_190 at hf
  have hg : ∀ q k, q ∉ A_T_readBlock → (q, k) ∉ O_T_readBlock → G q k = G q k := fun _ _ _ _ => rfl
  obtain ⟨hb_1, hf⟩ := zx_gd_some hf
  obtain ⟨G_2, eG_2, hf⟩ := zx_lt_some hf
  have hg := zv_ua hg eG_2 (by decide)
  obtain ⟨x8_3, ex8_3, hf⟩ := zx_lt_some hf
  exact zv_tr hg (hk156 x6 x7 x8_3 G_2 hf)
theorem v_T_readBlock_227 {r : Int32} {G1 : zx_G} (x6 s1 s2 s3 : Int32) (G : zx_G) (hf : f_T_readBlock_227 x6 s1 s2 s3 G = some (r, G1)) : ∀ q k, q ∉ A_T_readBlock → (q, k) ∉ O_T_readBlock → G1 q k = G q k := by
  unfold f_T_readBlock_227 at hf
  have hg : ∀ q k, q ∉ A_T_readBlock → (q, k) ∉ O_T_readBlock → G q k = G q k := fun _ _ _ _ => rfl
  obtain ⟨r_2, G_1, hq_3, hf⟩ := zx_bd_some hf
  have hg := zv_call hg (v_P_tell s1 s2 s3 G hq_3) (by decide) (by decide)
  exact zv_ret hg hf
theorem v_T_readBlock_156 {r : Int32} {G1 : zx_G} : ∀ (n : Nat) (x6 x7 x8 : Int32) (G : zx_G), f_T_readBlock_156 n x6 x7 x8 G = some (r, G1) → ∀ q k, q ∉ A_T_readBlock → (q, k) ∉ O_T_readBlock → G1 q k = G q k := by
  intro n
  induction n with
  | zero => intro x6 x7 x8 G hf; cases hf
  | succ n ih =>
    intro x6 x7 x8 G hf
    unfold f_T_readBlock_156 at hf
    have hg : ∀ q k, q ∉ A_T_readBlock → (q, k) ∉ O_T_readBlock → G q k = G q k := fun _ _ _ _ => rfl
    rcases zx_if_some hf with ⟨hc_1, hf⟩ | ⟨hc_1, hf⟩
    · skip
      rcases zx_if_some hf with ⟨hc_2, hf⟩ | ⟨hc_2, hf⟩
      · skip
        exact zv_tr hg (v_T_readBlock_227 x6 x6 (3 : Int32) (0 : Int32) G hf)
      · skip
        obtain ⟨r_4, G_3, hq_5, hf⟩ := zx_bd_some hf
        have hg := zv_call hg (v_C_readSymbol (10 : Int32) G hq_5) (by decide) (by decide)
        exact zv_tr hg (v_T_readBlock_227 x6 x6 (3 : Int32) r_4 G_3 hf)
    · skip
      rcases zx_if_some hf with ⟨hc_6, hf⟩ | ⟨hc_6, hf⟩
      · skip
        exact zv_tr hg (v_T_readBlock_190 ih x6 x7 x8 x8 (0 : Int32) G hf)
      · skip
        obtain ⟨r_8, G_7, hq_9, hf⟩ := zx_bd_some hf
        have hg := zv_call hg (v_C_readSymbol (7 : Int32) G hq_9) (by decide) (by decide)
        exact zv_tr hg (v_T_readBlock_190 ih x6 x7 x8 x8 (r_8 - (3 : Int32)) G_7 hf)
theorem v_T_readBlock_139 {r : Int32} {G1 : zx_G} (x6 s0 : Int32) (G : zx_G) (hf : f_T_readBlock_139 x6 s0 G = some (r, G1)) : ∀ q k, q ∉ A_T_readBlock → (q, k) ∉ O_T_readBlock → G1 q k = G q k := by
  unfold f_T_readBlock_139 at hf
  have hg : ∀ q k, q ∉ A_T_readBlock → (q, k) ∉ O_T_readBlock → G q k = G q k := fun _ _ _ _ => rfl
  obtain ⟨x7_1, ex7_1, hf⟩ := zx_lt_some hf
  obtain ⟨r_3, G_2, hq_4, hf⟩ := zx_bd_some hf
  have hg := zv_call hg (v_P_tell x6 (2 : Int32) x7_1 G hq_4) (by decide) (by decide)
  obtain ⟨x8_5, ex8_5, hf⟩ := zx_lt_some hf
  exact zv_tr hg (v_T_readBlock_156 2048 x6 x7_1 x8_5 G_2 hf)
theorem v_T_readBlock_64 {r : Int32} {G1 : zx_G} (x1 x2 x3 x4 s0 : Int32) (G : zx_G) (hf : f_T_readBlock_64 x1 x2 x3 x4 s0 G = some (r, G1)) : ∀ q k, q ∉ A_T_readBlock → (q, k) ∉ O_T_readBlock → G1 q k = G q k := by
  unfold f_T_readBlock_64 at hf
  have hg : ∀ q k, q ∉ A_T_readBlock → (q, k) ∉ O_T_readBlock → G q k = G q k := fun _ _ _ _ => rfl
  obtain ⟨x5_1, ex5_1, hf⟩ := zx_lt_some hf
  obtain ⟨r_3, G_2, hq_4, hf⟩ := zx_bd_some hf
  have hg := zv_call hg (v_P_addBlock x1 x2 x3 G hq_4) (by decide) (by decide)
  obtain ⟨x6_5, ex6_5, hf⟩ := zx_lt_some hf
  obtain ⟨r_7, G_6, hq_8, hf⟩ := zx_bd_some hf
  have hg := zv_call hg (v_P_tell x6_5 (0 : Int32) x3 G_2 hq_8) (by decide) (by decide)
  obtain ⟨r_10, G_9, hq_11, hf⟩ := zx_bd_some hf
  have hg := zv_call hg (v_C_readSymbol (((2 : Int32) + x4) + ((2 : Int32) * x5_1)) G_6 hq_11) (by decide) (by decide)
  obtain ⟨r_13, G_12, hq_14, hf⟩ := zx_bd_some hf
  have hg := zv_call hg (v_P_tell x6_5 (1 : Int32) r_10 G_9 hq_14) (by decide) (by decide)
  rcases zx_if_some hf with ⟨hc_15, hf⟩ | ⟨hc_15, hf⟩
  · skip
    exact zv_tr hg (v_T_readBlock_139 x6_5 (0 : Int32) G_12 hf)
  · skip
    obtain ⟨r_17, G_16, hq_18, hf⟩ := zx_bd_some hf
    have hg := zv_call hg (v_C_readSymbol (6 : Int32) G_12 hq_18) (by decide) (by decide)
    exact zv_tr hg (v_T_readBlock_139 x6_5 r_17 G_16 hf)
theorem v_T_readBlock_63 {r : Int32} {G1 : zx_G} (x1 x2 x3 x4 : Int32) (G : zx_G) (hf : f_T_readBlock_63 x1 x2 x3 x4 G = some (r, G1)) : ∀ q k, q ∉ A_T_readBlock → (q, k) ∉ O_T_readBlock → G1 q k = G q k := by
  unfold f_T_readBlock_63 at hf
  have hg : ∀ q k, q ∉ A_T_readBlock → (q, k) ∉ O_T_readBlock → G q k = G q k := fun _ _ _ _ => rfl
  exact zv_tr hg (v_T_readBlock_64 x1 x2 x3 x4 (0 : Int32) G hf)
theorem v_T_readBlock_31 {r : Int32} {G1 : zx_G} (x1 x2 x3 s0 : Int32) (G : zx_G) (hf : f_T_readBlock_31 x1 x2 x3 s0 G = some (r, G1)) : ∀ q k, q ∉ A_T_readBlock → (q, k) ∉ O_T_readBlock → G1 q k = G q k := by
  unfold f_T_readBlock_31 at hf
  have hg : ∀ q k, q ∉ A_T_readBlock → (q, k) ∉ O_T_readBlock → G q k = G q k := fun _ _ _ _ => rfl
  obtain ⟨x4_1, ex4_1, hf⟩ := zx_lt_some hf
  rcases zx_if_some hf with ⟨hc_2, hf⟩ | ⟨hc_2, hf⟩
  · skip
    exact zv_tr hg (v_T_readBlock_63 x1 x2 x3 x4_1 G hf)
  · skip
    obtain ⟨r_4, G_3, hq_5, hf⟩ := zx_bd_some hf
    have hg := zv_call hg (v_P_ownerAt (x1 - (1 : Int32)) x2 G hq_5) (by decide) (by decide)
    obtain ⟨r_7, G_6, hq_8, hf⟩ := zx_bd_some hf
    have hg := zv_call hg (v_P_tellOf r_4 (1 : Int32) G_3 hq_8) (by decide) (by decide)
    rcases zx_if_some hf with ⟨hc_9, hf⟩ | ⟨hc_9, hf⟩
    · skip
      exact zv_tr hg (v_T_readBlock_63 x1 x2 x3 x4_1 G_6 hf)
    · skip
      exact zv_tr hg (v_T_readBlock_64 x1 x2 x3 x4_1 (1 : Int32) G_6 hf)
theorem v_T_readBlock_30 {r : Int32} {G1 : zx_G} (x1 x2 x3 : Int32) (G : zx_G) (hf : f_T_readBlock_30 x1 x2 x3 G = some (r, G1)) : ∀ q k, q ∉ A_T_readBlock → (q, k) ∉ O_T_readBlock → G1 q k = G q k := by
  unfold f_T_readBlock_30 at hf
  have hg : ∀ q k, q ∉ A_T_readBlock → (q, k) ∉ O_T_readBlock → G q k = G q k := fun _ _ _ _ => rfl
  exact zv_tr hg (v_T_readBlock_31 x1 x2 x3 (0 : Int32) G hf)
theorem v_T_readBlock_0 {r : Int32} {G1 : zx_G} (x1 x2 x3 : Int32) (G : zx_G) (hf : f_T_readBlock x1 x2 x3 G = some (r, G1)) : ∀ q k, q ∉ A_T_readBlock → (q, k) ∉ O_T_readBlock → G1 q k = G q k := by
  unfold f_T_readBlock at hf
  have hg : ∀ q k, q ∉ A_T_readBlock → (q, k) ∉ O_T_readBlock → G q k = G q k := fun _ _ _ _ => rfl
  rcases zx_if_some hf with ⟨hc_1, hf⟩ | ⟨hc_1, hf⟩
  · skip
    exact zv_tr hg (v_T_readBlock_30 x1 x2 x3 G hf)
  · skip
    obtain ⟨r_3, G_2, hq_4, hf⟩ := zx_bd_some hf
    have hg := zv_call hg (v_P_ownerAt x1 (x2 - (1 : Int32)) G hq_4) (by decide) (by decide)
    obtain ⟨r_6, G_5, hq_7, hf⟩ := zx_bd_some hf
    have hg := zv_call hg (v_P_tellOf r_3 (1 : Int32) G_2 hq_7) (by decide) (by decide)
    rcases zx_if_some hf with ⟨hc_8, hf⟩ | ⟨hc_8, hf⟩
    · skip
      exact zv_tr hg (v_T_readBlock_30 x1 x2 x3 G_5 hf)
    · skip
      exact zv_tr hg (v_T_readBlock_31 x1 x2 x3 (1 : Int32) G_5 hf)
theorem v_T_readBlock (x1 x2 x3 : Int32) (G : zx_G) {r : Int32} {G1 : zx_G} (hf : f_T_readBlock x1 x2 x3 G = some (r, G1)) : ∀ q k, q ∉ A_T_readBlock → (q, k) ∉ O_T_readBlock → G1 q k = G q k := v_T_readBlock_0 x1 x2 x3 G hf
abbrev A_A_fill_16 : List Nat := [16]
abbrev O_A_fill_16 : List (Nat × Nat) := []
theorem v_A_fill_16_5 {r : Int32} {G1 : zx_G} : ∀ (n : Nat) (x1 x2 x3 : Int32) (G : zx_G), f_A_fill_16_5 n x1 x2 x3 G = some (r, G1) → ∀ q k, q ∉ A_A_fill_16 → (q, k) ∉ O_A_fill_16 → G1 q k = G q k := by
  intro n
  induction n with
  | zero => intro x1 x2 x3 G hf; cases hf
  | succ n ih =>
    intro x1 x2 x3 G hf
    unfold f_A_fill_16_5 at hf
    have hg : ∀ q k, q ∉ A_A_fill_16 → (q, k) ∉ O_A_fill_16 → G q k = G q k := fun _ _ _ _ => rfl
    rcases zx_if_some hf with ⟨hc_1, hf⟩ | ⟨hc_1, hf⟩
    · skip
      exact zv_ret hg hf
    · skip
      obtain ⟨hb_2, hf⟩ := zx_gd_some hf
      obtain ⟨G_3, eG_3, hf⟩ := zx_lt_some hf
      have hg := zv_ua hg eG_3 (by decide)
      obtain ⟨x2_4, ex2_4, hf⟩ := zx_lt_some hf
      exact zv_tr hg (ih x1 x2_4 x3 G_3 hf)
theorem v_A_fill_16_0 {r : Int32} {G1 : zx_G} (x1 : Int32) (G : zx_G) (hf : f_A_fill_16 x1 G = some (r, G1)) : ∀ q k, q ∉ A_A_fill_16 → (q, k) ∉ O_A_fill_16 → G1 q k = G q k := by
  unfold f_A_fill_16 at hf
  have hg : ∀ q k, q ∉ A_A_fill_16 → (q, k) ∉ O_A_fill_16 → G q k = G q k := fun _ _ _ _ => rfl
  obtain ⟨x2_1, ex2_1, hf⟩ := zx_lt_some hf
  obtain ⟨x3_2, ex3_2, hf⟩ := zx_lt_some hf
  exact zv_tr hg (v_A_fill_16_5 2048 x1 x2_1 x3_2 G hf)
theorem v_A_fill_16 (x1 : Int32) (G : zx_G) {r : Int32} {G1 : zx_G} (hf : f_A_fill_16 x1 G = some (r, G1)) : ∀ q k, q ∉ A_A_fill_16 → (q, k) ∉ O_A_fill_16 → G1 q k = G q k := v_A_fill_16_0 x1 G hf
abbrev A_C_start : List Nat := [15, 16]
abbrev O_C_start : List (Nat × Nat) := [(14, 3), (14, 4), (14, 5), (14, 6), (14, 7), (14, 8), (14, 9)]
theorem v_C_start_53 {r : Int32} {G1 : zx_G} {k43 : Int32 → zx_G → Option (Int32 × zx_G)} (hk43 : ∀ (x4 : Int32) (G : zx_G), k43 x4 G = some (r, G1) → ∀ q k, q ∉ A_C_start → (q, k) ∉ O_C_start → G1 q k = G q k) : ∀ (n : Nat) (x4 x5 : Int32) (G : zx_G), f_C_start_53 k43 n x4 x5 G = some (r, G1) → ∀ q k, q ∉ A_C_start → (q, k) ∉ O_C_start → G1 q k = G q k := by
  intro n
  induction n with
  | zero => intro x4 x5 G hf; cases hf
  | succ n ih =>
    intro x4 x5 G hf
    unfold f_C_start_53 at hf
    have hg : ∀ q k, q ∉ A_C_start → (q, k) ∉ O_C_start → G q k = G q k := fun _ _ _ _ => rfl
    obtain ⟨hb_1, hf⟩ := zx_gd_some hf
    rcases zx_if_some hf with ⟨hc_2, hf⟩ | ⟨hc_2, hf⟩
    · skip
      obtain ⟨x4_3, ex4_3, hf⟩ := zx_lt_some hf
      exact zv_tr hg (hk43 x4_3 G hf)
    · skip
      obtain ⟨hb_4, hf⟩ := zx_gd_some hf
      obtain ⟨hb_5, hf⟩ := zx_gd_some hf
      obtain ⟨hb_6, hf⟩ := zx_gd_some hf
      obtain ⟨G_7, eG_7, hf⟩ := zx_lt_some hf
      have hg := zv_ua hg eG_7 (by decide)
      obtain ⟨x5_8, ex5_8, hf⟩ := zx_lt_some hf
      exact zv_tr hg (ih x4 x5_8 G_7 hf)
theorem v_C_start_122 {r : Int32} {G1 : zx_G} : ∀ (n : Nat) (x4 : Int32) (G : zx_G), f_C_start_122 n x4 G = some (r, G1) → ∀ q k, q ∉ A_C_start → (q, k) ∉ O_C_start → G1 q k = G q k := by
  intro n
  induction n with
  | zero => intro x4 G hf; cases hf
  | succ n ih =>
    intro x4 G hf
    unfold f_C_start_122 at hf
    have hg : ∀ q k, q ∉ A_C_start → (q, k) ∉ O_C_start → G q k = G q k := fun _ _ _ _ => rfl
    rcases zx_if_some hf with ⟨hc_1, hf⟩ | ⟨hc_1, hf⟩
    · skip
      exact zv_ret hg hf
    · skip
      obtain ⟨r_3, G_2, hq_4, hf⟩ := zx_bd_some hf
      have hg := zv_call hg (v_C_takeBit G hq_4) (by decide) (by decide)
      obtain ⟨x4_5, ex4_5, hf⟩ := zx_lt_some hf
      exact zv_tr hg (ih x4_5 G_2 hf)
theorem v_C_start_43 {r : Int32} {G1 : zx_G} : ∀ (n : Nat) (x4 : Int32) (G : zx_G), f_C_start_43 n x4 G = some (r, G1) → ∀ q k, q ∉ A_C_start → (q, k) ∉ O_C_start → G1 q k = G q k := by
  intro n
  induction n with
  | zero => intro x4 G hf; cases hf
  | succ n ih =>
    intro x4 G hf
    unfold f_C_start_43 at hf
    have hg : ∀ q k, q ∉ A_C_start → (q, k) ∉ O_C_start → G q k = G q k := fun _ _ _ _ => rfl
    rcases zx_if_some hf with ⟨hc_1, hf⟩ | ⟨hc_1, hf⟩
    · skip
      obtain ⟨G_2, eG_2, hf⟩ := zx_lt_some hf
      have hg := zv_uo hg eG_2 (by decide)
      obtain ⟨G_3, eG_3, hf⟩ := zx_lt_some hf
      have hg := zv_uo hg eG_3 (by decide)
      obtain ⟨G_4, eG_4, hf⟩ := zx_lt_some hf
      have hg := zv_uo hg eG_4 (by decide)
      obtain ⟨x4_5, ex4_5, hf⟩ := zx_lt_some hf
      exact zv_tr hg (v_C_start_122 2048 x4_5 G_4 hf)
    · skip
      obtain ⟨x5_6, ex5_6, hf⟩ := zx_lt_some hf
      exact zv_tr hg (v_C_start_53 ih 2048 x4 x5_6 G hf)
theorem v_C_start_0 {r : Int32} {G1 : zx_G} (x1 x2 x3 : Int32) (G : zx_G) (hf : f_C_start x1 x2 x3 G = some (r, G1)) : ∀ q k, q ∉ A_C_start → (q, k) ∉ O_C_start → G1 q k = G q k := by
  unfold f_C_start at hf
  have hg : ∀ q k, q ∉ A_C_start → (q, k) ∉ O_C_start → G q k = G q k := fun _ _ _ _ => rfl
  obtain ⟨G_1, eG_1, hf⟩ := zx_lt_some hf
  have hg := zv_uo hg eG_1 (by decide)
  obtain ⟨G_2, eG_2, hf⟩ := zx_lt_some hf
  have hg := zv_uo hg eG_2 (by decide)
  obtain ⟨hb_3, hf⟩ := zx_gd_some hf
  obtain ⟨G_4, eG_4, hf⟩ := zx_lt_some hf
  have hg := zv_uo hg eG_4 (by decide)
  obtain ⟨G_5, eG_5, hf⟩ := zx_lt_some hf
  have hg := zv_uo hg eG_5 (by decide)
  obtain ⟨r_7, G_6, hq_8, hf⟩ := zx_bd_some hf
  have hg := zv_call hg (v_A_fill_16 (0 : Int32) G_5 hq_8) (by decide) (by decide)
  obtain ⟨x4_9, ex4_9, hf⟩ := zx_lt_some hf
  exact zv_tr hg (v_C_start_43 2048 x4_9 G_6 hf)
theorem v_C_start (x1 x2 x3 : Int32) (G : zx_G) {r : Int32} {G1 : zx_G} (hf : f_C_start x1 x2 x3 G = some (r, G1)) : ∀ q k, q ∉ A_C_start → (q, k) ∉ O_C_start → G1 q k = G q k := v_C_start_0 x1 x2 x3 G hf
