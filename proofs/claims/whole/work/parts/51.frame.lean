/-! what each function leaves as it was; written by a program -/
abbrev R_I_agrees : List Nat := []
theorem w_I_agrees_38 {r : Int32} {G1 : zx_G} (G : zx_G) (hf : f_I_agrees_38 G = some (r, G1)) : ∀ q, q ∉ R_I_agrees → G1 q = G q := by
  unfold f_I_agrees_38 at hf
  have hg : ∀ q, q ∉ R_I_agrees → G q = G q := fun _ _ => rfl
  obtain ⟨hb_1, hf⟩ := zx_gd_some hf
  exact zf_ret hg hf
theorem w_I_agrees_104 {r : Int32} {G1 : zx_G} : ∀ (n : Nat) (x4 x5 x7 x8 : Int32) (G : zx_G), f_I_agrees_104 n x4 x5 x7 x8 G = some (r, G1) → ∀ q, q ∉ R_I_agrees → G1 q = G q := by
  intro n
  induction n with
  | zero => intro x4 x5 x7 x8 G hf; cases hf
  | succ n ih =>
    intro x4 x5 x7 x8 G hf
    unfold f_I_agrees_104 at hf
    have hg : ∀ q, q ∉ R_I_agrees → G q = G q := fun _ _ => rfl
    rcases zx_if_some hf with ⟨hc_1, hf⟩ | ⟨hc_1, hf⟩
    · skip
      obtain ⟨hb_2, hf⟩ := zx_gd_some hf
      exact zf_ret hg hf
    · skip
      obtain ⟨hb_3, hf⟩ := zx_gd_some hf
      rcases zx_if_some hf with ⟨hc_4, hf⟩ | ⟨hc_4, hf⟩
      · skip
        obtain ⟨x8_5, ex8_5, hf⟩ := zx_lt_some hf
        exact zf_tr hg (ih x4 x5 x7 x8_5 G hf)
      · skip
        obtain ⟨hb_6, hf⟩ := zx_gd_some hf
        exact zf_ret hg hf
theorem w_I_agrees_0 {r : Int32} {G1 : zx_G} (x1 x2 x3 x4 x5 : Int32) (G : zx_G) (hf : f_I_agrees x1 x2 x3 x4 x5 G = some (r, G1)) : ∀ q, q ∉ R_I_agrees → G1 q = G q := by
  unfold f_I_agrees at hf
  have hg : ∀ q, q ∉ R_I_agrees → G q = G q := fun _ _ => rfl
  obtain ⟨hb_1, hf⟩ := zx_gd_some hf
  obtain ⟨x6_2, ex6_2, hf⟩ := zx_lt_some hf
  obtain ⟨hb_3, hf⟩ := zx_gd_some hf
  rcases zx_if_some hf with ⟨hc_4, hf⟩ | ⟨hc_4, hf⟩
  · skip
    exact zf_tr hg (w_I_agrees_38 G hf)
  · skip
    obtain ⟨hb_5, hf⟩ := zx_gd_some hf
    rcases zx_if_some hf with ⟨hc_6, hf⟩ | ⟨hc_6, hf⟩
    · skip
      obtain ⟨hb_7, hf⟩ := zx_gd_some hf
      obtain ⟨hb_8, hf⟩ := zx_gd_some hf
      rcases zx_if_some hf with ⟨hc_9, hf⟩ | ⟨hc_9, hf⟩
      · skip
        rcases zx_if_some hf with ⟨hc_10, hf⟩ | ⟨hc_10, hf⟩
        · skip
          obtain ⟨hb_11, hf⟩ := zx_gd_some hf
          obtain ⟨x7_12, ex7_12, hf⟩ := zx_lt_some hf
          obtain ⟨hb_13, hf⟩ := zx_gd_some hf
          rcases zx_if_some hf with ⟨hc_14, hf⟩ | ⟨hc_14, hf⟩
          · skip
            obtain ⟨x8_15, ex8_15, hf⟩ := zx_lt_some hf
            exact zf_tr hg (w_I_agrees_104 2048 x4 x5 x7_12 x8_15 G hf)
          · skip
            obtain ⟨hb_16, hf⟩ := zx_gd_some hf
            exact zf_ret hg hf
        · skip
          obtain ⟨hb_17, hf⟩ := zx_gd_some hf
          exact zf_ret hg hf
      · skip
        obtain ⟨hb_18, hf⟩ := zx_gd_some hf
        exact zf_ret hg hf
    · skip
      exact zf_tr hg (w_I_agrees_38 G hf)
theorem w_I_agrees (x1 x2 x3 x4 x5 : Int32) (G : zx_G) {r : Int32} {G1 : zx_G} (hf : f_I_agrees x1 x2 x3 x4 x5 G = some (r, G1)) : ∀ q, q ∉ R_I_agrees → G1 q = G q := w_I_agrees_0 x1 x2 x3 x4 x5 G hf
abbrev R_H_readSequence : List Nat := [11, 13]
theorem w_H_readSequence_93 {r : Int32} {G1 : zx_G} (s0 : Int32) (G : zx_G) (hf : f_H_readSequence_93 s0 G = some (r, G1)) : ∀ q, q ∉ R_H_readSequence → G1 q = G q := by
  unfold f_H_readSequence_93 at hf
  have hg : ∀ q, q ∉ R_H_readSequence → G q = G q := fun _ _ => rfl
  exact zf_ret hg hf
theorem w_H_readSequence_201 {r : Int32} {G1 : zx_G} (s0 : Int32) (G : zx_G) (hf : f_H_readSequence_201 s0 G = some (r, G1)) : ∀ q, q ∉ R_H_readSequence → G1 q = G q := by
  unfold f_H_readSequence_201 at hf
  have hg : ∀ q, q ∉ R_H_readSequence → G q = G q := fun _ _ => rfl
  exact zf_ret hg hf
theorem w_H_readSequence_156 {r : Int32} {G1 : zx_G} (x1 x2 s1 : Int32) (G : zx_G) (hf : f_H_readSequence_156 x1 x2 s1 G = some (r, G1)) : ∀ q, q ∉ R_H_readSequence → G1 q = G q := by
  unfold f_H_readSequence_156 at hf
  have hg : ∀ q, q ∉ R_H_readSequence → G q = G q := fun _ _ => rfl
  obtain ⟨G_1, eG_1, hf⟩ := zx_lt_some hf
  have hg := zf_up hg eG_1 (by decide)
  obtain ⟨hb_2, hf⟩ := zx_gd_some hf
  obtain ⟨G_3, eG_3, hf⟩ := zx_lt_some hf
  have hg := zf_up hg eG_3 (by decide)
  obtain ⟨r_5, G_4, hq_6, hf⟩ := zx_bd_some hf
  have hg := zf_call hg (w_I_agrees (G_3 11 7) (G_3 11 8) (x1 + ((4 : Int32) * x2)) (G_3 11 6) (G_3 11 9) G_3 hq_6) (by decide)
  rcases zx_if_some hf with ⟨hc_7, hf⟩ | ⟨hc_7, hf⟩
  · skip
    exact zf_tr hg (w_H_readSequence_201 (6 : Int32) G_4 hf)
  · skip
    exact zf_tr hg (w_H_readSequence_201 (0 : Int32) G_4 hf)
theorem w_H_readSequence_140 {r : Int32} {G1 : zx_G} (x1 x2 s1 : Int32) (G : zx_G) (hf : f_H_readSequence_140 x1 x2 s1 G = some (r, G1)) : ∀ q, q ∉ R_H_readSequence → G1 q = G q := by
  unfold f_H_readSequence_140 at hf
  have hg : ∀ q, q ∉ R_H_readSequence → G q = G q := fun _ _ => rfl
  obtain ⟨G_1, eG_1, hf⟩ := zx_lt_some hf
  have hg := zf_up hg eG_1 (by decide)
  rcases zx_if_some hf with ⟨hc_2, hf⟩ | ⟨hc_2, hf⟩
  · skip
    exact zf_tr hg (w_H_readSequence_156 x1 x2 (8 : Int32) G_1 hf)
  · skip
    exact zf_tr hg (w_H_readSequence_156 x1 x2 (10 : Int32) G_1 hf)
theorem w_H_readSequence_127 {r : Int32} {G1 : zx_G} (x1 x2 s1 : Int32) (G : zx_G) (hf : f_H_readSequence_127 x1 x2 s1 G = some (r, G1)) : ∀ q, q ∉ R_H_readSequence → G1 q = G q := by
  unfold f_H_readSequence_127 at hf
  have hg : ∀ q, q ∉ R_H_readSequence → G q = G q := fun _ _ => rfl
  obtain ⟨hb_1, hf⟩ := zx_gd_some hf
  obtain ⟨G_2, eG_2, hf⟩ := zx_lt_some hf
  have hg := zf_up hg eG_2 (by decide)
  rcases zx_if_some hf with ⟨hc_3, hf⟩ | ⟨hc_3, hf⟩
  · skip
    exact zf_tr hg (w_H_readSequence_140 x1 x2 (3 : Int32) G_2 hf)
  · skip
    exact zf_tr hg (w_H_readSequence_140 x1 x2 (1 : Int32) G_2 hf)
theorem w_H_readSequence_62 {r : Int32} {G1 : zx_G} : ∀ (n : Nat) (x1 x2 x3 : Int32) (G : zx_G), f_H_readSequence_62 n x1 x2 x3 G = some (r, G1) → ∀ q, q ∉ R_H_readSequence → G1 q = G q := by
  intro n
  induction n with
  | zero => intro x1 x2 x3 G hf; cases hf
  | succ n ih =>
    intro x1 x2 x3 G hf
    unfold f_H_readSequence_62 at hf
    have hg : ∀ q, q ∉ R_H_readSequence → G q = G q := fun _ _ => rfl
    rcases zx_if_some hf with ⟨hc_1, hf⟩ | ⟨hc_1, hf⟩
    · skip
      obtain ⟨r_3, G_2, hq_4, hf⟩ := zx_bd_some hf
      have hg := zf_call hg (w_U_nextBits_13 (1 : Int32) G hq_4) (by decide)
      obtain ⟨x3_5, ex3_5, hf⟩ := zx_lt_some hf
      rcases zx_if_some hf with ⟨hc_6, hf⟩ | ⟨hc_6, hf⟩
      · skip
        rcases zx_if_some hf with ⟨hc_7, hf⟩ | ⟨hc_7, hf⟩
        · skip
          exact zf_tr hg (w_H_readSequence_127 x1 x2 (0 : Int32) G_2 hf)
        · skip
          exact zf_tr hg (w_H_readSequence_127 x1 x2 (1 : Int32) G_2 hf)
      · skip
        exact zf_ret hg hf
    · skip
      obtain ⟨r_9, G_8, hq_10, hf⟩ := zx_bd_some hf
      have hg := zf_call hg (w_U_nextBits_13 (1 : Int32) G hq_10) (by decide)
      obtain ⟨x4_11, ex4_11, hf⟩ := zx_lt_some hf
      rcases zx_if_some hf with ⟨hc_12, hf⟩ | ⟨hc_12, hf⟩
      · skip
        obtain ⟨x3_13, ex3_13, hf⟩ := zx_lt_some hf
        exact zf_tr hg (ih x1 x2 x3_13 G_8 hf)
      · skip
        rcases zx_if_some hf with ⟨hc_14, hf⟩ | ⟨hc_14, hf⟩
        · skip
          exact zf_tr hg (w_H_readSequence_93 (5 : Int32) G_8 hf)
        · skip
          exact zf_tr hg (w_H_readSequence_93 (7 : Int32) G_8 hf)
theorem w_H_readSequence_0 {r : Int32} {G1 : zx_G} (G : zx_G) (hf : f_H_readSequence G = some (r, G1)) : ∀ q, q ∉ R_H_readSequence → G1 q = G q := by
  unfold f_H_readSequence at hf
  have hg : ∀ q, q ∉ R_H_readSequence → G q = G q := fun _ _ => rfl
  obtain ⟨r_2, G_1, hq_3, hf⟩ := zx_bd_some hf
  have hg := zf_call hg (w_U_nextBits_13 (2 : Int32) G hq_3) (by decide)
  obtain ⟨x1_4, ex1_4, hf⟩ := zx_lt_some hf
  rcases zx_if_some hf with ⟨hc_5, hf⟩ | ⟨hc_5, hf⟩
  · skip
    rcases zx_if_some hf with ⟨hc_6, hf⟩ | ⟨hc_6, hf⟩
    · skip
      obtain ⟨r_8, G_7, hq_9, hf⟩ := zx_bd_some hf
      have hg := zf_call hg (w_U_nextBits_13 (1 : Int32) G_1 hq_9) (by decide)
      obtain ⟨x2_10, ex2_10, hf⟩ := zx_lt_some hf
      obtain ⟨r_12, G_11, hq_13, hf⟩ := zx_bd_some hf
      have hg := zf_call hg (w_U_nextBits_13 (4 : Int32) G_7 hq_13) (by decide)
      obtain ⟨G_14, eG_14, hf⟩ := zx_lt_some hf
      have hg := zf_up hg eG_14 (by decide)
      obtain ⟨r_16, G_15, hq_17, hf⟩ := zx_bd_some hf
      have hg := zf_call hg (w_U_nextBits_13 (4 : Int32) G_14 hq_17) (by decide)
      obtain ⟨G_18, eG_18, hf⟩ := zx_lt_some hf
      have hg := zf_up hg eG_18 (by decide)
      obtain ⟨x3_19, ex3_19, hf⟩ := zx_lt_some hf
      exact zf_tr hg (w_H_readSequence_62 2048 x1_4 x2_10 x3_19 G_18 hf)
    · skip
      exact zf_ret hg hf
  · skip
    exact zf_ret hg hf
theorem w_H_readSequence (G : zx_G) {r : Int32} {G1 : zx_G} (hf : f_H_readSequence G = some (r, G1)) : ∀ q, q ∉ R_H_readSequence → G1 q = G q := w_H_readSequence_0 G hf
abbrev R_U_nextByte_12 : List Nat := [12]
theorem w_U_nextByte_12_0 {r : Int32} {G1 : zx_G} (G : zx_G) (hf : f_U_nextByte_12 G = some (r, G1)) : ∀ q, q ∉ R_U_nextByte_12 → G1 q = G q := by
  unfold f_U_nextByte_12 at hf
  have hg : ∀ q, q ∉ R_U_nextByte_12 → G q = G q := fun _ _ => rfl
  rcases zx_if_some hf with ⟨hc_1, hf⟩ | ⟨hc_1, hf⟩
  · skip
    obtain ⟨hb_2, hf⟩ := zx_gd_some hf
    obtain ⟨x1_3, ex1_3, hf⟩ := zx_lt_some hf
    obtain ⟨G_4, eG_4, hf⟩ := zx_lt_some hf
    have hg := zf_up hg eG_4 (by decide)
    exact zf_ret hg hf
  · skip
    exact zf_ret hg hf
theorem w_U_nextByte_12 (G : zx_G) {r : Int32} {G1 : zx_G} (hf : f_U_nextByte_12 G = some (r, G1)) : ∀ q, q ∉ R_U_nextByte_12 → G1 q = G q := w_U_nextByte_12_0 G hf
abbrev R_U_left_12 : List Nat := []
theorem w_U_left_12_0 {r : Int32} {G1 : zx_G} (G : zx_G) (hf : f_U_left_12 G = some (r, G1)) : ∀ q, q ∉ R_U_left_12 → G1 q = G q := by
  unfold f_U_left_12 at hf
  have hg : ∀ q, q ∉ R_U_left_12 → G q = G q := fun _ _ => rfl
  exact zf_ret hg hf
theorem w_U_left_12 (G : zx_G) {r : Int32} {G1 : zx_G} (hf : f_U_left_12 G = some (r, G1)) : ∀ q, q ∉ R_U_left_12 → G1 q = G q := w_U_left_12_0 G hf
abbrev R_H_readCount : List Nat := [12]
theorem w_H_readCount_4 {r : Int32} {G1 : zx_G} : ∀ (n : Nat) (x1 x2 : Int32) (G : zx_G), f_H_readCount_4 n x1 x2 G = some (r, G1) → ∀ q, q ∉ R_H_readCount → G1 q = G q := by
  intro n
  induction n with
  | zero => intro x1 x2 G hf; cases hf
  | succ n ih =>
    intro x1 x2 G hf
    unfold f_H_readCount_4 at hf
    have hg : ∀ q, q ∉ R_H_readCount → G q = G q := fun _ _ => rfl
    rcases zx_if_some hf with ⟨hc_1, hf⟩ | ⟨hc_1, hf⟩
    · skip
      exact zf_ret hg hf
    · skip
      obtain ⟨r_3, G_2, hq_4, hf⟩ := zx_bd_some hf
      have hg := zf_call hg (w_U_nextByte_12 G hq_4) (by decide)
      obtain ⟨x3_5, ex3_5, hf⟩ := zx_lt_some hf
      rcases zx_if_some hf with ⟨hc_6, hf⟩ | ⟨hc_6, hf⟩
      · skip
        obtain ⟨x1_7, ex1_7, hf⟩ := zx_lt_some hf
        rcases zx_if_some hf with ⟨hc_8, hf⟩ | ⟨hc_8, hf⟩
        · skip
          obtain ⟨x2_9, ex2_9, hf⟩ := zx_lt_some hf
          exact zf_tr hg (ih x1_7 x2_9 G_2 hf)
        · skip
          exact zf_ret hg hf
      · skip
        exact zf_ret hg hf
theorem w_H_readCount_0 {r : Int32} {G1 : zx_G} (G : zx_G) (hf : f_H_readCount G = some (r, G1)) : ∀ q, q ∉ R_H_readCount → G1 q = G q := by
  unfold f_H_readCount at hf
  have hg : ∀ q, q ∉ R_H_readCount → G q = G q := fun _ _ => rfl
  obtain ⟨x1_1, ex1_1, hf⟩ := zx_lt_some hf
  obtain ⟨x2_2, ex2_2, hf⟩ := zx_lt_some hf
  exact zf_tr hg (w_H_readCount_4 2048 x1_1 x2_2 G hf)
theorem w_H_readCount (G : zx_G) {r : Int32} {G1 : zx_G} (hf : f_H_readCount G = some (r, G1)) : ∀ q, q ∉ R_H_readCount → G1 q = G q := w_H_readCount_0 G hf
abbrev R_H_readUnit : List Nat := [11, 12, 13]
theorem w_H_readUnit_19 {r : Int32} {G1 : zx_G} (G : zx_G) (hf : f_H_readUnit_19 G = some (r, G1)) : ∀ q, q ∉ R_H_readUnit → G1 q = G q := by
  unfold f_H_readUnit_19 at hf
  have hg : ∀ q, q ∉ R_H_readUnit → G q = G q := fun _ _ => rfl
  exact zf_ret hg hf
theorem w_H_readUnit_123 {r : Int32} {G1 : zx_G} (s0 : Int32) (G : zx_G) (hf : f_H_readUnit_123 s0 G = some (r, G1)) : ∀ q, q ∉ R_H_readUnit → G1 q = G q := by
  unfold f_H_readUnit_123 at hf
  have hg : ∀ q, q ∉ R_H_readUnit → G q = G q := fun _ _ => rfl
  exact zf_ret hg hf
theorem w_H_readUnit_50 {r : Int32} {G1 : zx_G} (x1 s0 : Int32) (G : zx_G) (hf : f_H_readUnit_50 x1 s0 G = some (r, G1)) : ∀ q, q ∉ R_H_readUnit → G1 q = G q := by
  unfold f_H_readUnit_50 at hf
  have hg : ∀ q, q ∉ R_H_readUnit → G q = G q := fun _ _ => rfl
  obtain ⟨x2_1, ex2_1, hf⟩ := zx_lt_some hf
  obtain ⟨x3_2, ex3_2, hf⟩ := zx_lt_some hf
  obtain ⟨r_4, G_3, hq_5, hf⟩ := zx_bd_some hf
  have hg := zf_call hg (w_U_skip_12 x2_1 G hq_5) (by decide)
  rcases zx_if_some hf with ⟨hc_6, hf⟩ | ⟨hc_6, hf⟩
  · skip
    obtain ⟨r_8, G_7, hq_9, hf⟩ := zx_bd_some hf
    have hg := zf_call hg (w_U_open_13 x3_2 (x3_2 + x2_1) G_3 hq_9) (by decide)
    obtain ⟨x4_10, ex4_10, hf⟩ := zx_lt_some hf
    rcases zx_if_some hf with ⟨hc_11, hf⟩ | ⟨hc_11, hf⟩
    · skip
      rcases zx_if_some hf with ⟨hc_12, hf⟩ | ⟨hc_12, hf⟩
      · skip
        exact zf_ret hg hf
      · skip
        rcases zx_if_some hf with ⟨hc_13, hf⟩ | ⟨hc_13, hf⟩
        · skip
          exact zf_tr hg (w_H_readUnit_123 (7 : Int32) G_7 hf)
        · skip
          obtain ⟨r_15, G_14, hq_16, hf⟩ := zx_bd_some hf
          have hg := zf_call hg (w_H_readFrame G_7 hq_16) (by decide)
          exact zf_tr hg (w_H_readUnit_123 r_15 G_14 hf)
    · skip
      obtain ⟨r_18, G_17, hq_19, hf⟩ := zx_bd_some hf
      have hg := zf_call hg (w_H_readSequence G_7 hq_19) (by decide)
      exact zf_ret hg hf
  · skip
    exact zf_ret hg hf
theorem w_H_readUnit_0 {r : Int32} {G1 : zx_G} (G : zx_G) (hf : f_H_readUnit G = some (r, G1)) : ∀ q, q ∉ R_H_readUnit → G1 q = G q := by
  unfold f_H_readUnit at hf
  have hg : ∀ q, q ∉ R_H_readUnit → G q = G q := fun _ _ => rfl
  obtain ⟨r_2, G_1, hq_3, hf⟩ := zx_bd_some hf
  have hg := zf_call hg (w_U_nextByte_12 G hq_3) (by decide)
  obtain ⟨x1_4, ex1_4, hf⟩ := zx_lt_some hf
  rcases zx_if_some hf with ⟨hc_5, hf⟩ | ⟨hc_5, hf⟩
  · skip
    exact zf_tr hg (w_H_readUnit_19 G_1 hf)
  · skip
    rcases zx_if_some hf with ⟨hc_6, hf⟩ | ⟨hc_6, hf⟩
    · skip
      rcases zx_if_some hf with ⟨hc_7, hf⟩ | ⟨hc_7, hf⟩
      · skip
        rcases zx_if_some hf with ⟨hc_8, hf⟩ | ⟨hc_8, hf⟩
        · skip
          obtain ⟨r_10, G_9, hq_11, hf⟩ := zx_bd_some hf
          have hg := zf_call hg (w_U_left_12 G_1 hq_11) (by decide)
          exact zf_tr hg (w_H_readUnit_50 x1_4 r_10 G_9 hf)
        · skip
          obtain ⟨r_13, G_12, hq_14, hf⟩ := zx_bd_some hf
          have hg := zf_call hg (w_H_readCount G_1 hq_14) (by decide)
          exact zf_tr hg (w_H_readUnit_50 x1_4 r_13 G_12 hf)
      · skip
        exact zf_ret hg hf
    · skip
      exact zf_tr hg (w_H_readUnit_19 G_1 hf)
theorem w_H_readUnit (G : zx_G) {r : Int32} {G1 : zx_G} (hf : f_H_readUnit G = some (r, G1)) : ∀ q, q ∉ R_H_readUnit → G1 q = G q := w_H_readUnit_0 G hf
abbrev R_U_open_12 : List Nat := [12]
theorem w_U_open_12_0 {r : Int32} {G1 : zx_G} (x1 x2 : Int32) (G : zx_G) (hf : f_U_open_12 x1 x2 G = some (r, G1)) : ∀ q, q ∉ R_U_open_12 → G1 q = G q := by
  unfold f_U_open_12 at hf
  have hg : ∀ q, q ∉ R_U_open_12 → G q = G q := fun _ _ => rfl
  obtain ⟨G_1, eG_1, hf⟩ := zx_lt_some hf
  have hg := zf_up hg eG_1 (by decide)
  obtain ⟨G_2, eG_2, hf⟩ := zx_lt_some hf
  have hg := zf_up hg eG_2 (by decide)
  obtain ⟨G_3, eG_3, hf⟩ := zx_lt_some hf
  have hg := zf_up hg eG_3 (by decide)
  exact zf_ret hg hf
theorem w_U_open_12 (x1 x2 : Int32) (G : zx_G) {r : Int32} {G1 : zx_G} (hf : f_U_open_12 x1 x2 G = some (r, G1)) : ∀ q, q ∉ R_U_open_12 → G1 q = G q := w_U_open_12_0 x1 x2 G hf
abbrev R_H_read : List Nat := [11, 12, 13]
theorem w_H_read_50 {r : Int32} {G1 : zx_G} (x2 : Int32) (G : zx_G) (hf : f_H_read_50 x2 G = some (r, G1)) : ∀ q, q ∉ R_H_read → G1 q = G q := by
  unfold f_H_read_50 at hf
  have hg : ∀ q, q ∉ R_H_read → G q = G q := fun _ _ => rfl
  exact zf_ret hg hf
theorem w_H_read_27 {r : Int32} {G1 : zx_G} : ∀ (n : Nat) (x1 : Int32) (G : zx_G), f_H_read_27 n x1 G = some (r, G1) → ∀ q, q ∉ R_H_read → G1 q = G q := by
  intro n
  induction n with
  | zero => intro x1 G hf; cases hf
  | succ n ih =>
    intro x1 G hf
    unfold f_H_read_27 at hf
    have hg : ∀ q, q ∉ R_H_read → G q = G q := fun _ _ => rfl
    rcases zx_if_some hf with ⟨hc_1, hf⟩ | ⟨hc_1, hf⟩
    · skip
      exact zf_ret hg hf
    · skip
      obtain ⟨r_3, G_2, hq_4, hf⟩ := zx_bd_some hf
      have hg := zf_call hg (w_H_readUnit G hq_4) (by decide)
      obtain ⟨x2_5, ex2_5, hf⟩ := zx_lt_some hf
      rcases zx_if_some hf with ⟨hc_6, hf⟩ | ⟨hc_6, hf⟩
      · skip
        exact zf_tr hg (w_H_read_50 x2_5 G_2 hf)
      · skip
        rcases zx_if_some hf with ⟨hc_7, hf⟩ | ⟨hc_7, hf⟩
        · skip
          obtain ⟨x1_8, ex1_8, hf⟩ := zx_lt_some hf
          exact zf_tr hg (ih x1_8 G_2 hf)
        · skip
          exact zf_tr hg (w_H_read_50 x2_5 G_2 hf)
theorem w_H_read_0 {r : Int32} {G1 : zx_G} (G : zx_G) (hf : f_H_read G = some (r, G1)) : ∀ q, q ∉ R_H_read → G1 q = G q := by
  unfold f_H_read at hf
  have hg : ∀ q, q ∉ R_H_read → G q = G q := fun _ _ => rfl
  obtain ⟨hb_1, hf⟩ := zx_gd_some hf
  obtain ⟨G_2, eG_2, hf⟩ := zx_lt_some hf
  have hg := zf_up hg eG_2 (by decide)
  obtain ⟨hb_3, hf⟩ := zx_gd_some hf
  obtain ⟨G_4, eG_4, hf⟩ := zx_lt_some hf
  have hg := zf_up hg eG_4 (by decide)
  obtain ⟨r_6, G_5, hq_7, hf⟩ := zx_bd_some hf
  have hg := zf_call hg (w_U_open_12 (0 : Int32) (G_4 8 4) G_4 hq_7) (by decide)
  obtain ⟨x1_8, ex1_8, hf⟩ := zx_lt_some hf
  exact zf_tr hg (w_H_read_27 2048 x1_8 G_5 hf)
theorem w_H_read (G : zx_G) {r : Int32} {G1 : zx_G} (hf : f_H_read G = some (r, G1)) : ∀ q, q ∉ R_H_read → G1 q = G q := w_H_read_0 G hf
abbrev R_B_readStretch : List Nat := [2, 3, 4, 5, 6, 7]
theorem w_B_readStretch_61 {r : Int32} {G1 : zx_G} (G : zx_G) (hf : f_B_readStretch_61 G = some (r, G1)) : ∀ q, q ∉ R_B_readStretch → G1 q = G q := by
  unfold f_B_readStretch_61 at hf
  have hg : ∀ q, q ∉ R_B_readStretch → G q = G q := fun _ _ => rfl
  obtain ⟨hb_1, hf⟩ := zx_gd_some hf
  exact zf_ret hg hf
theorem w_B_readStretch_104 {r : Int32} {G1 : zx_G} (G : zx_G) (hf : f_B_readStretch_104 G = some (r, G1)) : ∀ q, q ∉ R_B_readStretch → G1 q = G q := by
  unfold f_B_readStretch_104 at hf
  have hg : ∀ q, q ∉ R_B_readStretch → G q = G q := fun _ _ => rfl
  obtain ⟨hb_1, hf⟩ := zx_gd_some hf
  exact zf_ret hg hf
theorem w_B_readStretch_87 {r : Int32} {G1 : zx_G} {k25 : Int32 → Int32 → Int32 → Int32 → Int32 → zx_G → Option (Int32 × zx_G)} (hk25 : ∀ (x2 x3 x4 x5 x6 : Int32) (G : zx_G), k25 x2 x3 x4 x5 x6 G = some (r, G1) → ∀ q, q ∉ R_B_readStretch → G1 q = G q) (x2 x3 x4 x5 x6 s0 : Int32) (G : zx_G) (hf : f_B_readStretch_87 k25 x2 x3 x4 x5 x6 s0 G = some (r, G1)) : ∀ q, q ∉ R_B_readStretch → G1 q = G q := by
  unfold f_B_readStretch_87 at hf
  have hg : ∀ q, q ∉ R_B_readStretch → G q = G q := fun _ _ => rfl
  obtain ⟨x7_1, ex7_1, hf⟩ := zx_lt_some hf
  rcases zx_if_some hf with ⟨hc_2, hf⟩ | ⟨hc_2, hf⟩
  · skip
    exact zf_tr hg (w_B_readStretch_104 G hf)
  · skip
    rcases zx_if_some hf with ⟨hc_3, hf⟩ | ⟨hc_3, hf⟩
    · skip
      obtain ⟨hb_4, hf⟩ := zx_gd_some hf
      obtain ⟨hb_5, hf⟩ := zx_gd_some hf
      obtain ⟨G_6, eG_6, hf⟩ := zx_lt_some hf
      have hg := zf_up hg eG_6 (by decide)
      obtain ⟨hb_7, hf⟩ := zx_gd_some hf
      obtain ⟨G_8, eG_8, hf⟩ := zx_lt_some hf
      have hg := zf_up hg eG_8 (by decide)
      obtain ⟨hb_9, hf⟩ := zx_gd_some hf
      obtain ⟨G_10, eG_10, hf⟩ := zx_lt_some hf
      have hg := zf_up hg eG_10 (by decide)
      obtain ⟨hb_11, hf⟩ := zx_gd_some hf
      obtain ⟨G_12, eG_12, hf⟩ := zx_lt_some hf
      have hg := zf_up hg eG_12 (by decide)
      obtain ⟨hb_13, hf⟩ := zx_gd_some hf
      obtain ⟨G_14, eG_14, hf⟩ := zx_lt_some hf
      have hg := zf_up hg eG_14 (by decide)
      obtain ⟨G_15, eG_15, hf⟩ := zx_lt_some hf
      have hg := zf_up hg eG_15 (by decide)
      obtain ⟨x5_16, ex5_16, hf⟩ := zx_lt_some hf
      obtain ⟨x6_17, ex6_17, hf⟩ := zx_lt_some hf
      exact zf_tr hg (hk25 x2 x3 x4 x5_16 x6_17 G_15 hf)
    · skip
      exact zf_tr hg (w_B_readStretch_104 G hf)
theorem w_B_readStretch_195 {r : Int32} {G1 : zx_G} (G : zx_G) (hf : f_B_readStretch_195 G = some (r, G1)) : ∀ q, q ∉ R_B_readStretch → G1 q = G q := by
  unfold f_B_readStretch_195 at hf
  have hg : ∀ q, q ∉ R_B_readStretch → G q = G q := fun _ _ => rfl
  obtain ⟨hb_1, hf⟩ := zx_gd_some hf
  exact zf_ret hg hf
theorem w_B_readStretch_25 {r : Int32} {G1 : zx_G} : ∀ (n : Nat) (x2 x3 x4 x5 x6 : Int32) (G : zx_G), f_B_readStretch_25 n x2 x3 x4 x5 x6 G = some (r, G1) → ∀ q, q ∉ R_B_readStretch → G1 q = G q := by
  intro n
  induction n with
  | zero => intro x2 x3 x4 x5 x6 G hf; cases hf
  | succ n ih =>
    intro x2 x3 x4 x5 x6 G hf
    unfold f_B_readStretch_25 at hf
    have hg : ∀ q, q ∉ R_B_readStretch → G q = G q := fun _ _ => rfl
    rcases zx_if_some hf with ⟨hc_1, hf⟩ | ⟨hc_1, hf⟩
    · skip
      exact zf_tr hg (w_B_readStretch_195 G hf)
    · skip
      rcases zx_if_some hf with ⟨hc_2, hf⟩ | ⟨hc_2, hf⟩
      · skip
        exact zf_tr hg (w_B_readStretch_195 G hf)
      · skip
        rcases zx_if_some hf with ⟨hc_3, hf⟩ | ⟨hc_3, hf⟩
        · skip
          exact zf_tr hg (w_B_readStretch_61 G hf)
        · skip
          rcases zx_if_some hf with ⟨hc_4, hf⟩ | ⟨hc_4, hf⟩
          · skip
            exact zf_tr hg (w_B_readStretch_61 G hf)
          · skip
            rcases zx_if_some hf with ⟨hc_5, hf⟩ | ⟨hc_5, hf⟩
            · skip
              obtain ⟨hb_6, hf⟩ := zx_gd_some hf
              rcases zx_if_some hf with ⟨hc_7, hf⟩ | ⟨hc_7, hf⟩
              · skip
                obtain ⟨hb_8, hf⟩ := zx_gd_some hf
                exact zf_tr hg (w_B_readStretch_87 ih x2 x3 x4 x5 x6 (G 1 (Int32.toNatClampNeg x5)) G hf)
              · skip
                exact zf_tr hg (w_B_readStretch_87 ih x2 x3 x4 x5 x6 (x2 - x5) G hf)
            · skip
              exact zf_tr hg (w_B_readStretch_61 G hf)
theorem w_B_readStretch_17 {r : Int32} {G1 : zx_G} (x1 x2 x3 s0 : Int32) (G : zx_G) (hf : f_B_readStretch_17 x1 x2 x3 s0 G = some (r, G1)) : ∀ q, q ∉ R_B_readStretch → G1 q = G q := by
  unfold f_B_readStretch_17 at hf
  have hg : ∀ q, q ∉ R_B_readStretch → G q = G q := fun _ _ => rfl
  obtain ⟨x4_1, ex4_1, hf⟩ := zx_lt_some hf
  obtain ⟨x5_2, ex5_2, hf⟩ := zx_lt_some hf
  obtain ⟨x6_3, ex6_3, hf⟩ := zx_lt_some hf
  exact zf_tr hg (w_B_readStretch_25 2048 x2 x3 x4_1 x5_2 x6_3 G hf)
theorem w_B_readStretch_0 {r : Int32} {G1 : zx_G} (x1 x2 x3 : Int32) (G : zx_G) (hf : f_B_readStretch x1 x2 x3 G = some (r, G1)) : ∀ q, q ∉ R_B_readStretch → G1 q = G q := by
  unfold f_B_readStretch at hf
  have hg : ∀ q, q ∉ R_B_readStretch → G q = G q := fun _ _ => rfl
  rcases zx_if_some hf with ⟨hc_1, hf⟩ | ⟨hc_1, hf⟩
  · skip
    obtain ⟨hb_2, hf⟩ := zx_gd_some hf
    exact zf_tr hg (w_B_readStretch_17 x1 x2 x3 ((G 7 (Int32.toNatClampNeg x3)) + (1 : Int32)) G hf)
  · skip
    exact zf_tr hg (w_B_readStretch_17 x1 x2 x3 (1 : Int32) G hf)
theorem w_B_readStretch (x1 x2 x3 : Int32) (G : zx_G) {r : Int32} {G1 : zx_G} (hf : f_B_readStretch x1 x2 x3 G = some (r, G1)) : ∀ q, q ∉ R_B_readStretch → G1 q = G q := w_B_readStretch_0 x1 x2 x3 G hf
abbrev R_B_read : List Nat := [2, 3, 4, 5, 6, 7]
theorem w_B_read_87 {r : Int32} {G1 : zx_G} {k19 : Int32 → zx_G → Option (Int32 × zx_G)} (hk19 : ∀ (x2 : Int32) (G : zx_G), k19 x2 G = some (r, G1) → ∀ q, q ∉ R_B_read → G1 q = G q) (x2 : Int32) (G : zx_G) (hf : f_B_read_87 k19 x2 G = some (r, G1)) : ∀ q, q ∉ R_B_read → G1 q = G q := by
  unfold f_B_read_87 at hf
  have hg : ∀ q, q ∉ R_B_read → G q = G q := fun _ _ => rfl
  obtain ⟨x2_1, ex2_1, hf⟩ := zx_lt_some hf
  exact zf_tr hg (hk19 x2_1 G hf)
theorem w_B_read_60 {r : Int32} {G1 : zx_G} {k19 : Int32 → zx_G → Option (Int32 × zx_G)} (hk19 : ∀ (x2 : Int32) (G : zx_G), k19 x2 G = some (r, G1) → ∀ q, q ∉ R_B_read → G1 q = G q) (x2 s0 : Int32) (G : zx_G) (hf : f_B_read_60 k19 x2 s0 G = some (r, G1)) : ∀ q, q ∉ R_B_read → G1 q = G q := by
  unfold f_B_read_60 at hf
  have hg : ∀ q, q ∉ R_B_read → G q = G q := fun _ _ => rfl
  obtain ⟨x3_1, ex3_1, hf⟩ := zx_lt_some hf
  rcases zx_if_some hf with ⟨hc_2, hf⟩ | ⟨hc_2, hf⟩
  · skip
    exact zf_tr hg (w_B_read_87 hk19 x2 G hf)
  · skip
    obtain ⟨hb_3, hf⟩ := zx_gd_some hf
    obtain ⟨hb_4, hf⟩ := zx_gd_some hf
    obtain ⟨r_6, G_5, hq_7, hf⟩ := zx_bd_some hf
    have hg := zf_call hg (w_B_readStretch (G 4 (Int32.toNatClampNeg x2)) (G 5 (Int32.toNatClampNeg x2)) x2 G hq_7) (by decide)
    rcases zx_if_some hf with ⟨hc_8, hf⟩ | ⟨hc_8, hf⟩
    · skip
      exact zf_tr hg (w_B_read_87 hk19 x2 G_5 hf)
    · skip
      exact zf_ret hg hf
theorem w_B_read_55 {r : Int32} {G1 : zx_G} {k19 : Int32 → zx_G → Option (Int32 × zx_G)} (hk19 : ∀ (x2 : Int32) (G : zx_G), k19 x2 G = some (r, G1) → ∀ q, q ∉ R_B_read → G1 q = G q) (x2 : Int32) (G : zx_G) (hf : f_B_read_55 k19 x2 G = some (r, G1)) : ∀ q, q ∉ R_B_read → G1 q = G q := by
  unfold f_B_read_55 at hf
  have hg : ∀ q, q ∉ R_B_read → G q = G q := fun _ _ => rfl
  exact zf_tr hg (w_B_read_60 hk19 x2 (1 : Int32) G hf)
theorem w_B_read_93 {r : Int32} {G1 : zx_G} (G : zx_G) (hf : f_B_read_93 G = some (r, G1)) : ∀ q, q ∉ R_B_read → G1 q = G q := by
  unfold f_B_read_93 at hf
  have hg : ∀ q, q ∉ R_B_read → G q = G q := fun _ _ => rfl
  exact zf_ret hg hf
theorem w_B_read_19 {r : Int32} {G1 : zx_G} : ∀ (n : Nat) (x2 : Int32) (G : zx_G), f_B_read_19 n x2 G = some (r, G1) → ∀ q, q ∉ R_B_read → G1 q = G q := by
  intro n
  induction n with
  | zero => intro x2 G hf; cases hf
  | succ n ih =>
    intro x2 G hf
    unfold f_B_read_19 at hf
    have hg : ∀ q, q ∉ R_B_read → G q = G q := fun _ _ => rfl
    rcases zx_if_some hf with ⟨hc_1, hf⟩ | ⟨hc_1, hf⟩
    · skip
      exact zf_tr hg (w_B_read_93 G hf)
    · skip
      rcases zx_if_some hf with ⟨hc_2, hf⟩ | ⟨hc_2, hf⟩
      · skip
        exact zf_tr hg (w_B_read_93 G hf)
      · skip
        obtain ⟨hb_3, hf⟩ := zx_gd_some hf
        rcases zx_if_some hf with ⟨hc_4, hf⟩ | ⟨hc_4, hf⟩
        · skip
          exact zf_tr hg (w_B_read_55 ih x2 G hf)
        · skip
          obtain ⟨hb_5, hf⟩ := zx_gd_some hf
          rcases zx_if_some hf with ⟨hc_6, hf⟩ | ⟨hc_6, hf⟩
          · skip
            exact zf_tr hg (w_B_read_60 ih x2 (0 : Int32) G hf)
          · skip
            exact zf_tr hg (w_B_read_55 ih x2 G hf)
theorem w_B_read_0 {r : Int32} {G1 : zx_G} (x1 : Int32) (G : zx_G) (hf : f_B_read x1 G = some (r, G1)) : ∀ q, q ∉ R_B_read → G1 q = G q := by
  unfold f_B_read at hf
  have hg : ∀ q, q ∉ R_B_read → G q = G q := fun _ _ => rfl
  obtain ⟨G_1, eG_1, hf⟩ := zx_lt_some hf
  have hg := zf_up hg eG_1 (by decide)
  obtain ⟨r_3, G_2, hq_4, hf⟩ := zx_bd_some hf
  have hg := zf_call hg (w_B_readStretch (0 : Int32) x1 (-1 : Int32) G_1 hq_4) (by decide)
  rcases zx_if_some hf with ⟨hc_5, hf⟩ | ⟨hc_5, hf⟩
  · skip
    obtain ⟨x2_6, ex2_6, hf⟩ := zx_lt_some hf
    exact zf_tr hg (w_B_read_19 2048 x2_6 G_2 hf)
  · skip
    exact zf_ret hg hf
theorem w_B_read (x1 : Int32) (G : zx_G) {r : Int32} {G1 : zx_G} (hf : f_B_read x1 G = some (r, G1)) : ∀ q, q ∉ R_B_read → G1 q = G q := w_B_read_0 x1 G hf
abbrev R_B_isBranded : List Nat := []
theorem w_B_isBranded_18 {r : Int32} {G1 : zx_G} (G : zx_G) (hf : f_B_isBranded_18 G = some (r, G1)) : ∀ q, q ∉ R_B_isBranded → G1 q = G q := by
  unfold f_B_isBranded_18 at hf
  have hg : ∀ q, q ∉ R_B_isBranded → G q = G q := fun _ _ => rfl
  obtain ⟨hb_1, hf⟩ := zx_gd_some hf
  exact zf_ret hg hf
theorem w_B_isBranded_27 {r : Int32} {G1 : zx_G} : ∀ (n : Nat) (x1 : Int32) (G : zx_G), f_B_isBranded_27 n x1 G = some (r, G1) → ∀ q, q ∉ R_B_isBranded → G1 q = G q := by
  intro n
  induction n with
  | zero => intro x1 G hf; cases hf
  | succ n ih =>
    intro x1 G hf
    unfold f_B_isBranded_27 at hf
    have hg : ∀ q, q ∉ R_B_isBranded → G q = G q := fun _ _ => rfl
    obtain ⟨hb_1, hf⟩ := zx_gd_some hf
    rcases zx_if_some hf with ⟨hc_2, hf⟩ | ⟨hc_2, hf⟩
    · skip
      obtain ⟨hb_3, hf⟩ := zx_gd_some hf
      exact zf_ret hg hf
    · skip
      obtain ⟨hb_4, hf⟩ := zx_gd_some hf
      rcases zx_if_some hf with ⟨hc_5, hf⟩ | ⟨hc_5, hf⟩
      · skip
        obtain ⟨x1_6, ex1_6, hf⟩ := zx_lt_some hf
        exact zf_tr hg (ih x1_6 G hf)
      · skip
        obtain ⟨hb_7, hf⟩ := zx_gd_some hf
        exact zf_ret hg hf
theorem w_B_isBranded_0 {r : Int32} {G1 : zx_G} (G : zx_G) (hf : f_B_isBranded G = some (r, G1)) : ∀ q, q ∉ R_B_isBranded → G1 q = G q := by
  unfold f_B_isBranded at hf
  have hg : ∀ q, q ∉ R_B_isBranded → G q = G q := fun _ _ => rfl
  rcases zx_if_some hf with ⟨hc_1, hf⟩ | ⟨hc_1, hf⟩
  · skip
    exact zf_tr hg (w_B_isBranded_18 G hf)
  · skip
    obtain ⟨hb_2, hf⟩ := zx_gd_some hf
    rcases zx_if_some hf with ⟨hc_3, hf⟩ | ⟨hc_3, hf⟩
    · skip
      obtain ⟨hb_4, hf⟩ := zx_gd_some hf
      obtain ⟨x1_5, ex1_5, hf⟩ := zx_lt_some hf
      exact zf_tr hg (w_B_isBranded_27 2048 x1_5 G hf)
    · skip
      exact zf_tr hg (w_B_isBranded_18 G hf)
theorem w_B_isBranded (G : zx_G) {r : Int32} {G1 : zx_G} (hf : f_B_isBranded G = some (r, G1)) : ∀ q, q ∉ R_B_isBranded → G1 q = G q := w_B_isBranded_0 G hf
abbrev R_B_first : List Nat := []
theorem w_B_first_32 {r : Int32} {G1 : zx_G} {k2 : Int32 → Int32 → Int32 → zx_G → Option (Int32 × zx_G)} (hk2 : ∀ (x1 x2 x3 : Int32) (G : zx_G), k2 x1 x2 x3 G = some (r, G1) → ∀ q, q ∉ R_B_first → G1 q = G q) (x1 x2 x3 : Int32) (G : zx_G) (hf : f_B_first_32 k2 x1 x2 x3 G = some (r, G1)) : ∀ q, q ∉ R_B_first → G1 q = G q := by
  unfold f_B_first_32 at hf
  have hg : ∀ q, q ∉ R_B_first → G q = G q := fun _ _ => rfl
  obtain ⟨x3_1, ex3_1, hf⟩ := zx_lt_some hf
  exact zf_tr hg (hk2 x1 x2 x3_1 G hf)
theorem w_B_first_2 {r : Int32} {G1 : zx_G} : ∀ (n : Nat) (x1 x2 x3 : Int32) (G : zx_G), f_B_first_2 n x1 x2 x3 G = some (r, G1) → ∀ q, q ∉ R_B_first → G1 q = G q := by
  intro n
  induction n with
  | zero => intro x1 x2 x3 G hf; cases hf
  | succ n ih =>
    intro x1 x2 x3 G hf
    unfold f_B_first_2 at hf
    have hg : ∀ q, q ∉ R_B_first → G q = G q := fun _ _ => rfl
    rcases zx_if_some hf with ⟨hc_1, hf⟩ | ⟨hc_1, hf⟩
    · skip
      exact zf_ret hg hf
    · skip
      obtain ⟨hb_2, hf⟩ := zx_gd_some hf
      rcases zx_if_some hf with ⟨hc_3, hf⟩ | ⟨hc_3, hf⟩
      · skip
        exact zf_tr hg (w_B_first_32 ih x1 x2 x3 G hf)
      · skip
        obtain ⟨hb_4, hf⟩ := zx_gd_some hf
        rcases zx_if_some hf with ⟨hc_5, hf⟩ | ⟨hc_5, hf⟩
        · skip
          exact zf_tr hg (w_B_first_32 ih x1 x2 x3 G hf)
        · skip
          exact zf_ret hg hf
theorem w_B_first_0 {r : Int32} {G1 : zx_G} (x1 x2 : Int32) (G : zx_G) (hf : f_B_first x1 x2 G = some (r, G1)) : ∀ q, q ∉ R_B_first → G1 q = G q := by
  unfold f_B_first at hf
  have hg : ∀ q, q ∉ R_B_first → G q = G q := fun _ _ => rfl
  obtain ⟨x3_1, ex3_1, hf⟩ := zx_lt_some hf
  exact zf_tr hg (w_B_first_2 2048 x1 x2 x3_1 G hf)
theorem w_B_first (x1 x2 : Int32) (G : zx_G) {r : Int32} {G1 : zx_G} (hf : f_B_first x1 x2 G = some (r, G1)) : ∀ q, q ∉ R_B_first → G1 q = G q := w_B_first_0 x1 x2 G hf
abbrev R_B_contentLength : List Nat := []
theorem w_B_contentLength_0 {r : Int32} {G1 : zx_G} (x1 : Int32) (G : zx_G) (hf : f_B_contentLength x1 G = some (r, G1)) : ∀ q, q ∉ R_B_contentLength → G1 q = G q := by
  unfold f_B_contentLength at hf
  have hg : ∀ q, q ∉ R_B_contentLength → G q = G q := fun _ _ => rfl
  obtain ⟨hb_1, hf⟩ := zx_gd_some hf
  obtain ⟨hb_2, hf⟩ := zx_gd_some hf
  exact zf_ret hg hf
theorem w_B_contentLength (x1 : Int32) (G : zx_G) {r : Int32} {G1 : zx_G} (hf : f_B_contentLength x1 G = some (r, G1)) : ∀ q, q ∉ R_B_contentLength → G1 q = G q := w_B_contentLength_0 x1 G hf
abbrev R_U_nextByte_10 : List Nat := [10]
theorem w_U_nextByte_10_0 {r : Int32} {G1 : zx_G} (G : zx_G) (hf : f_U_nextByte_10 G = some (r, G1)) : ∀ q, q ∉ R_U_nextByte_10 → G1 q = G q := by
  unfold f_U_nextByte_10 at hf
  have hg : ∀ q, q ∉ R_U_nextByte_10 → G q = G q := fun _ _ => rfl
  rcases zx_if_some hf with ⟨hc_1, hf⟩ | ⟨hc_1, hf⟩
  · skip
    obtain ⟨hb_2, hf⟩ := zx_gd_some hf
    obtain ⟨x1_3, ex1_3, hf⟩ := zx_lt_some hf
    obtain ⟨G_4, eG_4, hf⟩ := zx_lt_some hf
    have hg := zf_up hg eG_4 (by decide)
    exact zf_ret hg hf
  · skip
    exact zf_ret hg hf
theorem w_U_nextByte_10 (G : zx_G) {r : Int32} {G1 : zx_G} (hf : f_U_nextByte_10 G = some (r, G1)) : ∀ q, q ∉ R_U_nextByte_10 → G1 q = G q := w_U_nextByte_10_0 G hf
abbrev R_U_skip_10 : List Nat := [10]
theorem w_U_skip_10_17 {r : Int32} {G1 : zx_G} (G : zx_G) (hf : f_U_skip_10_17 G = some (r, G1)) : ∀ q, q ∉ R_U_skip_10 → G1 q = G q := by
  unfold f_U_skip_10_17 at hf
  have hg : ∀ q, q ∉ R_U_skip_10 → G q = G q := fun _ _ => rfl
  obtain ⟨hb_1, hf⟩ := zx_gd_some hf
  exact zf_ret hg hf
theorem w_U_skip_10_0 {r : Int32} {G1 : zx_G} (x1 : Int32) (G : zx_G) (hf : f_U_skip_10 x1 G = some (r, G1)) : ∀ q, q ∉ R_U_skip_10 → G1 q = G q := by
  unfold f_U_skip_10 at hf
  have hg : ∀ q, q ∉ R_U_skip_10 → G q = G q := fun _ _ => rfl
  rcases zx_if_some hf with ⟨hc_1, hf⟩ | ⟨hc_1, hf⟩
  · skip
    exact zf_tr hg (w_U_skip_10_17 G hf)
  · skip
    rcases zx_if_some hf with ⟨hc_2, hf⟩ | ⟨hc_2, hf⟩
    · skip
      obtain ⟨G_3, eG_3, hf⟩ := zx_lt_some hf
      have hg := zf_up hg eG_3 (by decide)
      obtain ⟨hb_4, hf⟩ := zx_gd_some hf
      exact zf_ret hg hf
    · skip
      exact zf_tr hg (w_U_skip_10_17 G hf)
theorem w_U_skip_10 (x1 : Int32) (G : zx_G) {r : Int32} {G1 : zx_G} (hf : f_U_skip_10 x1 G = some (r, G1)) : ∀ q, q ∉ R_U_skip_10 → G1 q = G q := w_U_skip_10_0 x1 G hf
abbrev R_I_readPairs : List Nat := [8, 9, 10]
theorem w_I_readPairs_60 {r : Int32} {G1 : zx_G} (G : zx_G) (hf : f_I_readPairs_60 G = some (r, G1)) : ∀ q, q ∉ R_I_readPairs → G1 q = G q := by
  unfold f_I_readPairs_60 at hf
  have hg : ∀ q, q ∉ R_I_readPairs → G q = G q := fun _ _ => rfl
  exact zf_ret hg hf
theorem w_I_readPairs_7 {r : Int32} {G1 : zx_G} : ∀ (n : Nat) (x1 x2 : Int32) (G : zx_G), f_I_readPairs_7 n x1 x2 G = some (r, G1) → ∀ q, q ∉ R_I_readPairs → G1 q = G q := by
  intro n
  induction n with
  | zero => intro x1 x2 G hf; cases hf
  | succ n ih =>
    intro x1 x2 G hf
    unfold f_I_readPairs_7 at hf
    have hg : ∀ q, q ∉ R_I_readPairs → G q = G q := fun _ _ => rfl
    rcases zx_if_some hf with ⟨hc_1, hf⟩ | ⟨hc_1, hf⟩
    · skip
      exact zf_ret hg hf
    · skip
      obtain ⟨r_3, G_2, hq_4, hf⟩ := zx_bd_some hf
      have hg := zf_call hg (w_U_nextByte_10 G hq_4) (by decide)
      obtain ⟨x3_5, ex3_5, hf⟩ := zx_lt_some hf
      obtain ⟨r_7, G_6, hq_8, hf⟩ := zx_bd_some hf
      have hg := zf_call hg (w_U_nextByte_10 G_2 hq_8) (by decide)
      obtain ⟨x4_9, ex4_9, hf⟩ := zx_lt_some hf
      rcases zx_if_some hf with ⟨hc_10, hf⟩ | ⟨hc_10, hf⟩
      · skip
        rcases zx_if_some hf with ⟨hc_11, hf⟩ | ⟨hc_11, hf⟩
        · skip
          exact zf_tr hg (w_I_readPairs_60 G_6 hf)
        · skip
          rcases zx_if_some hf with ⟨hc_12, hf⟩ | ⟨hc_12, hf⟩
          · skip
            obtain ⟨hb_13, hf⟩ := zx_gd_some hf
            obtain ⟨G_14, eG_14, hf⟩ := zx_lt_some hf
            have hg := zf_cp hg eG_14 (by decide)
            obtain ⟨G_15, eG_15, hf⟩ := zx_lt_some hf
            have hg := zf_up hg eG_15 (by decide)
            obtain ⟨x2_16, ex2_16, hf⟩ := zx_lt_some hf
            exact zf_tr hg (ih x1 x2_16 G_15 hf)
          · skip
            exact zf_tr hg (w_I_readPairs_60 G_6 hf)
      · skip
        exact zf_ret hg hf
theorem w_I_readPairs_0 {r : Int32} {G1 : zx_G} (x1 : Int32) (G : zx_G) (hf : f_I_readPairs x1 G = some (r, G1)) : ∀ q, q ∉ R_I_readPairs → G1 q = G q := by
  unfold f_I_readPairs at hf
  have hg : ∀ q, q ∉ R_I_readPairs → G q = G q := fun _ _ => rfl
  obtain ⟨G_1, eG_1, hf⟩ := zx_lt_some hf
  have hg := zf_up hg eG_1 (by decide)
  obtain ⟨x2_2, ex2_2, hf⟩ := zx_lt_some hf
  exact zf_tr hg (w_I_readPairs_7 2048 x1 x2_2 G_1 hf)
theorem w_I_readPairs (x1 : Int32) (G : zx_G) {r : Int32} {G1 : zx_G} (hf : f_I_readPairs x1 G = some (r, G1)) : ∀ q, q ∉ R_I_readPairs → G1 q = G q := w_I_readPairs_0 x1 G hf
abbrev R_U_open_10 : List Nat := [10]
theorem w_U_open_10_0 {r : Int32} {G1 : zx_G} (x1 x2 : Int32) (G : zx_G) (hf : f_U_open_10 x1 x2 G = some (r, G1)) : ∀ q, q ∉ R_U_open_10 → G1 q = G q := by
  unfold f_U_open_10 at hf
  have hg : ∀ q, q ∉ R_U_open_10 → G q = G q := fun _ _ => rfl
  obtain ⟨G_1, eG_1, hf⟩ := zx_lt_some hf
  have hg := zf_up hg eG_1 (by decide)
  obtain ⟨G_2, eG_2, hf⟩ := zx_lt_some hf
  have hg := zf_up hg eG_2 (by decide)
  obtain ⟨G_3, eG_3, hf⟩ := zx_lt_some hf
  have hg := zf_up hg eG_3 (by decide)
  exact zf_ret hg hf
theorem w_U_open_10 (x1 x2 : Int32) (G : zx_G) {r : Int32} {G1 : zx_G} (hf : f_U_open_10 x1 x2 G = some (r, G1)) : ∀ q, q ∉ R_U_open_10 → G1 q = G q := w_U_open_10_0 x1 x2 G hf
abbrev R_I_readPlaces : List Nat := [8, 9, 10]
theorem w_I_readPlaces_35 {r : Int32} {G1 : zx_G} : ∀ (n : Nat) (x2 x3 : Int32) (G : zx_G), f_I_readPlaces_35 n x2 x3 G = some (r, G1) → ∀ q, q ∉ R_I_readPlaces → G1 q = G q := by
  intro n
  induction n with
  | zero => intro x2 x3 G hf; cases hf
  | succ n ih =>
    intro x2 x3 G hf
    unfold f_I_readPlaces_35 at hf
    have hg : ∀ q, q ∉ R_I_readPlaces → G q = G q := fun _ _ => rfl
    rcases zx_if_some hf with ⟨hc_1, hf⟩ | ⟨hc_1, hf⟩
    · skip
      exact zf_ret hg hf
    · skip
      obtain ⟨r_3, G_2, hq_4, hf⟩ := zx_bd_some hf
      have hg := zf_call hg (w_U_nextByte_10 G hq_4) (by decide)
      obtain ⟨x4_5, ex4_5, hf⟩ := zx_lt_some hf
      obtain ⟨r_7, G_6, hq_8, hf⟩ := zx_bd_some hf
      have hg := zf_call hg (w_U_nextByte_10 G_2 hq_8) (by decide)
      obtain ⟨x5_9, ex5_9, hf⟩ := zx_lt_some hf
      rcases zx_if_some hf with ⟨hc_10, hf⟩ | ⟨hc_10, hf⟩
      · skip
        rcases zx_if_some hf with ⟨hc_11, hf⟩ | ⟨hc_11, hf⟩
        · skip
          obtain ⟨r_13, G_12, hq_14, hf⟩ := zx_bd_some hf
          have hg := zf_call hg (w_U_skip_10 ((2 : Int32) * x5_9) G_6 hq_14) (by decide)
          rcases zx_if_some hf with ⟨hc_15, hf⟩ | ⟨hc_15, hf⟩
          · skip
            obtain ⟨x3_16, ex3_16, hf⟩ := zx_lt_some hf
            exact zf_tr hg (ih x2 x3_16 G_12 hf)
          · skip
            exact zf_ret hg hf
        · skip
          obtain ⟨r_18, G_17, hq_19, hf⟩ := zx_bd_some hf
          have hg := zf_call hg (w_I_readPairs x5_9 G_6 hq_19) (by decide)
          exact zf_ret hg hf
      · skip
        exact zf_ret hg hf
theorem w_I_readPlaces_0 {r : Int32} {G1 : zx_G} (x1 : Int32) (G : zx_G) (hf : f_I_readPlaces x1 G = some (r, G1)) : ∀ q, q ∉ R_I_readPlaces → G1 q = G q := by
  unfold f_I_readPlaces at hf
  have hg : ∀ q, q ∉ R_I_readPlaces → G q = G q := fun _ _ => rfl
  obtain ⟨hb_1, hf⟩ := zx_gd_some hf
  obtain ⟨hb_2, hf⟩ := zx_gd_some hf
  obtain ⟨r_4, G_3, hq_5, hf⟩ := zx_bd_some hf
  have hg := zf_call hg (w_U_open_10 (G 4 (Int32.toNatClampNeg x1)) (G 5 (Int32.toNatClampNeg x1)) G hq_5) (by decide)
  obtain ⟨r_7, G_6, hq_8, hf⟩ := zx_bd_some hf
  have hg := zf_call hg (w_U_nextByte_10 G_3 hq_8) (by decide)
  obtain ⟨x2_9, ex2_9, hf⟩ := zx_lt_some hf
  obtain ⟨x3_10, ex3_10, hf⟩ := zx_lt_some hf
  exact zf_tr hg (w_I_readPlaces_35 2048 x2_9 x3_10 G_6 hf)
theorem w_I_readPlaces (x1 : Int32) (G : zx_G) {r : Int32} {G1 : zx_G} (hf : f_I_readPlaces x1 G = some (r, G1)) : ∀ q, q ∉ R_I_readPlaces → G1 q = G q := w_I_readPlaces_0 x1 G hf
abbrev R_I_areLinksWhole : List Nat := []
theorem w_I_areLinksWhole_16 {r : Int32} {G1 : zx_G} (G : zx_G) (hf : f_I_areLinksWhole_16 G = some (r, G1)) : ∀ q, q ∉ R_I_areLinksWhole → G1 q = G q := by
  unfold f_I_areLinksWhole_16 at hf
  have hg : ∀ q, q ∉ R_I_areLinksWhole → G q = G q := fun _ _ => rfl
  obtain ⟨hb_1, hf⟩ := zx_gd_some hf
  exact zf_ret hg hf
theorem w_I_areLinksWhole_48 {r : Int32} {G1 : zx_G} (G : zx_G) (hf : f_I_areLinksWhole_48 G = some (r, G1)) : ∀ q, q ∉ R_I_areLinksWhole → G1 q = G q := by
  unfold f_I_areLinksWhole_48 at hf
  have hg : ∀ q, q ∉ R_I_areLinksWhole → G q = G q := fun _ _ => rfl
  obtain ⟨hb_1, hf⟩ := zx_gd_some hf
  exact zf_ret hg hf
theorem w_I_areLinksWhole_102 {r : Int32} {G1 : zx_G} (s0 : Int32) (G : zx_G) (hf : f_I_areLinksWhole_102 s0 G = some (r, G1)) : ∀ q, q ∉ R_I_areLinksWhole → G1 q = G q := by
  unfold f_I_areLinksWhole_102 at hf
  have hg : ∀ q, q ∉ R_I_areLinksWhole → G q = G q := fun _ _ => rfl
  obtain ⟨hb_1, hf⟩ := zx_gd_some hf
  exact zf_ret hg hf
theorem w_I_areLinksWhole_101 {r : Int32} {G1 : zx_G} (G : zx_G) (hf : f_I_areLinksWhole_101 G = some (r, G1)) : ∀ q, q ∉ R_I_areLinksWhole → G1 q = G q := by
  unfold f_I_areLinksWhole_101 at hf
  have hg : ∀ q, q ∉ R_I_areLinksWhole → G q = G q := fun _ _ => rfl
  exact zf_tr hg (w_I_areLinksWhole_102 (0 : Int32) G hf)
theorem w_I_areLinksWhole_0 {r : Int32} {G1 : zx_G} (G : zx_G) (hf : f_I_areLinksWhole G = some (r, G1)) : ∀ q, q ∉ R_I_areLinksWhole → G1 q = G q := by
  unfold f_I_areLinksWhole at hf
  have hg : ∀ q, q ∉ R_I_areLinksWhole → G q = G q := fun _ _ => rfl
  rcases zx_if_some hf with ⟨hc_1, hf⟩ | ⟨hc_1, hf⟩
  · skip
    exact zf_tr hg (w_I_areLinksWhole_16 G hf)
  · skip
    rcases zx_if_some hf with ⟨hc_2, hf⟩ | ⟨hc_2, hf⟩
    · skip
      obtain ⟨r_4, G_3, hq_5, hf⟩ := zx_bd_some hf
      have hg := zf_call hg (w_B_contentLength (G 8 8) G hq_5) (by decide)
      rcases zx_if_some hf with ⟨hc_6, hf⟩ | ⟨hc_6, hf⟩
      · skip
        exact zf_tr hg (w_I_areLinksWhole_48 G_3 hf)
      · skip
        obtain ⟨r_8, G_7, hq_9, hf⟩ := zx_bd_some hf
        have hg := zf_call hg (w_B_contentLength (G_3 8 9) G_3 hq_9) (by decide)
        rcases zx_if_some hf with ⟨hc_10, hf⟩ | ⟨hc_10, hf⟩
        · skip
          rcases zx_if_some hf with ⟨hc_11, hf⟩ | ⟨hc_11, hf⟩
          · skip
            obtain ⟨r_13, G_12, hq_14, hf⟩ := zx_bd_some hf
            have hg := zf_call hg (w_B_contentLength (G_7 8 10) G_7 hq_14) (by decide)
            obtain ⟨x1_15, ex1_15, hf⟩ := zx_lt_some hf
            rcases zx_if_some hf with ⟨hc_16, hf⟩ | ⟨hc_16, hf⟩
            · skip
              exact zf_tr hg (w_I_areLinksWhole_101 G_12 hf)
            · skip
              obtain ⟨hb_17, hf⟩ := zx_gd_some hf
              obtain ⟨hb_18, hf⟩ := zx_gd_some hf
              rcases zx_if_some hf with ⟨hc_19, hf⟩ | ⟨hc_19, hf⟩
              · skip
                exact zf_tr hg (w_I_areLinksWhole_101 G_12 hf)
              · skip
                exact zf_tr hg (w_I_areLinksWhole_102 (1 : Int32) G_12 hf)
          · skip
            obtain ⟨hb_20, hf⟩ := zx_gd_some hf
            exact zf_ret hg hf
        · skip
          exact zf_tr hg (w_I_areLinksWhole_48 G_7 hf)
    · skip
      exact zf_tr hg (w_I_areLinksWhole_16 G hf)
theorem w_I_areLinksWhole (G : zx_G) {r : Int32} {G1 : zx_G} (hf : f_I_areLinksWhole G = some (r, G1)) : ∀ q, q ∉ R_I_areLinksWhole → G1 q = G q := w_I_areLinksWhole_0 G hf
abbrev R_U_left_10 : List Nat := []
theorem w_U_left_10_0 {r : Int32} {G1 : zx_G} (G : zx_G) (hf : f_U_left_10 G = some (r, G1)) : ∀ q, q ∉ R_U_left_10 → G1 q = G q := by
  unfold f_U_left_10 at hf
  have hg : ∀ q, q ∉ R_U_left_10 → G q = G q := fun _ _ => rfl
  exact zf_ret hg hf
theorem w_U_left_10 (G : zx_G) {r : Int32} {G1 : zx_G} (hf : f_U_left_10 G = some (r, G1)) : ∀ q, q ∉ R_U_left_10 → G1 q = G q := w_U_left_10_0 G hf
abbrev R_B_property : List Nat := []
theorem w_B_property_48 {r : Int32} {G1 : zx_G} {k5 : Int32 → Int32 → Int32 → Int32 → zx_G → Option (Int32 × zx_G)} (hk5 : ∀ (x1 x2 x3 x4 : Int32) (G : zx_G), k5 x1 x2 x3 x4 G = some (r, G1) → ∀ q, q ∉ R_B_property → G1 q = G q) (x1 x2 x3 x4 : Int32) (G : zx_G) (hf : f_B_property_48 k5 x1 x2 x3 x4 G = some (r, G1)) : ∀ q, q ∉ R_B_property → G1 q = G q := by
  unfold f_B_property_48 at hf
  have hg : ∀ q, q ∉ R_B_property → G q = G q := fun _ _ => rfl
  obtain ⟨x4_1, ex4_1, hf⟩ := zx_lt_some hf
  exact zf_tr hg (hk5 x1 x2 x3 x4_1 G hf)
theorem w_B_property_5 {r : Int32} {G1 : zx_G} : ∀ (n : Nat) (x1 x2 x3 x4 : Int32) (G : zx_G), f_B_property_5 n x1 x2 x3 x4 G = some (r, G1) → ∀ q, q ∉ R_B_property → G1 q = G q := by
  intro n
  induction n with
  | zero => intro x1 x2 x3 x4 G hf; cases hf
  | succ n ih =>
    intro x1 x2 x3 x4 G hf
    unfold f_B_property_5 at hf
    have hg : ∀ q, q ∉ R_B_property → G q = G q := fun _ _ => rfl
    rcases zx_if_some hf with ⟨hc_1, hf⟩ | ⟨hc_1, hf⟩
    · skip
      exact zf_ret hg hf
    · skip
      obtain ⟨hb_2, hf⟩ := zx_gd_some hf
      rcases zx_if_some hf with ⟨hc_3, hf⟩ | ⟨hc_3, hf⟩
      · skip
        exact zf_tr hg (w_B_property_48 ih x1 x2 x3 x4 G hf)
      · skip
        obtain ⟨hb_4, hf⟩ := zx_gd_some hf
        rcases zx_if_some hf with ⟨hc_5, hf⟩ | ⟨hc_5, hf⟩
        · skip
          exact zf_tr hg (w_B_property_48 ih x1 x2 x3 x4 G hf)
        · skip
          obtain ⟨x3_6, ex3_6, hf⟩ := zx_lt_some hf
          rcases zx_if_some hf with ⟨hc_7, hf⟩ | ⟨hc_7, hf⟩
          · skip
            exact zf_tr hg (w_B_property_48 ih x1 x2 x3_6 x4 G hf)
          · skip
            exact zf_ret hg hf
theorem w_B_property_0 {r : Int32} {G1 : zx_G} (x1 x2 : Int32) (G : zx_G) (hf : f_B_property x1 x2 G = some (r, G1)) : ∀ q, q ∉ R_B_property → G1 q = G q := by
  unfold f_B_property at hf
  have hg : ∀ q, q ∉ R_B_property → G q = G q := fun _ _ => rfl
  obtain ⟨x3_1, ex3_1, hf⟩ := zx_lt_some hf
  obtain ⟨x4_2, ex4_2, hf⟩ := zx_lt_some hf
  exact zf_tr hg (w_B_property_5 2048 x1 x2 x3_1 x4_2 G hf)
theorem w_B_property (x1 x2 : Int32) (G : zx_G) {r : Int32} {G1 : zx_G} (hf : f_B_property x1 x2 G = some (r, G1)) : ∀ q, q ∉ R_B_property → G1 q = G q := w_B_property_0 x1 x2 G hf
abbrev R_I_link : List Nat := [8]
theorem w_I_link_140 {r : Int32} {G1 : zx_G} (G : zx_G) (hf : f_I_link_140 G = some (r, G1)) : ∀ q, q ∉ R_I_link → G1 q = G q := by
  unfold f_I_link_140 at hf
  have hg : ∀ q, q ∉ R_I_link → G q = G q := fun _ _ => rfl
  exact zf_ret hg hf
theorem w_I_link_65 {r : Int32} {G1 : zx_G} (s1 : Int32) (G : zx_G) (hf : f_I_link_65 s1 G = some (r, G1)) : ∀ q, q ∉ R_I_link → G1 q = G q := by
  unfold f_I_link_65 at hf
  have hg : ∀ q, q ∉ R_I_link → G q = G q := fun _ _ => rfl
  obtain ⟨G_1, eG_1, hf⟩ := zx_lt_some hf
  have hg := zf_up hg eG_1 (by decide)
  exact zf_tr hg (w_I_link_140 G_1 hf)
theorem w_I_link_95 {r : Int32} {G1 : zx_G} (s1 : Int32) (G : zx_G) (hf : f_I_link_95 s1 G = some (r, G1)) : ∀ q, q ∉ R_I_link → G1 q = G q := by
  unfold f_I_link_95 at hf
  have hg : ∀ q, q ∉ R_I_link → G q = G q := fun _ _ => rfl
  obtain ⟨G_1, eG_1, hf⟩ := zx_lt_some hf
  have hg := zf_up hg eG_1 (by decide)
  exact zf_tr hg (w_I_link_140 G_1 hf)
theorem w_I_link_125 {r : Int32} {G1 : zx_G} (s1 : Int32) (G : zx_G) (hf : f_I_link_125 s1 G = some (r, G1)) : ∀ q, q ∉ R_I_link → G1 q = G q := by
  unfold f_I_link_125 at hf
  have hg : ∀ q, q ∉ R_I_link → G q = G q := fun _ _ => rfl
  obtain ⟨G_1, eG_1, hf⟩ := zx_lt_some hf
  have hg := zf_up hg eG_1 (by decide)
  exact zf_tr hg (w_I_link_140 G_1 hf)
theorem w_I_link_0 {r : Int32} {G1 : zx_G} (x1 : Int32) (G : zx_G) (hf : f_I_link x1 G = some (r, G1)) : ∀ q, q ∉ R_I_link → G1 q = G q := by
  unfold f_I_link at hf
  have hg : ∀ q, q ∉ R_I_link → G q = G q := fun _ _ => rfl
  obtain ⟨x2_1, ex2_1, hf⟩ := zx_lt_some hf
  rcases zx_if_some hf with ⟨hc_2, hf⟩ | ⟨hc_2, hf⟩
  · skip
    obtain ⟨r_4, G_3, hq_5, hf⟩ := zx_bd_some hf
    have hg := zf_call hg (w_B_property (G 8 7) x2_1 G hq_5) (by decide)
    obtain ⟨x3_6, ex3_6, hf⟩ := zx_lt_some hf
    rcases zx_if_some hf with ⟨hc_7, hf⟩ | ⟨hc_7, hf⟩
    · skip
      obtain ⟨hb_8, hf⟩ := zx_gd_some hf
      obtain ⟨x4_9, ex4_9, hf⟩ := zx_lt_some hf
      rcases zx_if_some hf with ⟨hc_10, hf⟩ | ⟨hc_10, hf⟩
      · skip
        rcases zx_if_some hf with ⟨hc_11, hf⟩ | ⟨hc_11, hf⟩
        · skip
          rcases zx_if_some hf with ⟨hc_12, hf⟩ | ⟨hc_12, hf⟩
          · skip
            rcases zx_if_some hf with ⟨hc_13, hf⟩ | ⟨hc_13, hf⟩
            · skip
              exact zf_tr hg (w_I_link_140 G_3 hf)
            · skip
              exact zf_ret hg hf
          · skip
            rcases zx_if_some hf with ⟨hc_14, hf⟩ | ⟨hc_14, hf⟩
            · skip
              exact zf_tr hg (w_I_link_125 (G_3 8 10) G_3 hf)
            · skip
              exact zf_tr hg (w_I_link_125 x3_6 G_3 hf)
        · skip
          rcases zx_if_some hf with ⟨hc_15, hf⟩ | ⟨hc_15, hf⟩
          · skip
            exact zf_tr hg (w_I_link_95 (G_3 8 9) G_3 hf)
          · skip
            exact zf_tr hg (w_I_link_95 x3_6 G_3 hf)
      · skip
        rcases zx_if_some hf with ⟨hc_16, hf⟩ | ⟨hc_16, hf⟩
        · skip
          exact zf_tr hg (w_I_link_65 (G_3 8 8) G_3 hf)
        · skip
          exact zf_tr hg (w_I_link_65 x3_6 G_3 hf)
    · skip
      exact zf_ret hg hf
  · skip
    exact zf_ret hg hf
theorem w_I_link (x1 : Int32) (G : zx_G) {r : Int32} {G1 : zx_G} (hf : f_I_link x1 G = some (r, G1)) : ∀ q, q ∉ R_I_link → G1 q = G q := w_I_link_0 x1 G hf
abbrev R_I_readLink : List Nat := [8, 10]
theorem w_I_readLink_63 {r : Int32} {G1 : zx_G} {k24 : Int32 → Int32 → Int32 → zx_G → Option (Int32 × zx_G)} (hk24 : ∀ (x1 x2 x3 : Int32) (G : zx_G), k24 x1 x2 x3 G = some (r, G1) → ∀ q, q ∉ R_I_readLink → G1 q = G q) (x1 x2 x3 s0 : Int32) (G : zx_G) (hf : f_I_readLink_63 k24 x1 x2 x3 s0 G = some (r, G1)) : ∀ q, q ∉ R_I_readLink → G1 q = G q := by
  unfold f_I_readLink_63 at hf
  have hg : ∀ q, q ∉ R_I_readLink → G q = G q := fun _ _ => rfl
  obtain ⟨x5_1, ex5_1, hf⟩ := zx_lt_some hf
  rcases zx_if_some hf with ⟨hc_2, hf⟩ | ⟨hc_2, hf⟩
  · skip
    obtain ⟨x3_3, ex3_3, hf⟩ := zx_lt_some hf
    exact zf_tr hg (hk24 x1 x2 x3_3 G hf)
  · skip
    exact zf_ret hg hf
theorem w_I_readLink_24 {r : Int32} {G1 : zx_G} : ∀ (n : Nat) (x1 x2 x3 : Int32) (G : zx_G), f_I_readLink_24 n x1 x2 x3 G = some (r, G1) → ∀ q, q ∉ R_I_readLink → G1 q = G q := by
  intro n
  induction n with
  | zero => intro x1 x2 x3 G hf; cases hf
  | succ n ih =>
    intro x1 x2 x3 G hf
    unfold f_I_readLink_24 at hf
    have hg : ∀ q, q ∉ R_I_readLink → G q = G q := fun _ _ => rfl
    rcases zx_if_some hf with ⟨hc_1, hf⟩ | ⟨hc_1, hf⟩
    · skip
      exact zf_ret hg hf
    · skip
      obtain ⟨r_3, G_2, hq_4, hf⟩ := zx_bd_some hf
      have hg := zf_call hg (w_U_nextByte_10 G hq_4) (by decide)
      obtain ⟨x4_5, ex4_5, hf⟩ := zx_lt_some hf
      rcases zx_if_some hf with ⟨hc_6, hf⟩ | ⟨hc_6, hf⟩
      · skip
        rcases zx_if_some hf with ⟨hc_7, hf⟩ | ⟨hc_7, hf⟩
        · skip
          exact zf_tr hg (w_I_readLink_63 ih x1 x2 x3 (0 : Int32) G_2 hf)
        · skip
          obtain ⟨r_9, G_8, hq_10, hf⟩ := zx_bd_some hf
          have hg := zf_call hg (w_I_link x4_5 G_2 hq_10) (by decide)
          exact zf_tr hg (w_I_readLink_63 ih x1 x2 x3 r_9 G_8 hf)
      · skip
        exact zf_ret hg hf
theorem w_I_readLink_0 {r : Int32} {G1 : zx_G} (G : zx_G) (hf : f_I_readLink G = some (r, G1)) : ∀ q, q ∉ R_I_readLink → G1 q = G q := by
  unfold f_I_readLink at hf
  have hg : ∀ q, q ∉ R_I_readLink → G q = G q := fun _ _ => rfl
  obtain ⟨r_2, G_1, hq_3, hf⟩ := zx_bd_some hf
  have hg := zf_call hg (w_U_nextByte_10 G hq_3) (by decide)
  obtain ⟨x1_4, ex1_4, hf⟩ := zx_lt_some hf
  obtain ⟨r_6, G_5, hq_7, hf⟩ := zx_bd_some hf
  have hg := zf_call hg (w_U_nextByte_10 G_1 hq_7) (by decide)
  obtain ⟨x2_8, ex2_8, hf⟩ := zx_lt_some hf
  rcases zx_if_some hf with ⟨hc_9, hf⟩ | ⟨hc_9, hf⟩
  · skip
    obtain ⟨x3_10, ex3_10, hf⟩ := zx_lt_some hf
    exact zf_tr hg (w_I_readLink_24 2048 x1_4 x2_8 x3_10 G_5 hf)
  · skip
    exact zf_ret hg hf
theorem w_I_readLink (G : zx_G) {r : Int32} {G1 : zx_G} (hf : f_I_readLink G = some (r, G1)) : ∀ q, q ∉ R_I_readLink → G1 q = G q := w_I_readLink_0 G hf
abbrev R_I_readLinks : List Nat := [8, 10]
theorem w_I_readLinks_88 {r : Int32} {G1 : zx_G} (s0 : Int32) (G : zx_G) (hf : f_I_readLinks_88 s0 G = some (r, G1)) : ∀ q, q ∉ R_I_readLinks → G1 q = G q := by
  unfold f_I_readLinks_88 at hf
  have hg : ∀ q, q ∉ R_I_readLinks → G q = G q := fun _ _ => rfl
  exact zf_ret hg hf
theorem w_I_readLinks_76 {r : Int32} {G1 : zx_G} (G : zx_G) (hf : f_I_readLinks_76 G = some (r, G1)) : ∀ q, q ∉ R_I_readLinks → G1 q = G q := by
  unfold f_I_readLinks_76 at hf
  have hg : ∀ q, q ∉ R_I_readLinks → G q = G q := fun _ _ => rfl
  obtain ⟨r_2, G_1, hq_3, hf⟩ := zx_bd_some hf
  have hg := zf_call hg (w_I_areLinksWhole G hq_3) (by decide)
  rcases zx_if_some hf with ⟨hc_4, hf⟩ | ⟨hc_4, hf⟩
  · skip
    exact zf_tr hg (w_I_readLinks_88 (3 : Int32) G_1 hf)
  · skip
    exact zf_tr hg (w_I_readLinks_88 (0 : Int32) G_1 hf)
theorem w_I_readLinks_42 {r : Int32} {G1 : zx_G} : ∀ (n : Nat) (x2 : Int32) (G : zx_G), f_I_readLinks_42 n x2 G = some (r, G1) → ∀ q, q ∉ R_I_readLinks → G1 q = G q := by
  intro n
  induction n with
  | zero => intro x2 G hf; cases hf
  | succ n ih =>
    intro x2 G hf
    unfold f_I_readLinks_42 at hf
    have hg : ∀ q, q ∉ R_I_readLinks → G q = G q := fun _ _ => rfl
    rcases zx_if_some hf with ⟨hc_1, hf⟩ | ⟨hc_1, hf⟩
    · skip
      exact zf_tr hg (w_I_readLinks_76 G hf)
    · skip
      obtain ⟨r_3, G_2, hq_4, hf⟩ := zx_bd_some hf
      have hg := zf_call hg (w_U_left_10 G hq_4) (by decide)
      rcases zx_if_some hf with ⟨hc_5, hf⟩ | ⟨hc_5, hf⟩
      · skip
        exact zf_tr hg (w_I_readLinks_76 G_2 hf)
      · skip
        obtain ⟨r_7, G_6, hq_8, hf⟩ := zx_bd_some hf
        have hg := zf_call hg (w_I_readLink G_2 hq_8) (by decide)
        obtain ⟨x3_9, ex3_9, hf⟩ := zx_lt_some hf
        rcases zx_if_some hf with ⟨hc_10, hf⟩ | ⟨hc_10, hf⟩
        · skip
          obtain ⟨x2_11, ex2_11, hf⟩ := zx_lt_some hf
          exact zf_tr hg (ih x2_11 G_6 hf)
        · skip
          exact zf_ret hg hf
theorem w_I_readLinks_0 {r : Int32} {G1 : zx_G} (x1 : Int32) (G : zx_G) (hf : f_I_readLinks x1 G = some (r, G1)) : ∀ q, q ∉ R_I_readLinks → G1 q = G q := by
  unfold f_I_readLinks at hf
  have hg : ∀ q, q ∉ R_I_readLinks → G q = G q := fun _ _ => rfl
  obtain ⟨G_1, eG_1, hf⟩ := zx_lt_some hf
  have hg := zf_up hg eG_1 (by decide)
  obtain ⟨G_2, eG_2, hf⟩ := zx_lt_some hf
  have hg := zf_up hg eG_2 (by decide)
  obtain ⟨G_3, eG_3, hf⟩ := zx_lt_some hf
  have hg := zf_up hg eG_3 (by decide)
  obtain ⟨hb_4, hf⟩ := zx_gd_some hf
  obtain ⟨hb_5, hf⟩ := zx_gd_some hf
  obtain ⟨r_7, G_6, hq_8, hf⟩ := zx_bd_some hf
  have hg := zf_call hg (w_U_open_10 (G_3 4 (Int32.toNatClampNeg x1)) (G_3 5 (Int32.toNatClampNeg x1)) G_3 hq_8) (by decide)
  obtain ⟨x2_9, ex2_9, hf⟩ := zx_lt_some hf
  exact zf_tr hg (w_I_readLinks_42 2048 x2_9 G_6 hf)
theorem w_I_readLinks (x1 : Int32) (G : zx_G) {r : Int32} {G1 : zx_G} (hf : f_I_readLinks x1 G = some (r, G1)) : ∀ q, q ∉ R_I_readLinks → G1 q = G q := w_I_readLinks_0 x1 G hf
abbrev R_I_find : List Nat := [8, 9, 10]
theorem w_I_find_87 {r : Int32} {G1 : zx_G} (G : zx_G) (hf : f_I_find_87 G = some (r, G1)) : ∀ q, q ∉ R_I_find → G1 q = G q := by
  unfold f_I_find_87 at hf
  have hg : ∀ q, q ∉ R_I_find → G q = G q := fun _ _ => rfl
  exact zf_ret hg hf
theorem w_I_find_120 {r : Int32} {G1 : zx_G} (G : zx_G) (hf : f_I_find_120 G = some (r, G1)) : ∀ q, q ∉ R_I_find → G1 q = G q := by
  unfold f_I_find_120 at hf
  have hg : ∀ q, q ∉ R_I_find → G q = G q := fun _ _ => rfl
  exact zf_ret hg hf
theorem w_I_find_164 {r : Int32} {G1 : zx_G} (s0 : Int32) (G : zx_G) (hf : f_I_find_164 s0 G = some (r, G1)) : ∀ q, q ∉ R_I_find → G1 q = G q := by
  unfold f_I_find_164 at hf
  have hg : ∀ q, q ∉ R_I_find → G q = G q := fun _ _ => rfl
  exact zf_ret hg hf
theorem w_I_find_0 {r : Int32} {G1 : zx_G} (x1 : Int32) (G : zx_G) (hf : f_I_find x1 G = some (r, G1)) : ∀ q, q ∉ R_I_find → G1 q = G q := by
  unfold f_I_find at hf
  have hg : ∀ q, q ∉ R_I_find → G q = G q := fun _ _ => rfl
  obtain ⟨G_1, eG_1, hf⟩ := zx_lt_some hf
  have hg := zf_up hg eG_1 (by decide)
  obtain ⟨r_3, G_2, hq_4, hf⟩ := zx_bd_some hf
  have hg := zf_call hg (w_B_isBranded G_1 hq_4) (by decide)
  rcases zx_if_some hf with ⟨hc_5, hf⟩ | ⟨hc_5, hf⟩
  · skip
    obtain ⟨r_7, G_6, hq_8, hf⟩ := zx_bd_some hf
    have hg := zf_call hg (w_B_first (-1 : Int32) (109 : Int32) G_2 hq_8) (by decide)
    obtain ⟨x2_9, ex2_9, hf⟩ := zx_lt_some hf
    rcases zx_if_some hf with ⟨hc_10, hf⟩ | ⟨hc_10, hf⟩
    · skip
      obtain ⟨r_12, G_11, hq_13, hf⟩ := zx_bd_some hf
      have hg := zf_call hg (w_B_first x2_9 (112 : Int32) G_6 hq_13) (by decide)
      obtain ⟨x3_14, ex3_14, hf⟩ := zx_lt_some hf
      obtain ⟨r_16, G_15, hq_17, hf⟩ := zx_bd_some hf
      have hg := zf_call hg (w_B_first x2_9 (108 : Int32) G_11 hq_17) (by decide)
      obtain ⟨x4_18, ex4_18, hf⟩ := zx_lt_some hf
      obtain ⟨r_20, G_19, hq_21, hf⟩ := zx_bd_some hf
      have hg := zf_call hg (w_B_first x2_9 (114 : Int32) G_15 hq_21) (by decide)
      obtain ⟨G_22, eG_22, hf⟩ := zx_lt_some hf
      have hg := zf_up hg eG_22 (by decide)
      rcases zx_if_some hf with ⟨hc_23, hf⟩ | ⟨hc_23, hf⟩
      · skip
        exact zf_tr hg (w_I_find_87 G_22 hf)
      · skip
        rcases zx_if_some hf with ⟨hc_24, hf⟩ | ⟨hc_24, hf⟩
        · skip
          exact zf_tr hg (w_I_find_87 G_22 hf)
        · skip
          rcases zx_if_some hf with ⟨hc_25, hf⟩ | ⟨hc_25, hf⟩
          · skip
            obtain ⟨r_27, G_26, hq_28, hf⟩ := zx_bd_some hf
            have hg := zf_call hg (w_B_first (G_22 8 7) (97 : Int32) G_22 hq_28) (by decide)
            obtain ⟨x5_29, ex5_29, hf⟩ := zx_lt_some hf
            rcases zx_if_some hf with ⟨hc_30, hf⟩ | ⟨hc_30, hf⟩
            · skip
              exact zf_tr hg (w_I_find_120 G_26 hf)
            · skip
              obtain ⟨r_32, G_31, hq_33, hf⟩ := zx_bd_some hf
              have hg := zf_call hg (w_B_contentLength x3_14 G_26 hq_33) (by decide)
              rcases zx_if_some hf with ⟨hc_34, hf⟩ | ⟨hc_34, hf⟩
              · skip
                obtain ⟨hb_35, hf⟩ := zx_gd_some hf
                obtain ⟨hb_36, hf⟩ := zx_gd_some hf
                obtain ⟨G_37, eG_37, hf⟩ := zx_lt_some hf
                have hg := zf_up hg eG_37 (by decide)
                obtain ⟨r_39, G_38, hq_40, hf⟩ := zx_bd_some hf
                have hg := zf_call hg (w_I_readPlaces x4_18 G_37 hq_40) (by decide)
                obtain ⟨x6_41, ex6_41, hf⟩ := zx_lt_some hf
                rcases zx_if_some hf with ⟨hc_42, hf⟩ | ⟨hc_42, hf⟩
                · skip
                  exact zf_tr hg (w_I_find_164 x6_41 G_38 hf)
                · skip
                  obtain ⟨r_44, G_43, hq_45, hf⟩ := zx_bd_some hf
                  have hg := zf_call hg (w_I_readLinks x5_29 G_38 hq_45) (by decide)
                  exact zf_tr hg (w_I_find_164 r_44 G_43 hf)
              · skip
                exact zf_tr hg (w_I_find_120 G_31 hf)
          · skip
            exact zf_tr hg (w_I_find_87 G_22 hf)
    · skip
      exact zf_ret hg hf
  · skip
    exact zf_ret hg hf
theorem w_I_find (x1 : Int32) (G : zx_G) {r : Int32} {G1 : zx_G} (hf : f_I_find x1 G = some (r, G1)) : ∀ q, q ∉ R_I_find → G1 q = G q := w_I_find_0 x1 G hf
abbrev R_S_decode : List Nat := [0, 2, 3, 4, 5, 6, 7, 8, 9, 10, 11, 12, 13, 14, 15, 16, 17, 18, 19, 20, 22, 24, 25, 26, 27, 28, 29, 31]
theorem w_S_decode_73 {r : Int32} {G1 : zx_G} (x1 : Int32) (G : zx_G) (hf : f_S_decode_73 x1 G = some (r, G1)) : ∀ q, q ∉ R_S_decode → G1 q = G q := by
  unfold f_S_decode_73 at hf
  have hg : ∀ q, q ∉ R_S_decode → G q = G q := fun _ _ => rfl
  exact zf_ret hg hf
theorem w_S_decode_57 {r : Int32} {G1 : zx_G} (x1 : Int32) (G : zx_G) (hf : f_S_decode_57 x1 G = some (r, G1)) : ∀ q, q ∉ R_S_decode → G1 q = G q := by
  unfold f_S_decode_57 at hf
  have hg : ∀ q, q ∉ R_S_decode → G q = G q := fun _ _ => rfl
  rcases zx_if_some hf with ⟨hc_1, hf⟩ | ⟨hc_1, hf⟩
  · skip
    exact zf_tr hg (w_S_decode_73 x1 G hf)
  · skip
    obtain ⟨r_3, G_2, hq_4, hf⟩ := zx_bd_some hf
    have hg := zf_call hg (w_F_run G hq_4) (by decide)
    obtain ⟨hb_5, hf⟩ := zx_gd_some hf
    obtain ⟨G_6, eG_6, hf⟩ := zx_lt_some hf
    have hg := zf_up hg eG_6 (by decide)
    exact zf_tr hg (w_S_decode_73 x1 G_6 hf)
theorem w_S_decode_45 {r : Int32} {G1 : zx_G} (x1 : Int32) (G : zx_G) (hf : f_S_decode_45 x1 G = some (r, G1)) : ∀ q, q ∉ R_S_decode → G1 q = G q := by
  unfold f_S_decode_45 at hf
  have hg : ∀ q, q ∉ R_S_decode → G q = G q := fun _ _ => rfl
  rcases zx_if_some hf with ⟨hc_1, hf⟩ | ⟨hc_1, hf⟩
  · skip
    exact zf_tr hg (w_S_decode_57 x1 G hf)
  · skip
    obtain ⟨r_3, G_2, hq_4, hf⟩ := zx_bd_some hf
    have hg := zf_call hg (w_T_read G hq_4) (by decide)
    obtain ⟨x1_5, ex1_5, hf⟩ := zx_lt_some hf
    exact zf_tr hg (w_S_decode_57 x1_5 G_2 hf)
theorem w_S_decode_33 {r : Int32} {G1 : zx_G} (x1 : Int32) (G : zx_G) (hf : f_S_decode_33 x1 G = some (r, G1)) : ∀ q, q ∉ R_S_decode → G1 q = G q := by
  unfold f_S_decode_33 at hf
  have hg : ∀ q, q ∉ R_S_decode → G q = G q := fun _ _ => rfl
  rcases zx_if_some hf with ⟨hc_1, hf⟩ | ⟨hc_1, hf⟩
  · skip
    exact zf_tr hg (w_S_decode_45 x1 G hf)
  · skip
    obtain ⟨r_3, G_2, hq_4, hf⟩ := zx_bd_some hf
    have hg := zf_call hg (w_H_read G hq_4) (by decide)
    obtain ⟨x1_5, ex1_5, hf⟩ := zx_lt_some hf
    exact zf_tr hg (w_S_decode_45 x1_5 G_2 hf)
theorem w_S_decode_0 {r : Int32} {G1 : zx_G} (G : zx_G) (hf : f_S_decode G = some (r, G1)) : ∀ q, q ∉ R_S_decode → G1 q = G q := by
  unfold f_S_decode at hf
  have hg : ∀ q, q ∉ R_S_decode → G q = G q := fun _ _ => rfl
  obtain ⟨hb_1, hf⟩ := zx_gd_some hf
  obtain ⟨G_2, eG_2, hf⟩ := zx_lt_some hf
  have hg := zf_up hg eG_2 (by decide)
  obtain ⟨r_4, G_3, hq_5, hf⟩ := zx_bd_some hf
  have hg := zf_call hg (w_B_read (G_2 0 8) G_2 hq_5) (by decide)
  obtain ⟨x1_6, ex1_6, hf⟩ := zx_lt_some hf
  rcases zx_if_some hf with ⟨hc_7, hf⟩ | ⟨hc_7, hf⟩
  · skip
    exact zf_tr hg (w_S_decode_33 x1_6 G_3 hf)
  · skip
    obtain ⟨r_9, G_8, hq_10, hf⟩ := zx_bd_some hf
    have hg := zf_call hg (w_I_find (G_3 0 8) G_3 hq_10) (by decide)
    obtain ⟨x1_11, ex1_11, hf⟩ := zx_lt_some hf
    exact zf_tr hg (w_S_decode_33 x1_11 G_8 hf)
theorem w_S_decode (G : zx_G) {r : Int32} {G1 : zx_G} (hf : f_S_decode G = some (r, G1)) : ∀ q, q ∉ R_S_decode → G1 q = G q := w_S_decode_0 G hf
abbrev R_S_planes : List Nat := []
theorem w_S_planes_18 {r : Int32} {G1 : zx_G} (s0 : Int32) (G : zx_G) (hf : f_S_planes_18 s0 G = some (r, G1)) : ∀ q, q ∉ R_S_planes → G1 q = G q := by
  unfold f_S_planes_18 at hf
  have hg : ∀ q, q ∉ R_S_planes → G q = G q := fun _ _ => rfl
  exact zf_ret hg hf
theorem w_S_planes_0 {r : Int32} {G1 : zx_G} (G : zx_G) (hf : f_S_planes G = some (r, G1)) : ∀ q, q ∉ R_S_planes → G1 q = G q := by
  unfold f_S_planes at hf
  have hg : ∀ q, q ∉ R_S_planes → G q = G q := fun _ _ => rfl
  rcases zx_if_some hf with ⟨hc_1, hf⟩ | ⟨hc_1, hf⟩
  · skip
    exact zf_tr hg (w_S_planes_18 (0 : Int32) G hf)
  · skip
    exact zf_tr hg (w_S_planes_18 (G 11 6) G hf)
theorem w_S_planes (G : zx_G) {r : Int32} {G1 : zx_G} (hf : f_S_planes G = some (r, G1)) : ∀ q, q ∉ R_S_planes → G1 q = G q := w_S_planes_0 G hf
abbrev R_S_width : List Nat := []
theorem w_S_width_18 {r : Int32} {G1 : zx_G} (s0 : Int32) (G : zx_G) (hf : f_S_width_18 s0 G = some (r, G1)) : ∀ q, q ∉ R_S_width → G1 q = G q := by
  unfold f_S_width_18 at hf
  have hg : ∀ q, q ∉ R_S_width → G q = G q := fun _ _ => rfl
  exact zf_ret hg hf
theorem w_S_width_0 {r : Int32} {G1 : zx_G} (G : zx_G) (hf : f_S_width G = some (r, G1)) : ∀ q, q ∉ R_S_width → G1 q = G q := by
  unfold f_S_width at hf
  have hg : ∀ q, q ∉ R_S_width → G q = G q := fun _ _ => rfl
  rcases zx_if_some hf with ⟨hc_1, hf⟩ | ⟨hc_1, hf⟩
  · skip
    exact zf_tr hg (w_S_width_18 (0 : Int32) G hf)
  · skip
    exact zf_tr hg (w_S_width_18 (G 11 7) G hf)
theorem w_S_width (G : zx_G) {r : Int32} {G1 : zx_G} (hf : f_S_width G = some (r, G1)) : ∀ q, q ∉ R_S_width → G1 q = G q := w_S_width_0 G hf
abbrev R_S_height : List Nat := []
theorem w_S_height_18 {r : Int32} {G1 : zx_G} (s0 : Int32) (G : zx_G) (hf : f_S_height_18 s0 G = some (r, G1)) : ∀ q, q ∉ R_S_height → G1 q = G q := by
  unfold f_S_height_18 at hf
  have hg : ∀ q, q ∉ R_S_height → G q = G q := fun _ _ => rfl
  exact zf_ret hg hf
theorem w_S_height_0 {r : Int32} {G1 : zx_G} (G : zx_G) (hf : f_S_height G = some (r, G1)) : ∀ q, q ∉ R_S_height → G1 q = G q := by
  unfold f_S_height at hf
  have hg : ∀ q, q ∉ R_S_height → G q = G q := fun _ _ => rfl
  rcases zx_if_some hf with ⟨hc_1, hf⟩ | ⟨hc_1, hf⟩
  · skip
    exact zf_tr hg (w_S_height_18 (0 : Int32) G hf)
  · skip
    exact zf_tr hg (w_S_height_18 (G 11 8) G hf)
theorem w_S_height (G : zx_G) {r : Int32} {G1 : zx_G} (hf : f_S_height G = some (r, G1)) : ∀ q, q ∉ R_S_height → G1 q = G q := w_S_height_0 G hf
abbrev R_S_depth : List Nat := []
theorem w_S_depth_18 {r : Int32} {G1 : zx_G} (s0 : Int32) (G : zx_G) (hf : f_S_depth_18 s0 G = some (r, G1)) : ∀ q, q ∉ R_S_depth → G1 q = G q := by
  unfold f_S_depth_18 at hf
  have hg : ∀ q, q ∉ R_S_depth → G q = G q := fun _ _ => rfl
  exact zf_ret hg hf
theorem w_S_depth_0 {r : Int32} {G1 : zx_G} (G : zx_G) (hf : f_S_depth G = some (r, G1)) : ∀ q, q ∉ R_S_depth → G1 q = G q := by
  unfold f_S_depth at hf
  have hg : ∀ q, q ∉ R_S_depth → G q = G q := fun _ _ => rfl
  rcases zx_if_some hf with ⟨hc_1, hf⟩ | ⟨hc_1, hf⟩
  · skip
    exact zf_tr hg (w_S_depth_18 (0 : Int32) G hf)
  · skip
    exact zf_tr hg (w_S_depth_18 (G 11 9) G hf)
theorem w_S_depth (G : zx_G) {r : Int32} {G1 : zx_G} (hf : f_S_depth G = some (r, G1)) : ∀ q, q ∉ R_S_depth → G1 q = G q := w_S_depth_0 G hf
abbrev R_S_isInPicture : List Nat := []
theorem w_S_isInPicture_42 {r : Int32} {G1 : zx_G} (s0 : Int32) (G : zx_G) (hf : f_S_isInPicture_42 s0 G = some (r, G1)) : ∀ q, q ∉ R_S_isInPicture → G1 q = G q := by
  unfold f_S_isInPicture_42 at hf
  have hg : ∀ q, q ∉ R_S_isInPicture → G q = G q := fun _ _ => rfl
  obtain ⟨hb_1, hf⟩ := zx_gd_some hf
  exact zf_ret hg hf
theorem w_S_isInPicture_41 {r : Int32} {G1 : zx_G} (G : zx_G) (hf : f_S_isInPicture_41 G = some (r, G1)) : ∀ q, q ∉ R_S_isInPicture → G1 q = G q := by
  unfold f_S_isInPicture_41 at hf
  have hg : ∀ q, q ∉ R_S_isInPicture → G q = G q := fun _ _ => rfl
  exact zf_tr hg (w_S_isInPicture_42 (0 : Int32) G hf)
theorem w_S_isInPicture_0 {r : Int32} {G1 : zx_G} (x1 x2 : Int32) (G : zx_G) (hf : f_S_isInPicture x1 x2 G = some (r, G1)) : ∀ q, q ∉ R_S_isInPicture → G1 q = G q := by
  unfold f_S_isInPicture at hf
  have hg : ∀ q, q ∉ R_S_isInPicture → G q = G q := fun _ _ => rfl
  rcases zx_if_some hf with ⟨hc_1, hf⟩ | ⟨hc_1, hf⟩
  · skip
    exact zf_tr hg (w_S_isInPicture_41 G hf)
  · skip
    rcases zx_if_some hf with ⟨hc_2, hf⟩ | ⟨hc_2, hf⟩
    · skip
      exact zf_tr hg (w_S_isInPicture_41 G hf)
    · skip
      rcases zx_if_some hf with ⟨hc_3, hf⟩ | ⟨hc_3, hf⟩
      · skip
        exact zf_tr hg (w_S_isInPicture_41 G hf)
      · skip
        rcases zx_if_some hf with ⟨hc_4, hf⟩ | ⟨hc_4, hf⟩
        · skip
          exact zf_tr hg (w_S_isInPicture_41 G hf)
        · skip
          rcases zx_if_some hf with ⟨hc_5, hf⟩ | ⟨hc_5, hf⟩
          · skip
            exact zf_tr hg (w_S_isInPicture_41 G hf)
          · skip
            exact zf_tr hg (w_S_isInPicture_42 (1 : Int32) G hf)
theorem w_S_isInPicture (x1 x2 : Int32) (G : zx_G) {r : Int32} {G1 : zx_G} (hf : f_S_isInPicture x1 x2 G = some (r, G1)) : ∀ q, q ∉ R_S_isInPicture → G1 q = G q := w_S_isInPicture_0 x1 x2 G hf
abbrev R_S_sample : List Nat := []
theorem w_S_sample_24 {r : Int32} {G1 : zx_G} (G : zx_G) (hf : f_S_sample_24 G = some (r, G1)) : ∀ q, q ∉ R_S_sample → G1 q = G q := by
  unfold f_S_sample_24 at hf
  have hg : ∀ q, q ∉ R_S_sample → G q = G q := fun _ _ => rfl
  exact zf_ret hg hf
theorem w_S_sample_0 {r : Int32} {G1 : zx_G} (x1 x2 x3 : Int32) (G : zx_G) (hf : f_S_sample x1 x2 x3 G = some (r, G1)) : ∀ q, q ∉ R_S_sample → G1 q = G q := by
  unfold f_S_sample at hf
  have hg : ∀ q, q ∉ R_S_sample → G q = G q := fun _ _ => rfl
  obtain ⟨r_2, G_1, hq_3, hf⟩ := zx_bd_some hf
  have hg := zf_call hg (w_S_isInPicture x2 x3 G hq_3) (by decide)
  rcases zx_if_some hf with ⟨hc_4, hf⟩ | ⟨hc_4, hf⟩
  · skip
    exact zf_tr hg (w_S_sample_24 G_1 hf)
  · skip
    rcases zx_if_some hf with ⟨hc_5, hf⟩ | ⟨hc_5, hf⟩
    · skip
      exact zf_tr hg (w_S_sample_24 G_1 hf)
    · skip
      rcases zx_if_some hf with ⟨hc_6, hf⟩ | ⟨hc_6, hf⟩
      · skip
        obtain ⟨r_8, G_7, hq_9, hf⟩ := zx_bd_some hf
        have hg := zf_call hg (w_P_placeOf x1 x2 x3 G_1 hq_9) (by decide)
        obtain ⟨hb_10, hf⟩ := zx_gd_some hf
        exact zf_ret hg hf
      · skip
        exact zf_tr hg (w_S_sample_24 G_1 hf)
theorem w_S_sample (x1 x2 x3 : Int32) (G : zx_G) {r : Int32} {G1 : zx_G} (hf : f_S_sample x1 x2 x3 G = some (r, G1)) : ∀ q, q ∉ R_S_sample → G1 q = G q := w_S_sample_0 x1 x2 x3 G hf
abbrev R_S_block : List Nat := []
theorem w_S_block_18 {r : Int32} {G1 : zx_G} (G : zx_G) (hf : f_S_block_18 G = some (r, G1)) : ∀ q, q ∉ R_S_block → G1 q = G q := by
  unfold f_S_block_18 at hf
  have hg : ∀ q, q ∉ R_S_block → G q = G q := fun _ _ => rfl
  exact zf_ret hg hf
theorem w_S_block_0 {r : Int32} {G1 : zx_G} (x1 x2 x3 : Int32) (G : zx_G) (hf : f_S_block x1 x2 x3 G = some (r, G1)) : ∀ q, q ∉ R_S_block → G1 q = G q := by
  unfold f_S_block at hf
  have hg : ∀ q, q ∉ R_S_block → G q = G q := fun _ _ => rfl
  obtain ⟨r_2, G_1, hq_3, hf⟩ := zx_bd_some hf
  have hg := zf_call hg (w_S_isInPicture x1 x2 G hq_3) (by decide)
  rcases zx_if_some hf with ⟨hc_4, hf⟩ | ⟨hc_4, hf⟩
  · skip
    exact zf_tr hg (w_S_block_18 G_1 hf)
  · skip
    rcases zx_if_some hf with ⟨hc_5, hf⟩ | ⟨hc_5, hf⟩
    · skip
      exact zf_tr hg (w_S_block_18 G_1 hf)
    · skip
      rcases zx_if_some hf with ⟨hc_6, hf⟩ | ⟨hc_6, hf⟩
      · skip
        obtain ⟨r_8, G_7, hq_9, hf⟩ := zx_bd_some hf
        have hg := zf_call hg (w_P_ownerAt x1 x2 G_1 hq_9) (by decide)
        obtain ⟨r_11, G_10, hq_12, hf⟩ := zx_bd_some hf
        have hg := zf_call hg (w_P_tellOf r_8 x3 G_7 hq_12) (by decide)
        exact zf_ret hg hf
      · skip
        exact zf_tr hg (w_S_block_18 G_1 hf)
theorem w_S_block (x1 x2 x3 : Int32) (G : zx_G) {r : Int32} {G1 : zx_G} (hf : f_S_block x1 x2 x3 G = some (r, G1)) : ∀ q, q ∉ R_S_block → G1 q = G q := w_S_block_0 x1 x2 x3 G hf
abbrev R_S_blocks : List Nat := []
theorem w_S_blocks_18 {r : Int32} {G1 : zx_G} (s0 : Int32) (G : zx_G) (hf : f_S_blocks_18 s0 G = some (r, G1)) : ∀ q, q ∉ R_S_blocks → G1 q = G q := by
  unfold f_S_blocks_18 at hf
  have hg : ∀ q, q ∉ R_S_blocks → G q = G q := fun _ _ => rfl
  exact zf_ret hg hf
theorem w_S_blocks_0 {r : Int32} {G1 : zx_G} (G : zx_G) (hf : f_S_blocks G = some (r, G1)) : ∀ q, q ∉ R_S_blocks → G1 q = G q := by
  unfold f_S_blocks at hf
  have hg : ∀ q, q ∉ R_S_blocks → G q = G q := fun _ _ => rfl
  rcases zx_if_some hf with ⟨hc_1, hf⟩ | ⟨hc_1, hf⟩
  · skip
    exact zf_tr hg (w_S_blocks_18 (0 : Int32) G hf)
  · skip
    exact zf_tr hg (w_S_blocks_18 (G 17 3) G hf)
theorem w_S_blocks (G : zx_G) {r : Int32} {G1 : zx_G} (hf : f_S_blocks G = some (r, G1)) : ∀ q, q ∉ R_S_blocks → G1 q = G q := w_S_blocks_0 G hf
abbrev R_S_symbols : List Nat := []
theorem w_S_symbols_18 {r : Int32} {G1 : zx_G} (s0 : Int32) (G : zx_G) (hf : f_S_symbols_18 s0 G = some (r, G1)) : ∀ q, q ∉ R_S_symbols → G1 q = G q := by
  unfold f_S_symbols_18 at hf
  have hg : ∀ q, q ∉ R_S_symbols → G q = G q := fun _ _ => rfl
  exact zf_ret hg hf
theorem w_S_symbols_0 {r : Int32} {G1 : zx_G} (G : zx_G) (hf : f_S_symbols G = some (r, G1)) : ∀ q, q ∉ R_S_symbols → G1 q = G q := by
  unfold f_S_symbols at hf
  have hg : ∀ q, q ∉ R_S_symbols → G q = G q := fun _ _ => rfl
  rcases zx_if_some hf with ⟨hc_1, hf⟩ | ⟨hc_1, hf⟩
  · skip
    exact zf_tr hg (w_S_symbols_18 (0 : Int32) G hf)
  · skip
    exact zf_tr hg (w_S_symbols_18 (G 14 9) G hf)
theorem w_S_symbols (G : zx_G) {r : Int32} {G1 : zx_G} (hf : f_S_symbols G = some (r, G1)) : ∀ q, q ∉ R_S_symbols → G1 q = G q := w_S_symbols_0 G hf
abbrev R_S_taken : List Nat := []
theorem w_S_taken_18 {r : Int32} {G1 : zx_G} (s0 : Int32) (G : zx_G) (hf : f_S_taken_18 s0 G = some (r, G1)) : ∀ q, q ∉ R_S_taken → G1 q = G q := by
  unfold f_S_taken_18 at hf
  have hg : ∀ q, q ∉ R_S_taken → G q = G q := fun _ _ => rfl
  exact zf_ret hg hf
theorem w_S_taken_0 {r : Int32} {G1 : zx_G} (G : zx_G) (hf : f_S_taken G = some (r, G1)) : ∀ q, q ∉ R_S_taken → G1 q = G q := by
  unfold f_S_taken at hf
  have hg : ∀ q, q ∉ R_S_taken → G q = G q := fun _ _ => rfl
  rcases zx_if_some hf with ⟨hc_1, hf⟩ | ⟨hc_1, hf⟩
  · skip
    exact zf_tr hg (w_S_taken_18 (0 : Int32) G hf)
  · skip
    exact zf_tr hg (w_S_taken_18 (G 14 8) G hf)
theorem w_S_taken (G : zx_G) {r : Int32} {G1 : zx_G} (hf : f_S_taken G = some (r, G1)) : ∀ q, q ∉ R_S_taken → G1 q = G q := w_S_taken_0 G hf
abbrev R_C_numberOf : List Nat := []
theorem w_C_numberOf_23 {r : Int32} {G1 : zx_G} (G : zx_G) (hf : f_C_numberOf_23 G = some (r, G1)) : ∀ q, q ∉ R_C_numberOf → G1 q = G q := by
  unfold f_C_numberOf_23 at hf
  have hg : ∀ q, q ∉ R_C_numberOf → G q = G q := fun _ _ => rfl
  exact zf_ret hg hf
theorem w_C_numberOf_0 {r : Int32} {G1 : zx_G} (x1 x2 : Int32) (G : zx_G) (hf : f_C_numberOf x1 x2 G = some (r, G1)) : ∀ q, q ∉ R_C_numberOf → G1 q = G q := by
  unfold f_C_numberOf at hf
  have hg : ∀ q, q ∉ R_C_numberOf → G q = G q := fun _ _ => rfl
  rcases zx_if_some hf with ⟨hc_1, hf⟩ | ⟨hc_1, hf⟩
  · skip
    exact zf_tr hg (w_C_numberOf_23 G hf)
  · skip
    rcases zx_if_some hf with ⟨hc_2, hf⟩ | ⟨hc_2, hf⟩
    · skip
      exact zf_tr hg (w_C_numberOf_23 G hf)
    · skip
      rcases zx_if_some hf with ⟨hc_3, hf⟩ | ⟨hc_3, hf⟩
      · skip
        exact zf_tr hg (w_C_numberOf_23 G hf)
      · skip
        obtain ⟨hb_4, hf⟩ := zx_gd_some hf
        rcases zx_if_some hf with ⟨hc_5, hf⟩ | ⟨hc_5, hf⟩
        · skip
          obtain ⟨hb_6, hf⟩ := zx_gd_some hf
          exact zf_ret hg hf
        · skip
          exact zf_tr hg (w_C_numberOf_23 G hf)
theorem w_C_numberOf (x1 x2 : Int32) (G : zx_G) {r : Int32} {G1 : zx_G} (hf : f_C_numberOf x1 x2 G = some (r, G1)) : ∀ q, q ∉ R_C_numberOf → G1 q = G q := w_C_numberOf_0 x1 x2 G hf
abbrev R_S_table : List Nat := []
theorem w_S_table_20 {r : Int32} {G1 : zx_G} (s0 : Int32) (G : zx_G) (hf : f_S_table_20 s0 G = some (r, G1)) : ∀ q, q ∉ R_S_table → G1 q = G q := by
  unfold f_S_table_20 at hf
  have hg : ∀ q, q ∉ R_S_table → G q = G q := fun _ _ => rfl
  exact zf_ret hg hf
theorem w_S_table_0 {r : Int32} {G1 : zx_G} (x1 x2 : Int32) (G : zx_G) (hf : f_S_table x1 x2 G = some (r, G1)) : ∀ q, q ∉ R_S_table → G1 q = G q := by
  unfold f_S_table at hf
  have hg : ∀ q, q ∉ R_S_table → G q = G q := fun _ _ => rfl
  rcases zx_if_some hf with ⟨hc_1, hf⟩ | ⟨hc_1, hf⟩
  · skip
    exact zf_tr hg (w_S_table_20 (-1 : Int32) G hf)
  · skip
    obtain ⟨r_3, G_2, hq_4, hf⟩ := zx_bd_some hf
    have hg := zf_call hg (w_C_numberOf x1 x2 G hq_4) (by decide)
    exact zf_tr hg (w_S_table_20 r_3 G_2 hf)
theorem w_S_table (x1 x2 : Int32) (G : zx_G) {r : Int32} {G1 : zx_G} (hf : f_S_table x1 x2 G = some (r, G1)) : ∀ q, q ∉ R_S_table → G1 q = G q := w_S_table_0 x1 x2 G hf
abbrev R_M_add : List Nat := [32, 33]
theorem w_M_add_21 {r : Int32} {G1 : zx_G} (G : zx_G) (hf : f_M_add_21 G = some (r, G1)) : ∀ q, q ∉ R_M_add → G1 q = G q := by
  unfold f_M_add_21 at hf
  have hg : ∀ q, q ∉ R_M_add → G q = G q := fun _ _ => rfl
  obtain ⟨hb_1, hf⟩ := zx_gd_some hf
  exact zf_ret hg hf
theorem w_M_add_0 {r : Int32} {G1 : zx_G} (x1 : Int32) (G : zx_G) (hf : f_M_add x1 G = some (r, G1)) : ∀ q, q ∉ R_M_add → G1 q = G q := by
  unfold f_M_add at hf
  have hg : ∀ q, q ∉ R_M_add → G q = G q := fun _ _ => rfl
  rcases zx_if_some hf with ⟨hc_1, hf⟩ | ⟨hc_1, hf⟩
  · skip
    exact zf_tr hg (w_M_add_21 G hf)
  · skip
    rcases zx_if_some hf with ⟨hc_2, hf⟩ | ⟨hc_2, hf⟩
    · skip
      exact zf_tr hg (w_M_add_21 G hf)
    · skip
      rcases zx_if_some hf with ⟨hc_3, hf⟩ | ⟨hc_3, hf⟩
      · skip
        obtain ⟨hb_4, hf⟩ := zx_gd_some hf
        obtain ⟨G_5, eG_5, hf⟩ := zx_lt_some hf
        have hg := zf_up hg eG_5 (by decide)
        obtain ⟨G_6, eG_6, hf⟩ := zx_lt_some hf
        have hg := zf_up hg eG_6 (by decide)
        obtain ⟨hb_7, hf⟩ := zx_gd_some hf
        exact zf_ret hg hf
      · skip
        exact zf_tr hg (w_M_add_21 G hf)
theorem w_M_add (x1 : Int32) (G : zx_G) {r : Int32} {G1 : zx_G} (hf : f_M_add x1 G = some (r, G1)) : ∀ q, q ∉ R_M_add → G1 q = G q := w_M_add_0 x1 G hf
abbrev R_M_word : List Nat := [32, 33]
theorem w_M_word_15 {r : Int32} {G1 : zx_G} : ∀ (n : Nat) (x1 x2 : Int32) (G : zx_G), f_M_word_15 n x1 x2 G = some (r, G1) → ∀ q, q ∉ R_M_word → G1 q = G q := by
  intro n
  induction n with
  | zero => intro x1 x2 G hf; cases hf
  | succ n ih =>
    intro x1 x2 G hf
    unfold f_M_word_15 at hf
    have hg : ∀ q, q ∉ R_M_word → G q = G q := fun _ _ => rfl
    rcases zx_if_some hf with ⟨hc_1, hf⟩ | ⟨hc_1, hf⟩
    · skip
      obtain ⟨hb_2, hf⟩ := zx_gd_some hf
      exact zf_ret hg hf
    · skip
      obtain ⟨r_4, G_3, hq_5, hf⟩ := zx_bd_some hf
      have hg := zf_call hg (w_M_add ((x1 >>> (x2 &&& 31)) &&& (255 : Int32)) G hq_5) (by decide)
      obtain ⟨x2_6, ex2_6, hf⟩ := zx_lt_some hf
      exact zf_tr hg (ih x1 x2_6 G_3 hf)
theorem w_M_word_0 {r : Int32} {G1 : zx_G} (x1 : Int32) (G : zx_G) (hf : f_M_word x1 G = some (r, G1)) : ∀ q, q ∉ R_M_word → G1 q = G q := by
  unfold f_M_word at hf
  have hg : ∀ q, q ∉ R_M_word → G q = G q := fun _ _ => rfl
  rcases zx_if_some hf with ⟨hc_1, hf⟩ | ⟨hc_1, hf⟩
  · skip
    obtain ⟨x2_2, ex2_2, hf⟩ := zx_lt_some hf
    exact zf_tr hg (w_M_word_15 2048 x1 x2_2 G hf)
  · skip
    obtain ⟨hb_3, hf⟩ := zx_gd_some hf
    exact zf_ret hg hf
theorem w_M_word (x1 : Int32) (G : zx_G) {r : Int32} {G1 : zx_G} (hf : f_M_word x1 G = some (r, G1)) : ∀ q, q ∉ R_M_word → G1 q = G q := w_M_word_0 x1 G hf
abbrev R_M_patch : List Nat := [33]
theorem w_M_patch_23 {r : Int32} {G1 : zx_G} (G : zx_G) (hf : f_M_patch_23 G = some (r, G1)) : ∀ q, q ∉ R_M_patch → G1 q = G q := by
  unfold f_M_patch_23 at hf
  have hg : ∀ q, q ∉ R_M_patch → G q = G q := fun _ _ => rfl
  exact zf_ret hg hf
theorem w_M_patch_0 {r : Int32} {G1 : zx_G} (x1 x2 : Int32) (G : zx_G) (hf : f_M_patch x1 x2 G = some (r, G1)) : ∀ q, q ∉ R_M_patch → G1 q = G q := by
  unfold f_M_patch at hf
  have hg : ∀ q, q ∉ R_M_patch → G q = G q := fun _ _ => rfl
  rcases zx_if_some hf with ⟨hc_1, hf⟩ | ⟨hc_1, hf⟩
  · skip
    exact zf_tr hg (w_M_patch_23 G hf)
  · skip
    rcases zx_if_some hf with ⟨hc_2, hf⟩ | ⟨hc_2, hf⟩
    · skip
      exact zf_tr hg (w_M_patch_23 G hf)
    · skip
      rcases zx_if_some hf with ⟨hc_3, hf⟩ | ⟨hc_3, hf⟩
      · skip
        exact zf_tr hg (w_M_patch_23 G hf)
      · skip
        rcases zx_if_some hf with ⟨hc_4, hf⟩ | ⟨hc_4, hf⟩
        · skip
          obtain ⟨hb_5, hf⟩ := zx_gd_some hf
          obtain ⟨x3_6, ex3_6, hf⟩ := zx_lt_some hf
          obtain ⟨hb_7, hf⟩ := zx_gd_some hf
          obtain ⟨G_8, eG_8, hf⟩ := zx_lt_some hf
          have hg := zf_up hg eG_8 (by decide)
          exact zf_ret hg hf
        · skip
          exact zf_tr hg (w_M_patch_23 G hf)
theorem w_M_patch (x1 x2 : Int32) (G : zx_G) {r : Int32} {G1 : zx_G} (hf : f_M_patch x1 x2 G = some (r, G1)) : ∀ q, q ∉ R_M_patch → G1 q = G q := w_M_patch_0 x1 x2 G hf
abbrev R_M_clear : List Nat := [32]
theorem w_M_clear_0 {r : Int32} {G1 : zx_G} (G : zx_G) (hf : f_M_clear G = some (r, G1)) : ∀ q, q ∉ R_M_clear → G1 q = G q := by
  unfold f_M_clear at hf
  have hg : ∀ q, q ∉ R_M_clear → G q = G q := fun _ _ => rfl
  obtain ⟨G_1, eG_1, hf⟩ := zx_lt_some hf
  have hg := zf_up hg eG_1 (by decide)
  exact zf_ret hg hf
theorem w_M_clear (G : zx_G) {r : Int32} {G1 : zx_G} (hf : f_M_clear G = some (r, G1)) : ∀ q, q ∉ R_M_clear → G1 q = G q := w_M_clear_0 G hf
abbrev R_M_size : List Nat := []
theorem w_M_size_0 {r : Int32} {G1 : zx_G} (G : zx_G) (hf : f_M_size G = some (r, G1)) : ∀ q, q ∉ R_M_size → G1 q = G q := by
  unfold f_M_size at hf
  have hg : ∀ q, q ∉ R_M_size → G q = G q := fun _ _ => rfl
  exact zf_ret hg hf
theorem w_M_size (G : zx_G) {r : Int32} {G1 : zx_G} (hf : f_M_size G = some (r, G1)) : ∀ q, q ∉ R_M_size → G1 q = G q := w_M_size_0 G hf
abbrev R_M_limited : List Nat := []
theorem w_M_limited_21 {r : Int32} {G1 : zx_G} (s0 : Int32) (G : zx_G) (hf : f_M_limited_21 s0 G = some (r, G1)) : ∀ q, q ∉ R_M_limited → G1 q = G q := by
  unfold f_M_limited_21 at hf
  have hg : ∀ q, q ∉ R_M_limited → G q = G q := fun _ _ => rfl
  exact zf_ret hg hf
theorem w_M_limited_0 {r : Int32} {G1 : zx_G} (x0 x1 : Int32) (G : zx_G) (hf : f_M_limited x0 x1 G = some (r, G1)) : ∀ q, q ∉ R_M_limited → G1 q = G q := by
  unfold f_M_limited at hf
  have hg : ∀ q, q ∉ R_M_limited → G q = G q := fun _ _ => rfl
  rcases zx_if_some hf with ⟨hc_1, hf⟩ | ⟨hc_1, hf⟩
  · skip
    rcases zx_if_some hf with ⟨hc_2, hf⟩ | ⟨hc_2, hf⟩
    · skip
      exact zf_tr hg (w_M_limited_21 x0 G hf)
    · skip
      exact zf_tr hg (w_M_limited_21 x1 G hf)
  · skip
    exact zf_tr hg (w_M_limited_21 (-x1) G hf)
theorem w_M_limited (x0 x1 : Int32) (G : zx_G) {r : Int32} {G1 : zx_G} (hf : f_M_limited x0 x1 G = some (r, G1)) : ∀ q, q ∉ R_M_limited → G1 q = G q := w_M_limited_0 x0 x1 G hf
abbrev R_M_far : List Nat := []
theorem w_M_far_14 {r : Int32} {G1 : zx_G} (s0 : Int32) (G : zx_G) (hf : f_M_far_14 s0 G = some (r, G1)) : ∀ q, q ∉ R_M_far → G1 q = G q := by
  unfold f_M_far_14 at hf
  have hg : ∀ q, q ∉ R_M_far → G q = G q := fun _ _ => rfl
  exact zf_ret hg hf
theorem w_M_far_0 {r : Int32} {G1 : zx_G} (x0 x1 : Int32) (G : zx_G) (hf : f_M_far x0 x1 G = some (r, G1)) : ∀ q, q ∉ R_M_far → G1 q = G q := by
  unfold f_M_far at hf
  have hg : ∀ q, q ∉ R_M_far → G q = G q := fun _ _ => rfl
  rcases zx_if_some hf with ⟨hc_1, hf⟩ | ⟨hc_1, hf⟩
  · skip
    exact zf_tr hg (w_M_far_14 (x0 - x1) G hf)
  · skip
    exact zf_tr hg (w_M_far_14 (x1 - x0) G hf)
theorem w_M_far (x0 x1 : Int32) (G : zx_G) {r : Int32} {G1 : zx_G} (hf : f_M_far x0 x1 G = some (r, G1)) : ∀ q, q ∉ R_M_far → G1 q = G q := w_M_far_0 x0 x1 G hf
abbrev R_M_pull : List Nat := []
theorem w_M_pull_44 {r : Int32} {G1 : zx_G} (s0 s1 : Int32) (G : zx_G) (hf : f_M_pull_44 s0 s1 G = some (r, G1)) : ∀ q, q ∉ R_M_pull → G1 q = G q := by
  unfold f_M_pull_44 at hf
  have hg : ∀ q, q ∉ R_M_pull → G q = G q := fun _ _ => rfl
  obtain ⟨r_2, G_1, hq_3, hf⟩ := zx_bd_some hf
  have hg := zf_call hg (w_M_limited s0 s1 G hq_3) (by decide)
  exact zf_ret hg hf
theorem w_M_pull_21 {r : Int32} {G1 : zx_G} (x1 s0 : Int32) (G : zx_G) (hf : f_M_pull_21 x1 s0 G = some (r, G1)) : ∀ q, q ∉ R_M_pull → G1 q = G q := by
  unfold f_M_pull_21 at hf
  have hg : ∀ q, q ∉ R_M_pull → G q = G q := fun _ _ => rfl
  obtain ⟨x2_1, ex2_1, hf⟩ := zx_lt_some hf
  obtain ⟨r_3, G_2, hq_4, hf⟩ := zx_bd_some hf
  have hg := zf_call hg (w_M_far x1 (0 : Int32) G hq_4) (by decide)
  obtain ⟨x3_5, ex3_5, hf⟩ := zx_lt_some hf
  rcases zx_if_some hf with ⟨hc_6, hf⟩ | ⟨hc_6, hf⟩
  · skip
    exact zf_tr hg (w_M_pull_44 x1 x3_5 G_2 hf)
  · skip
    exact zf_tr hg (w_M_pull_44 x1 (0 : Int32) G_2 hf)
theorem w_M_pull_0 {r : Int32} {G1 : zx_G} (x1 : Int32) (G : zx_G) (hf : f_M_pull x1 G = some (r, G1)) : ∀ q, q ∉ R_M_pull → G1 q = G q := by
  unfold f_M_pull at hf
  have hg : ∀ q, q ∉ R_M_pull → G q = G q := fun _ _ => rfl
  rcases zx_if_some hf with ⟨hc_1, hf⟩ | ⟨hc_1, hf⟩
  · skip
    exact zf_tr hg (w_M_pull_21 x1 (G 32 24) G hf)
  · skip
    exact zf_tr hg (w_M_pull_21 x1 ((4 : Int32) * (G 32 24)) G hf)
theorem w_M_pull (x1 : Int32) (G : zx_G) {r : Int32} {G1 : zx_G} (hf : f_M_pull x1 G = some (r, G1)) : ∀ q, q ∉ R_M_pull → G1 q = G q := w_M_pull_0 x1 G hf
abbrev R_M_soften : List Nat := [42, 43]
theorem w_M_soften_202 {r : Int32} {G1 : zx_G} {k31 : Int32 → Int32 → zx_G → Option (Int32 × zx_G)} {k41 : Int32 → Int32 → Int32 → zx_G → Option (Int32 × zx_G)} (hk31 : ∀ (x1 x2 : Int32) (G : zx_G), k31 x1 x2 G = some (r, G1) → ∀ q, q ∉ R_M_soften → G1 q = G q) (hk41 : ∀ (x1 x2 x3 : Int32) (G : zx_G), k41 x1 x2 x3 G = some (r, G1) → ∀ q, q ∉ R_M_soften → G1 q = G q) (x1 x2 x3 x4 s0 s1 : Int32) (G : zx_G) (hf : f_M_soften_202 k31 k41 x1 x2 x3 x4 s0 s1 G = some (r, G1)) : ∀ q, q ∉ R_M_soften → G1 q = G q := by
  unfold f_M_soften_202 at hf
  have hg : ∀ q, q ∉ R_M_soften → G q = G q := fun _ _ => rfl
  obtain ⟨x5_1, ex5_1, hf⟩ := zx_lt_some hf
  obtain ⟨hb_2, hf⟩ := zx_gd_some hf
  obtain ⟨G_3, eG_3, hf⟩ := zx_lt_some hf
  have hg := zf_up hg eG_3 (by decide)
  obtain ⟨x3_4, ex3_4, hf⟩ := zx_lt_some hf
  exact zf_tr hg (hk41 x1 x2 x3_4 G_3 hf)
theorem w_M_soften_162 {r : Int32} {G1 : zx_G} {k31 : Int32 → Int32 → zx_G → Option (Int32 × zx_G)} {k41 : Int32 → Int32 → Int32 → zx_G → Option (Int32 × zx_G)} (hk31 : ∀ (x1 x2 : Int32) (G : zx_G), k31 x1 x2 G = some (r, G1) → ∀ q, q ∉ R_M_soften → G1 q = G q) (hk41 : ∀ (x1 x2 x3 : Int32) (G : zx_G), k41 x1 x2 x3 G = some (r, G1) → ∀ q, q ∉ R_M_soften → G1 q = G q) (x1 x2 x3 x4 s0 s1 : Int32) (G : zx_G) (hf : f_M_soften_162 k31 k41 x1 x2 x3 x4 s0 s1 G = some (r, G1)) : ∀ q, q ∉ R_M_soften → G1 q = G q := by
  unfold f_M_soften_162 at hf
  have hg : ∀ q, q ∉ R_M_soften → G q = G q := fun _ _ => rfl
  obtain ⟨x5_1, ex5_1, hf⟩ := zx_lt_some hf
  rcases zx_if_some hf with ⟨hc_2, hf⟩ | ⟨hc_2, hf⟩
  · skip
    exact zf_tr hg (w_M_soften_202 hk31 hk41 x1 x2 x3 x4 x5_1 (0 : Int32) G hf)
  · skip
    obtain ⟨hb_3, hf⟩ := zx_gd_some hf
    obtain ⟨r_5, G_4, hq_6, hf⟩ := zx_bd_some hf
    have hg := zf_call hg (w_M_pull ((G 43 (Int32.toNatClampNeg ((((16 : Int32) * x2) + x3) + (16 : Int32)))) - x4) G hq_6) (by decide)
    exact zf_tr hg (w_M_soften_202 hk31 hk41 x1 x2 x3 x4 x5_1 r_5 G_4 hf)
theorem w_M_soften_128 {r : Int32} {G1 : zx_G} {k31 : Int32 → Int32 → zx_G → Option (Int32 × zx_G)} {k41 : Int32 → Int32 → Int32 → zx_G → Option (Int32 × zx_G)} (hk31 : ∀ (x1 x2 : Int32) (G : zx_G), k31 x1 x2 G = some (r, G1) → ∀ q, q ∉ R_M_soften → G1 q = G q) (hk41 : ∀ (x1 x2 x3 : Int32) (G : zx_G), k41 x1 x2 x3 G = some (r, G1) → ∀ q, q ∉ R_M_soften → G1 q = G q) (x1 x2 x3 x4 s0 s1 : Int32) (G : zx_G) (hf : f_M_soften_128 k31 k41 x1 x2 x3 x4 s0 s1 G = some (r, G1)) : ∀ q, q ∉ R_M_soften → G1 q = G q := by
  unfold f_M_soften_128 at hf
  have hg : ∀ q, q ∉ R_M_soften → G q = G q := fun _ _ => rfl
  obtain ⟨x5_1, ex5_1, hf⟩ := zx_lt_some hf
  rcases zx_if_some hf with ⟨hc_2, hf⟩ | ⟨hc_2, hf⟩
  · skip
    exact zf_tr hg (w_M_soften_162 hk31 hk41 x1 x2 x3 x4 x5_1 (0 : Int32) G hf)
  · skip
    obtain ⟨hb_3, hf⟩ := zx_gd_some hf
    obtain ⟨r_5, G_4, hq_6, hf⟩ := zx_bd_some hf
    have hg := zf_call hg (w_M_pull ((G 43 (Int32.toNatClampNeg ((((16 : Int32) * x2) + x3) - (16 : Int32)))) - x4) G hq_6) (by decide)
    exact zf_tr hg (w_M_soften_162 hk31 hk41 x1 x2 x3 x4 x5_1 r_5 G_4 hf)
theorem w_M_soften_90 {r : Int32} {G1 : zx_G} {k31 : Int32 → Int32 → zx_G → Option (Int32 × zx_G)} {k41 : Int32 → Int32 → Int32 → zx_G → Option (Int32 × zx_G)} (hk31 : ∀ (x1 x2 : Int32) (G : zx_G), k31 x1 x2 G = some (r, G1) → ∀ q, q ∉ R_M_soften → G1 q = G q) (hk41 : ∀ (x1 x2 x3 : Int32) (G : zx_G), k41 x1 x2 x3 G = some (r, G1) → ∀ q, q ∉ R_M_soften → G1 q = G q) (x1 x2 x3 x4 s0 : Int32) (G : zx_G) (hf : f_M_soften_90 k31 k41 x1 x2 x3 x4 s0 G = some (r, G1)) : ∀ q, q ∉ R_M_soften → G1 q = G q := by
  unfold f_M_soften_90 at hf
  have hg : ∀ q, q ∉ R_M_soften → G q = G q := fun _ _ => rfl
  obtain ⟨x5_1, ex5_1, hf⟩ := zx_lt_some hf
  rcases zx_if_some hf with ⟨hc_2, hf⟩ | ⟨hc_2, hf⟩
  · skip
    exact zf_tr hg (w_M_soften_128 hk31 hk41 x1 x2 x3 x4 x5_1 (0 : Int32) G hf)
  · skip
    obtain ⟨hb_3, hf⟩ := zx_gd_some hf
    obtain ⟨r_5, G_4, hq_6, hf⟩ := zx_bd_some hf
    have hg := zf_call hg (w_M_pull ((G 43 (Int32.toNatClampNeg ((((16 : Int32) * x2) + x3) + (1 : Int32)))) - x4) G hq_6) (by decide)
    exact zf_tr hg (w_M_soften_128 hk31 hk41 x1 x2 x3 x4 x5_1 r_5 G_4 hf)
theorem w_M_soften_41 {r : Int32} {G1 : zx_G} {k31 : Int32 → Int32 → zx_G → Option (Int32 × zx_G)} (hk31 : ∀ (x1 x2 : Int32) (G : zx_G), k31 x1 x2 G = some (r, G1) → ∀ q, q ∉ R_M_soften → G1 q = G q) : ∀ (n : Nat) (x1 x2 x3 : Int32) (G : zx_G), f_M_soften_41 k31 n x1 x2 x3 G = some (r, G1) → ∀ q, q ∉ R_M_soften → G1 q = G q := by
  intro n
  induction n with
  | zero => intro x1 x2 x3 G hf; cases hf
  | succ n ih =>
    intro x1 x2 x3 G hf
    unfold f_M_soften_41 at hf
    have hg : ∀ q, q ∉ R_M_soften → G q = G q := fun _ _ => rfl
    rcases zx_if_some hf with ⟨hc_1, hf⟩ | ⟨hc_1, hf⟩
    · skip
      obtain ⟨x2_2, ex2_2, hf⟩ := zx_lt_some hf
      exact zf_tr hg (hk31 x1 x2_2 G hf)
    · skip
      obtain ⟨hb_3, hf⟩ := zx_gd_some hf
      obtain ⟨x4_4, ex4_4, hf⟩ := zx_lt_some hf
      rcases zx_if_some hf with ⟨hc_5, hf⟩ | ⟨hc_5, hf⟩
      · skip
        exact zf_tr hg (w_M_soften_90 hk31 ih x1 x2 x3 x4_4 (0 : Int32) G hf)
      · skip
        obtain ⟨hb_6, hf⟩ := zx_gd_some hf
        obtain ⟨r_8, G_7, hq_9, hf⟩ := zx_bd_some hf
        have hg := zf_call hg (w_M_pull ((G 43 (Int32.toNatClampNeg ((((16 : Int32) * x2) + x3) - (1 : Int32)))) - x4_4) G hq_9) (by decide)
        exact zf_tr hg (w_M_soften_90 hk31 ih x1 x2 x3 x4_4 r_8 G_7 hf)
theorem w_M_soften_31 {r : Int32} {G1 : zx_G} : ∀ (n : Nat) (x1 x2 : Int32) (G : zx_G), f_M_soften_31 n x1 x2 G = some (r, G1) → ∀ q, q ∉ R_M_soften → G1 q = G q := by
  intro n
  induction n with
  | zero => intro x1 x2 G hf; cases hf
  | succ n ih =>
    intro x1 x2 G hf
    unfold f_M_soften_31 at hf
    have hg : ∀ q, q ∉ R_M_soften → G q = G q := fun _ _ => rfl
    rcases zx_if_some hf with ⟨hc_1, hf⟩ | ⟨hc_1, hf⟩
    · skip
      exact zf_ret hg hf
    · skip
      obtain ⟨x3_2, ex3_2, hf⟩ := zx_lt_some hf
      exact zf_tr hg (w_M_soften_41 ih 2048 x1 x2 x3_2 G hf)
theorem w_M_soften_2 {r : Int32} {G1 : zx_G} : ∀ (n : Nat) (x1 x2 : Int32) (G : zx_G), f_M_soften_2 n x1 x2 G = some (r, G1) → ∀ q, q ∉ R_M_soften → G1 q = G q := by
  intro n
  induction n with
  | zero => intro x1 x2 G hf; cases hf
  | succ n ih =>
    intro x1 x2 G hf
    unfold f_M_soften_2 at hf
    have hg : ∀ q, q ∉ R_M_soften → G q = G q := fun _ _ => rfl
    rcases zx_if_some hf with ⟨hc_1, hf⟩ | ⟨hc_1, hf⟩
    · skip
      obtain ⟨x2_2, ex2_2, hf⟩ := zx_lt_some hf
      exact zf_tr hg (w_M_soften_31 2048 x1 x2_2 G hf)
    · skip
      obtain ⟨hb_3, hf⟩ := zx_gd_some hf
      obtain ⟨hb_4, hf⟩ := zx_gd_some hf
      obtain ⟨G_5, eG_5, hf⟩ := zx_lt_some hf
      have hg := zf_up hg eG_5 (by decide)
      obtain ⟨x2_6, ex2_6, hf⟩ := zx_lt_some hf
      exact zf_tr hg (ih x1 x2_6 G_5 hf)
theorem w_M_soften_0 {r : Int32} {G1 : zx_G} (x1 : Int32) (G : zx_G) (hf : f_M_soften x1 G = some (r, G1)) : ∀ q, q ∉ R_M_soften → G1 q = G q := by
  unfold f_M_soften at hf
  have hg : ∀ q, q ∉ R_M_soften → G q = G q := fun _ _ => rfl
  obtain ⟨x2_1, ex2_1, hf⟩ := zx_lt_some hf
  exact zf_tr hg (w_M_soften_2 2048 x1 x2_1 G hf)
theorem w_M_soften (x1 : Int32) (G : zx_G) {r : Int32} {G1 : zx_G} (hf : f_M_soften x1 G = some (r, G1)) : ∀ q, q ∉ R_M_soften → G1 q = G q := w_M_soften_0 x1 G hf
abbrev R_M_within : List Nat := []
theorem w_M_within_36 {r : Int32} {G1 : zx_G} (s0 : Int32) (G : zx_G) (hf : f_M_within_36 s0 G = some (r, G1)) : ∀ q, q ∉ R_M_within → G1 q = G q := by
  unfold f_M_within_36 at hf
  have hg : ∀ q, q ∉ R_M_within → G q = G q := fun _ _ => rfl
  exact zf_ret hg hf
theorem w_M_within_17 {r : Int32} {G1 : zx_G} (x1 s0 : Int32) (G : zx_G) (hf : f_M_within_17 x1 s0 G = some (r, G1)) : ∀ q, q ∉ R_M_within → G1 q = G q := by
  unfold f_M_within_17 at hf
  have hg : ∀ q, q ∉ R_M_within → G q = G q := fun _ _ => rfl
  obtain ⟨x2_1, ex2_1, hf⟩ := zx_lt_some hf
  rcases zx_if_some hf with ⟨hc_2, hf⟩ | ⟨hc_2, hf⟩
  · skip
    rcases zx_if_some hf with ⟨hc_3, hf⟩ | ⟨hc_3, hf⟩
    · skip
      exact zf_tr hg (w_M_within_36 x1 G hf)
    · skip
      exact zf_tr hg (w_M_within_36 x2_1 G hf)
  · skip
    exact zf_tr hg (w_M_within_36 (0 : Int32) G hf)
theorem w_M_within_0 {r : Int32} {G1 : zx_G} (x1 : Int32) (G : zx_G) (hf : f_M_within x1 G = some (r, G1)) : ∀ q, q ∉ R_M_within → G1 q = G q := by
  unfold f_M_within at hf
  have hg : ∀ q, q ∉ R_M_within → G q = G q := fun _ _ => rfl
  rcases zx_if_some hf with ⟨hc_1, hf⟩ | ⟨hc_1, hf⟩
  · skip
    exact zf_tr hg (w_M_within_17 x1 (255 : Int32) G hf)
  · skip
    exact zf_tr hg (w_M_within_17 x1 (1023 : Int32) G hf)
theorem w_M_within (x1 : Int32) (G : zx_G) {r : Int32} {G1 : zx_G} (hf : f_M_within x1 G = some (r, G1)) : ∀ q, q ∉ R_M_within → G1 q = G q := w_M_within_0 x1 G hf
abbrev R_M_smooth : List Nat := [42]
theorem w_M_smooth_40 {r : Int32} {G1 : zx_G} (G : zx_G) (hf : f_M_smooth_40 G = some (r, G1)) : ∀ q, q ∉ R_M_smooth → G1 q = G q := by
  unfold f_M_smooth_40 at hf
  have hg : ∀ q, q ∉ R_M_smooth → G q = G q := fun _ _ => rfl
  exact zf_ret hg hf
theorem w_M_smooth_153 {r : Int32} {G1 : zx_G} (x7 x8 x9 x10 s0 : Int32) (G : zx_G) (hf : f_M_smooth_153 x7 x8 x9 x10 s0 G = some (r, G1)) : ∀ q, q ∉ R_M_smooth → G1 q = G q := by
  unfold f_M_smooth_153 at hf
  have hg : ∀ q, q ∉ R_M_smooth → G q = G q := fun _ _ => rfl
  obtain ⟨x11_1, ex11_1, hf⟩ := zx_lt_some hf
  obtain ⟨r_3, G_2, hq_4, hf⟩ := zx_bd_some hf
  have hg := zf_call hg (w_M_far x9 x10 G hq_4) (by decide)
  rcases zx_if_some hf with ⟨hc_5, hf⟩ | ⟨hc_5, hf⟩
  · skip
    obtain ⟨hb_6, hf⟩ := zx_gd_some hf
    obtain ⟨hb_7, hf⟩ := zx_gd_some hf
    obtain ⟨r_9, G_8, hq_10, hf⟩ := zx_bd_some hf
    have hg := zf_call hg (w_M_limited ((((((3 : Int32) * (x10 - x9)) + (G_2 42 (Int32.toNatClampNeg (x8 - ((2 : Int32) * x7))))) - (G_2 42 (Int32.toNatClampNeg (x8 + x7)))) + (4 : Int32)) >>> ((3 : Int32) &&& 31)) x11_1 G_2 hq_10) (by decide)
    obtain ⟨x12_11, ex12_11, hf⟩ := zx_lt_some hf
    obtain ⟨r_13, G_12, hq_14, hf⟩ := zx_bd_some hf
    have hg := zf_call hg (w_M_within (x9 + x12_11) G_8 hq_14) (by decide)
    obtain ⟨hb_15, hf⟩ := zx_gd_some hf
    obtain ⟨G_16, eG_16, hf⟩ := zx_lt_some hf
    have hg := zf_up hg eG_16 (by decide)
    obtain ⟨r_18, G_17, hq_19, hf⟩ := zx_bd_some hf
    have hg := zf_call hg (w_M_within (x10 - x12_11) G_16 hq_19) (by decide)
    obtain ⟨hb_20, hf⟩ := zx_gd_some hf
    obtain ⟨G_21, eG_21, hf⟩ := zx_lt_some hf
    have hg := zf_up hg eG_21 (by decide)
    exact zf_ret hg hf
  · skip
    exact zf_ret hg hf
theorem w_M_smooth_95 {r : Int32} {G1 : zx_G} (x1 x2 x3 s0 : Int32) (G : zx_G) (hf : f_M_smooth_95 x1 x2 x3 s0 G = some (r, G1)) : ∀ q, q ∉ R_M_smooth → G1 q = G q := by
  unfold f_M_smooth_95 at hf
  have hg : ∀ q, q ∉ R_M_smooth → G q = G q := fun _ _ => rfl
  obtain ⟨x7_1, ex7_1, hf⟩ := zx_lt_some hf
  obtain ⟨x8_2, ex8_2, hf⟩ := zx_lt_some hf
  obtain ⟨hb_3, hf⟩ := zx_gd_some hf
  obtain ⟨x9_4, ex9_4, hf⟩ := zx_lt_some hf
  obtain ⟨hb_5, hf⟩ := zx_gd_some hf
  obtain ⟨x10_6, ex10_6, hf⟩ := zx_lt_some hf
  rcases zx_if_some hf with ⟨hc_7, hf⟩ | ⟨hc_7, hf⟩
  · skip
    exact zf_tr hg (w_M_smooth_153 x7_1 x8_2 x9_4 x10_6 (G 32 23) G hf)
  · skip
    exact zf_tr hg (w_M_smooth_153 x7_1 x8_2 x9_4 x10_6 ((4 : Int32) * (G 32 23)) G hf)
theorem w_M_smooth_79 {r : Int32} {G1 : zx_G} (x1 x2 x3 x4 s0 s2 : Int32) (G : zx_G) (hf : f_M_smooth_79 x1 x2 x3 x4 s0 s2 G = some (r, G1)) : ∀ q, q ∉ R_M_smooth → G1 q = G q := by
  unfold f_M_smooth_79 at hf
  have hg : ∀ q, q ∉ R_M_smooth → G q = G q := fun _ _ => rfl
  obtain ⟨hb_1, hf⟩ := zx_gd_some hf
  rcases zx_if_some hf with ⟨hc_2, hf⟩ | ⟨hc_2, hf⟩
  · skip
    rcases zx_if_some hf with ⟨hc_3, hf⟩ | ⟨hc_3, hf⟩
    · skip
      exact zf_tr hg (w_M_smooth_95 x1 x2 x3 (16 : Int32) G hf)
    · skip
      exact zf_tr hg (w_M_smooth_95 x1 x2 x3 (1 : Int32) G hf)
  · skip
    exact zf_ret hg hf
theorem w_M_smooth_10 {r : Int32} {G1 : zx_G} (x1 x2 x3 x4 s0 : Int32) (G : zx_G) (hf : f_M_smooth_10 x1 x2 x3 x4 s0 G = some (r, G1)) : ∀ q, q ∉ R_M_smooth → G1 q = G q := by
  unfold f_M_smooth_10 at hf
  have hg : ∀ q, q ∉ R_M_smooth → G q = G q := fun _ _ => rfl
  obtain ⟨x5_1, ex5_1, hf⟩ := zx_lt_some hf
  rcases zx_if_some hf with ⟨hc_2, hf⟩ | ⟨hc_2, hf⟩
  · skip
    exact zf_tr hg (w_M_smooth_40 G hf)
  · skip
    rcases zx_if_some hf with ⟨hc_3, hf⟩ | ⟨hc_3, hf⟩
    · skip
      exact zf_tr hg (w_M_smooth_40 G hf)
    · skip
      rcases zx_if_some hf with ⟨hc_4, hf⟩ | ⟨hc_4, hf⟩
      · skip
        exact zf_tr hg (w_M_smooth_40 G hf)
      · skip
        obtain ⟨hb_5, hf⟩ := zx_gd_some hf
        rcases zx_if_some hf with ⟨hc_6, hf⟩ | ⟨hc_6, hf⟩
        · skip
          obtain ⟨hb_7, hf⟩ := zx_gd_some hf
          obtain ⟨hb_8, hf⟩ := zx_gd_some hf
          obtain ⟨x6_9, ex6_9, hf⟩ := zx_lt_some hf
          obtain ⟨hb_10, hf⟩ := zx_gd_some hf
          rcases zx_if_some hf with ⟨hc_11, hf⟩ | ⟨hc_11, hf⟩
          · skip
            exact zf_tr hg (w_M_smooth_79 x1 x2 x3 x4 (G 44 (Int32.toNatClampNeg x6_9)) (x6_9 - (4 : Int32)) G hf)
          · skip
            exact zf_tr hg (w_M_smooth_79 x1 x2 x3 x4 (G 44 (Int32.toNatClampNeg x6_9)) (x6_9 - (1 : Int32)) G hf)
        · skip
          exact zf_tr hg (w_M_smooth_40 G hf)
theorem w_M_smooth_0 {r : Int32} {G1 : zx_G} (x1 x2 x3 x4 : Int32) (G : zx_G) (hf : f_M_smooth x1 x2 x3 x4 G = some (r, G1)) : ∀ q, q ∉ R_M_smooth → G1 q = G q := by
  unfold f_M_smooth at hf
  have hg : ∀ q, q ∉ R_M_smooth → G q = G q := fun _ _ => rfl
  rcases zx_if_some hf with ⟨hc_1, hf⟩ | ⟨hc_1, hf⟩
  · skip
    exact zf_tr hg (w_M_smooth_10 x1 x2 x3 x4 x3 G hf)
  · skip
    exact zf_tr hg (w_M_smooth_10 x1 x2 x3 x4 x2 G hf)
theorem w_M_smooth (x1 x2 x3 x4 : Int32) (G : zx_G) {r : Int32} {G1 : zx_G} (hf : f_M_smooth x1 x2 x3 x4 G = some (r, G1)) : ∀ q, q ∉ R_M_smooth → G1 q = G q := w_M_smooth_0 x1 x2 x3 x4 G hf
abbrev R_M_filter : List Nat := [42, 43]
theorem w_M_filter_95 {r : Int32} {G1 : zx_G} {k2 : Int32 → zx_G → Option (Int32 × zx_G)} (hk2 : ∀ (x1 : Int32) (G : zx_G), k2 x1 G = some (r, G1) → ∀ q, q ∉ R_M_filter → G1 q = G q) (x1 : Int32) (G : zx_G) (hf : f_M_filter_95 k2 x1 G = some (r, G1)) : ∀ q, q ∉ R_M_filter → G1 q = G q := by
  unfold f_M_filter_95 at hf
  have hg : ∀ q, q ∉ R_M_filter → G q = G q := fun _ _ => rfl
  obtain ⟨x1_1, ex1_1, hf⟩ := zx_lt_some hf
  exact zf_tr hg (hk2 x1_1 G hf)
theorem w_M_filter_79 {r : Int32} {G1 : zx_G} {k2 : Int32 → zx_G → Option (Int32 × zx_G)} (hk2 : ∀ (x1 : Int32) (G : zx_G), k2 x1 G = some (r, G1) → ∀ q, q ∉ R_M_filter → G1 q = G q) (x1 : Int32) (G : zx_G) (hf : f_M_filter_79 k2 x1 G = some (r, G1)) : ∀ q, q ∉ R_M_filter → G1 q = G q := by
  unfold f_M_filter_79 at hf
  have hg : ∀ q, q ∉ R_M_filter → G q = G q := fun _ _ => rfl
  rcases zx_if_some hf with ⟨hc_1, hf⟩ | ⟨hc_1, hf⟩
  · skip
    exact zf_tr hg (w_M_filter_95 hk2 x1 G hf)
  · skip
    obtain ⟨r_3, G_2, hq_4, hf⟩ := zx_bd_some hf
    have hg := zf_call hg (w_M_soften ((256 : Int32) * x1) G hq_4) (by decide)
    exact zf_tr hg (w_M_filter_95 hk2 x1 G_2 hf)
theorem w_M_filter_52 {r : Int32} {G1 : zx_G} {k2 : Int32 → zx_G → Option (Int32 × zx_G)} (hk2 : ∀ (x1 : Int32) (G : zx_G), k2 x1 G = some (r, G1) → ∀ q, q ∉ R_M_filter → G1 q = G q) : ∀ (n : Nat) (x1 x2 : Int32) (G : zx_G), f_M_filter_52 k2 n x1 x2 G = some (r, G1) → ∀ q, q ∉ R_M_filter → G1 q = G q := by
  intro n
  induction n with
  | zero => intro x1 x2 G hf; cases hf
  | succ n ih =>
    intro x1 x2 G hf
    unfold f_M_filter_52 at hf
    have hg : ∀ q, q ∉ R_M_filter → G q = G q := fun _ _ => rfl
    rcases zx_if_some hf with ⟨hc_1, hf⟩ | ⟨hc_1, hf⟩
    · skip
      exact zf_tr hg (w_M_filter_79 hk2 x1 G hf)
    · skip
      obtain ⟨hb_2, hf⟩ := zx_gd_some hf
      obtain ⟨hb_3, hf⟩ := zx_gd_some hf
      obtain ⟨r_5, G_4, hq_6, hf⟩ := zx_bd_some hf
      have hg := zf_call hg (w_M_smooth x1 (zx_rem x2 (16 : Int32)) (zx_div x2 (16 : Int32)) (0 : Int32) G hq_6) (by decide)
      obtain ⟨x2_7, ex2_7, hf⟩ := zx_lt_some hf
      exact zf_tr hg (ih x1 x2_7 G_4 hf)
theorem w_M_filter_23 {r : Int32} {G1 : zx_G} {k2 : Int32 → zx_G → Option (Int32 × zx_G)} (hk2 : ∀ (x1 : Int32) (G : zx_G), k2 x1 G = some (r, G1) → ∀ q, q ∉ R_M_filter → G1 q = G q) : ∀ (n : Nat) (x1 x2 : Int32) (G : zx_G), f_M_filter_23 k2 n x1 x2 G = some (r, G1) → ∀ q, q ∉ R_M_filter → G1 q = G q := by
  intro n
  induction n with
  | zero => intro x1 x2 G hf; cases hf
  | succ n ih =>
    intro x1 x2 G hf
    unfold f_M_filter_23 at hf
    have hg : ∀ q, q ∉ R_M_filter → G q = G q := fun _ _ => rfl
    rcases zx_if_some hf with ⟨hc_1, hf⟩ | ⟨hc_1, hf⟩
    · skip
      obtain ⟨x2_2, ex2_2, hf⟩ := zx_lt_some hf
      exact zf_tr hg (w_M_filter_52 hk2 2048 x1 x2_2 G hf)
    · skip
      obtain ⟨hb_3, hf⟩ := zx_gd_some hf
      obtain ⟨hb_4, hf⟩ := zx_gd_some hf
      obtain ⟨r_6, G_5, hq_7, hf⟩ := zx_bd_some hf
      have hg := zf_call hg (w_M_smooth x1 (zx_rem x2 (16 : Int32)) (zx_div x2 (16 : Int32)) (1 : Int32) G hq_7) (by decide)
      obtain ⟨x2_8, ex2_8, hf⟩ := zx_lt_some hf
      exact zf_tr hg (ih x1 x2_8 G_5 hf)
theorem w_M_filter_2 {r : Int32} {G1 : zx_G} : ∀ (n : Nat) (x1 : Int32) (G : zx_G), f_M_filter_2 n x1 G = some (r, G1) → ∀ q, q ∉ R_M_filter → G1 q = G q := by
  intro n
  induction n with
  | zero => intro x1 G hf; cases hf
  | succ n ih =>
    intro x1 G hf
    unfold f_M_filter_2 at hf
    have hg : ∀ q, q ∉ R_M_filter → G q = G q := fun _ _ => rfl
    rcases zx_if_some hf with ⟨hc_1, hf⟩ | ⟨hc_1, hf⟩
    · skip
      exact zf_ret hg hf
    · skip
      rcases zx_if_some hf with ⟨hc_2, hf⟩ | ⟨hc_2, hf⟩
      · skip
        exact zf_tr hg (w_M_filter_79 ih x1 G hf)
      · skip
        obtain ⟨x2_3, ex2_3, hf⟩ := zx_lt_some hf
        exact zf_tr hg (w_M_filter_23 ih 2048 x1 x2_3 G hf)
theorem w_M_filter_0 {r : Int32} {G1 : zx_G} (G : zx_G) (hf : f_M_filter G = some (r, G1)) : ∀ q, q ∉ R_M_filter → G1 q = G q := by
  unfold f_M_filter at hf
  have hg : ∀ q, q ∉ R_M_filter → G q = G q := fun _ _ => rfl
  obtain ⟨x1_1, ex1_1, hf⟩ := zx_lt_some hf
  exact zf_tr hg (w_M_filter_2 2048 x1_1 G hf)
theorem w_M_filter (G : zx_G) {r : Int32} {G1 : zx_G} (hf : f_M_filter G = some (r, G1)) : ∀ q, q ∉ R_M_filter → G1 q = G q := w_M_filter_0 G hf
abbrev R_M_tableSize : List Nat := []
theorem w_M_tableSize_61 {r : Int32} {G1 : zx_G} (s0 : Int32) (G : zx_G) (hf : f_M_tableSize_61 s0 G = some (r, G1)) : ∀ q, q ∉ R_M_tableSize → G1 q = G q := by
  unfold f_M_tableSize_61 at hf
  have hg : ∀ q, q ∉ R_M_tableSize → G q = G q := fun _ _ => rfl
  exact zf_ret hg hf
theorem w_M_tableSize_17 {r : Int32} {G1 : zx_G} (G : zx_G) (hf : f_M_tableSize_17 G = some (r, G1)) : ∀ q, q ∉ R_M_tableSize → G1 q = G q := by
  unfold f_M_tableSize_17 at hf
  have hg : ∀ q, q ∉ R_M_tableSize → G q = G q := fun _ _ => rfl
  exact zf_tr hg (w_M_tableSize_61 (2 : Int32) G hf)
theorem w_M_tableSize_55 {r : Int32} {G1 : zx_G} (G : zx_G) (hf : f_M_tableSize_55 G = some (r, G1)) : ∀ q, q ∉ R_M_tableSize → G1 q = G q := by
  unfold f_M_tableSize_55 at hf
  have hg : ∀ q, q ∉ R_M_tableSize → G q = G q := fun _ _ => rfl
  exact zf_tr hg (w_M_tableSize_61 (16 : Int32) G hf)
theorem w_M_tableSize_0 {r : Int32} {G1 : zx_G} (x0 : Int32) (G : zx_G) (hf : f_M_tableSize x0 G = some (r, G1)) : ∀ q, q ∉ R_M_tableSize → G1 q = G q := by
  unfold f_M_tableSize at hf
  have hg : ∀ q, q ∉ R_M_tableSize → G q = G q := fun _ _ => rfl
  rcases zx_if_some hf with ⟨hc_1, hf⟩ | ⟨hc_1, hf⟩
  · skip
    exact zf_tr hg (w_M_tableSize_17 G hf)
  · skip
    rcases zx_if_some hf with ⟨hc_2, hf⟩ | ⟨hc_2, hf⟩
    · skip
      exact zf_tr hg (w_M_tableSize_17 G hf)
    · skip
      rcases zx_if_some hf with ⟨hc_3, hf⟩ | ⟨hc_3, hf⟩
      · skip
        rcases zx_if_some hf with ⟨hc_4, hf⟩ | ⟨hc_4, hf⟩
        · skip
          rcases zx_if_some hf with ⟨hc_5, hf⟩ | ⟨hc_5, hf⟩
          · skip
            rcases zx_if_some hf with ⟨hc_6, hf⟩ | ⟨hc_6, hf⟩
            · skip
              exact zf_tr hg (w_M_tableSize_55 G hf)
            · skip
              rcases zx_if_some hf with ⟨hc_7, hf⟩ | ⟨hc_7, hf⟩
              · skip
                exact zf_tr hg (w_M_tableSize_61 (4 : Int32) G hf)
              · skip
                exact zf_tr hg (w_M_tableSize_55 G hf)
          · skip
            exact zf_tr hg (w_M_tableSize_61 (7 : Int32) G hf)
        · skip
          exact zf_tr hg (w_M_tableSize_61 (6 : Int32) G hf)
      · skip
        exact zf_tr hg (w_M_tableSize_17 G hf)
theorem w_M_tableSize (x0 : Int32) (G : zx_G) {r : Int32} {G1 : zx_G} (hf : f_M_tableSize x0 G = some (r, G1)) : ∀ q, q ∉ R_M_tableSize → G1 q = G q := w_M_tableSize_0 x0 G hf
abbrev R_M_predicted : List Nat := []
theorem w_M_predicted_197 {r : Int32} {G1 : zx_G} (x4 s0 : Int32) (G : zx_G) (hf : f_M_predicted_197 x4 s0 G = some (r, G1)) : ∀ q, q ∉ R_M_predicted → G1 q = G q := by
  unfold f_M_predicted_197 at hf
  have hg : ∀ q, q ∉ R_M_predicted → G q = G q := fun _ _ => rfl
  obtain ⟨x5_1, ex5_1, hf⟩ := zx_lt_some hf
  obtain ⟨hb_2, hf⟩ := zx_gd_some hf
  obtain ⟨hb_3, hf⟩ := zx_gd_some hf
  exact zf_ret hg hf
theorem w_M_predicted_179 {r : Int32} {G1 : zx_G} (x2 x3 s0 : Int32) (G : zx_G) (hf : f_M_predicted_179 x2 x3 s0 G = some (r, G1)) : ∀ q, q ∉ R_M_predicted → G1 q = G q := by
  unfold f_M_predicted_179 at hf
  have hg : ∀ q, q ∉ R_M_predicted → G q = G q := fun _ _ => rfl
  obtain ⟨x4_1, ex4_1, hf⟩ := zx_lt_some hf
  rcases zx_if_some hf with ⟨hc_2, hf⟩ | ⟨hc_2, hf⟩
  · skip
    exact zf_tr hg (w_M_predicted_197 x4_1 (3 : Int32) G hf)
  · skip
    exact zf_tr hg (w_M_predicted_197 x4_1 ((x2 + x3) + (1 : Int32)) G hf)
theorem w_M_predicted_304 {r : Int32} {G1 : zx_G} (s0 : Int32) (G : zx_G) (hf : f_M_predicted_304 s0 G = some (r, G1)) : ∀ q, q ∉ R_M_predicted → G1 q = G q := by
  unfold f_M_predicted_304 at hf
  have hg : ∀ q, q ∉ R_M_predicted → G q = G q := fun _ _ => rfl
  exact zf_ret hg hf
theorem w_M_predicted_276 {r : Int32} {G1 : zx_G} (x4 x5 : Int32) (G : zx_G) (hf : f_M_predicted_276 x4 x5 G = some (r, G1)) : ∀ q, q ∉ R_M_predicted → G1 q = G q := by
  unfold f_M_predicted_276 at hf
  have hg : ∀ q, q ∉ R_M_predicted → G q = G q := fun _ _ => rfl
  obtain ⟨r_2, G_1, hq_3, hf⟩ := zx_bd_some hf
  have hg := zf_call hg (w_M_far (G 32 44) x4 G hq_3) (by decide)
  obtain ⟨r_5, G_4, hq_6, hf⟩ := zx_bd_some hf
  have hg := zf_call hg (w_M_far x5 x4 G_1 hq_6) (by decide)
  rcases zx_if_some hf with ⟨hc_7, hf⟩ | ⟨hc_7, hf⟩
  · skip
    exact zf_tr hg (w_M_predicted_304 x5 G_4 hf)
  · skip
    exact zf_tr hg (w_M_predicted_304 (G_4 32 44) G_4 hf)
theorem w_M_predicted_0 {r : Int32} {G1 : zx_G} (x1 x2 x3 : Int32) (G : zx_G) (hf : f_M_predicted x1 x2 x3 G = some (r, G1)) : ∀ q, q ∉ R_M_predicted → G1 q = G q := by
  unfold f_M_predicted at hf
  have hg : ∀ q, q ∉ R_M_predicted → G q = G q := fun _ _ => rfl
  rcases zx_if_some hf with ⟨hc_1, hf⟩ | ⟨hc_1, hf⟩
  · skip
    rcases zx_if_some hf with ⟨hc_2, hf⟩ | ⟨hc_2, hf⟩
    · skip
      rcases zx_if_some hf with ⟨hc_3, hf⟩ | ⟨hc_3, hf⟩
      · skip
        rcases zx_if_some hf with ⟨hc_4, hf⟩ | ⟨hc_4, hf⟩
        · skip
          rcases zx_if_some hf with ⟨hc_5, hf⟩ | ⟨hc_5, hf⟩
          · skip
            obtain ⟨hb_6, hf⟩ := zx_gd_some hf
            obtain ⟨hb_7, hf⟩ := zx_gd_some hf
            obtain ⟨x4_8, ex4_8, hf⟩ := zx_lt_some hf
            obtain ⟨hb_9, hf⟩ := zx_gd_some hf
            obtain ⟨x5_10, ex5_10, hf⟩ := zx_lt_some hf
            obtain ⟨hb_11, hf⟩ := zx_gd_some hf
            obtain ⟨r_13, G_12, hq_14, hf⟩ := zx_bd_some hf
            have hg := zf_call hg (w_M_far (G 49 (Int32.toNatClampNeg x2)) x4_8 G hq_14) (by decide)
            obtain ⟨r_16, G_15, hq_17, hf⟩ := zx_bd_some hf
            have hg := zf_call hg (w_M_far x5_10 x4_8 G_12 hq_17) (by decide)
            rcases zx_if_some hf with ⟨hc_18, hf⟩ | ⟨hc_18, hf⟩
            · skip
              exact zf_tr hg (w_M_predicted_276 x4_8 x5_10 G_15 hf)
            · skip
              obtain ⟨hb_19, hf⟩ := zx_gd_some hf
              obtain ⟨x5_20, ex5_20, hf⟩ := zx_lt_some hf
              exact zf_tr hg (w_M_predicted_276 x4_8 x5_20 G_15 hf)
          · skip
            rcases zx_if_some hf with ⟨hc_21, hf⟩ | ⟨hc_21, hf⟩
            · skip
              exact zf_tr hg (w_M_predicted_179 x2 x3 (3 : Int32) G hf)
            · skip
              exact zf_tr hg (w_M_predicted_179 x2 x3 (x2 + x3) G hf)
        · skip
          obtain ⟨x4_22, ex4_22, hf⟩ := zx_lt_some hf
          obtain ⟨x5_23, ex5_23, hf⟩ := zx_lt_some hf
          obtain ⟨hb_24, hf⟩ := zx_gd_some hf
          obtain ⟨hb_25, hf⟩ := zx_gd_some hf
          obtain ⟨hb_26, hf⟩ := zx_gd_some hf
          obtain ⟨hb_27, hf⟩ := zx_gd_some hf
          exact zf_ret hg hf
      · skip
        obtain ⟨hb_28, hf⟩ := zx_gd_some hf
        exact zf_ret hg hf
    · skip
      obtain ⟨hb_29, hf⟩ := zx_gd_some hf
      exact zf_ret hg hf
  · skip
    obtain ⟨hb_30, hf⟩ := zx_gd_some hf
    obtain ⟨hb_31, hf⟩ := zx_gd_some hf
    obtain ⟨hb_32, hf⟩ := zx_gd_some hf
    obtain ⟨hb_33, hf⟩ := zx_gd_some hf
    obtain ⟨hb_34, hf⟩ := zx_gd_some hf
    obtain ⟨hb_35, hf⟩ := zx_gd_some hf
    obtain ⟨hb_36, hf⟩ := zx_gd_some hf
    obtain ⟨hb_37, hf⟩ := zx_gd_some hf
    exact zf_ret hg hf
theorem w_M_predicted (x1 x2 x3 : Int32) (G : zx_G) {r : Int32} {G1 : zx_G} (hf : f_M_predicted x1 x2 x3 G = some (r, G1)) : ∀ q, q ∉ R_M_predicted → G1 q = G q := w_M_predicted_0 x1 x2 x3 G hf
abbrev R_M_nextBit : List Nat := [32]
theorem w_M_nextBit_51 {r : Int32} {G1 : zx_G} (s0 : Int32) (G : zx_G) (hf : f_M_nextBit_51 s0 G = some (r, G1)) : ∀ q, q ∉ R_M_nextBit → G1 q = G q := by
  unfold f_M_nextBit_51 at hf
  have hg : ∀ q, q ∉ R_M_nextBit → G q = G q := fun _ _ => rfl
  exact zf_ret hg hf
theorem w_M_nextBit_0 {r : Int32} {G1 : zx_G} (G : zx_G) (hf : f_M_nextBit G = some (r, G1)) : ∀ q, q ∉ R_M_nextBit → G1 q = G q := by
  unfold f_M_nextBit at hf
  have hg : ∀ q, q ∉ R_M_nextBit → G q = G q := fun _ _ => rfl
  obtain ⟨x1_1, ex1_1, hf⟩ := zx_lt_some hf
  obtain ⟨G_2, eG_2, hf⟩ := zx_lt_some hf
  have hg := zf_up hg eG_2 (by decide)
  rcases zx_if_some hf with ⟨hc_3, hf⟩ | ⟨hc_3, hf⟩
  · skip
    exact zf_tr hg (w_M_nextBit_51 (0 : Int32) G_2 hf)
  · skip
    obtain ⟨hb_4, hf⟩ := zx_gd_some hf
    obtain ⟨hb_5, hf⟩ := zx_gd_some hf
    obtain ⟨hb_6, hf⟩ := zx_gd_some hf
    exact zf_tr hg (w_M_nextBit_51 (((G_2 39 (Int32.toNatClampNeg (zx_div x1_1 (8 : Int32)))) >>> (((7 : Int32) - (zx_rem x1_1 (8 : Int32))) &&& 31)) &&& (1 : Int32)) G_2 hf)
theorem w_M_nextBit (G : zx_G) {r : Int32} {G1 : zx_G} (hf : f_M_nextBit G = some (r, G1)) : ∀ q, q ∉ R_M_nextBit → G1 q = G q := w_M_nextBit_0 G hf
abbrev R_M_narrow : List Nat := [32]
theorem w_M_narrow_27 {r : Int32} {G1 : zx_G} : ∀ (n : Nat) (G : zx_G), f_M_narrow_27 n G = some (r, G1) → ∀ q, q ∉ R_M_narrow → G1 q = G q := by
  intro n
  induction n with
  | zero => intro G hf; cases hf
  | succ n ih =>
    intro G hf
    unfold f_M_narrow_27 at hf
    have hg : ∀ q, q ∉ R_M_narrow → G q = G q := fun _ _ => rfl
    rcases zx_if_some hf with ⟨hc_1, hf⟩ | ⟨hc_1, hf⟩
    · skip
      exact zf_ret hg hf
    · skip
      obtain ⟨G_2, eG_2, hf⟩ := zx_lt_some hf
      have hg := zf_up hg eG_2 (by decide)
      obtain ⟨r_4, G_3, hq_5, hf⟩ := zx_bd_some hf
      have hg := zf_call hg (w_M_nextBit G_2 hq_5) (by decide)
      obtain ⟨G_6, eG_6, hf⟩ := zx_lt_some hf
      have hg := zf_up hg eG_6 (by decide)
      exact zf_tr hg (ih G_6 hf)
theorem w_M_narrow_0 {r : Int32} {G1 : zx_G} (x1 x2 : Int32) (G : zx_G) (hf : f_M_narrow x1 x2 G = some (r, G1)) : ∀ q, q ∉ R_M_narrow → G1 q = G q := by
  unfold f_M_narrow at hf
  have hg : ∀ q, q ∉ R_M_narrow → G q = G q := fun _ _ => rfl
  obtain ⟨G_1, eG_1, hf⟩ := zx_lt_some hf
  have hg := zf_up hg eG_1 (by decide)
  obtain ⟨G_2, eG_2, hf⟩ := zx_lt_some hf
  have hg := zf_up hg eG_2 (by decide)
  obtain ⟨G_3, eG_3, hf⟩ := zx_lt_some hf
  have hg := zf_up hg eG_3 (by decide)
  exact zf_tr hg (w_M_narrow_27 2048 G_3 hf)
theorem w_M_narrow (x1 x2 : Int32) (G : zx_G) {r : Int32} {G1 : zx_G} (hf : f_M_narrow x1 x2 G = some (r, G1)) : ∀ q, q ∉ R_M_narrow → G1 q = G q := w_M_narrow_0 x1 x2 G hf
abbrev R_M_bit : List Nat := [32]
theorem w_M_bit_55 {r : Int32} {G1 : zx_G} (s0 : Int32) (G : zx_G) (hf : f_M_bit_55 s0 G = some (r, G1)) : ∀ q, q ∉ R_M_bit → G1 q = G q := by
  unfold f_M_bit_55 at hf
  have hg : ∀ q, q ∉ R_M_bit → G q = G q := fun _ _ => rfl
  exact zf_ret hg hf
theorem w_M_bit_43 {r : Int32} {G1 : zx_G} (x2 s1 s2 : Int32) (G : zx_G) (hf : f_M_bit_43 x2 s1 s2 G = some (r, G1)) : ∀ q, q ∉ R_M_bit → G1 q = G q := by
  unfold f_M_bit_43 at hf
  have hg : ∀ q, q ∉ R_M_bit → G q = G q := fun _ _ => rfl
  obtain ⟨r_2, G_1, hq_3, hf⟩ := zx_bd_some hf
  have hg := zf_call hg (w_M_narrow s1 s2 G hq_3) (by decide)
  rcases zx_if_some hf with ⟨hc_4, hf⟩ | ⟨hc_4, hf⟩
  · skip
    exact zf_tr hg (w_M_bit_55 (0 : Int32) G_1 hf)
  · skip
    exact zf_tr hg (w_M_bit_55 (1 : Int32) G_1 hf)
theorem w_M_bit_31 {r : Int32} {G1 : zx_G} (x1 x2 s1 : Int32) (G : zx_G) (hf : f_M_bit_31 x1 x2 s1 G = some (r, G1)) : ∀ q, q ∉ R_M_bit → G1 q = G q := by
  unfold f_M_bit_31 at hf
  have hg : ∀ q, q ∉ R_M_bit → G q = G q := fun _ _ => rfl
  rcases zx_if_some hf with ⟨hc_1, hf⟩ | ⟨hc_1, hf⟩
  · skip
    exact zf_tr hg (w_M_bit_43 x2 s1 x1 G hf)
  · skip
    exact zf_tr hg (w_M_bit_43 x2 s1 (G 32 27) G hf)
theorem w_M_bit_20 {r : Int32} {G1 : zx_G} (x1 s0 : Int32) (G : zx_G) (hf : f_M_bit_20 x1 s0 G = some (r, G1)) : ∀ q, q ∉ R_M_bit → G1 q = G q := by
  unfold f_M_bit_20 at hf
  have hg : ∀ q, q ∉ R_M_bit → G q = G q := fun _ _ => rfl
  obtain ⟨x2_1, ex2_1, hf⟩ := zx_lt_some hf
  rcases zx_if_some hf with ⟨hc_2, hf⟩ | ⟨hc_2, hf⟩
  · skip
    exact zf_tr hg (w_M_bit_31 x1 x2_1 (0 : Int32) G hf)
  · skip
    exact zf_tr hg (w_M_bit_31 x1 x2_1 x1 G hf)
theorem w_M_bit_0 {r : Int32} {G1 : zx_G} (G : zx_G) (hf : f_M_bit G = some (r, G1)) : ∀ q, q ∉ R_M_bit → G1 q = G q := by
  unfold f_M_bit at hf
  have hg : ∀ q, q ∉ R_M_bit → G q = G q := fun _ _ => rfl
  obtain ⟨x1_1, ex1_1, hf⟩ := zx_lt_some hf
  rcases zx_if_some hf with ⟨hc_2, hf⟩ | ⟨hc_2, hf⟩
  · skip
    exact zf_tr hg (w_M_bit_20 x1_1 (0 : Int32) G hf)
  · skip
    exact zf_tr hg (w_M_bit_20 x1_1 (1 : Int32) G hf)
theorem w_M_bit (G : zx_G) {r : Int32} {G1 : zx_G} (hf : f_M_bit G = some (r, G1)) : ∀ q, q ∉ R_M_bit → G1 q = G q := w_M_bit_0 G hf
abbrev R_M_fail : List Nat := [32]
theorem w_M_fail_16 {r : Int32} {G1 : zx_G} (s1 : Int32) (G : zx_G) (hf : f_M_fail_16 s1 G = some (r, G1)) : ∀ q, q ∉ R_M_fail → G1 q = G q := by
  unfold f_M_fail_16 at hf
  have hg : ∀ q, q ∉ R_M_fail → G q = G q := fun _ _ => rfl
  obtain ⟨G_1, eG_1, hf⟩ := zx_lt_some hf
  have hg := zf_up hg eG_1 (by decide)
  exact zf_ret hg hf
theorem w_M_fail_0 {r : Int32} {G1 : zx_G} (x1 : Int32) (G : zx_G) (hf : f_M_fail x1 G = some (r, G1)) : ∀ q, q ∉ R_M_fail → G1 q = G q := by
  unfold f_M_fail at hf
  have hg : ∀ q, q ∉ R_M_fail → G q = G q := fun _ _ => rfl
  rcases zx_if_some hf with ⟨hc_1, hf⟩ | ⟨hc_1, hf⟩
  · skip
    exact zf_tr hg (w_M_fail_16 (G 32 10) G hf)
  · skip
    exact zf_tr hg (w_M_fail_16 x1 G hf)
theorem w_M_fail (x1 : Int32) (G : zx_G) {r : Int32} {G1 : zx_G} (hf : f_M_fail x1 G = some (r, G1)) : ∀ q, q ∉ R_M_fail → G1 q = G q := w_M_fail_0 x1 G hf
abbrev R_M_more : List Nat := [32]
theorem w_M_more_39 {r : Int32} {G1 : zx_G} : ∀ (n : Nat) (x1 x2 x3 : Int32) (G : zx_G), f_M_more_39 n x1 x2 x3 G = some (r, G1) → ∀ q, q ∉ R_M_more → G1 q = G q := by
  intro n
  induction n with
  | zero => intro x1 x2 x3 G hf; cases hf
  | succ n ih =>
    intro x1 x2 x3 G hf
    unfold f_M_more_39 at hf
    have hg : ∀ q, q ∉ R_M_more → G q = G q := fun _ _ => rfl
    rcases zx_if_some hf with ⟨hc_1, hf⟩ | ⟨hc_1, hf⟩
    · skip
      exact zf_ret hg hf
    · skip
      obtain ⟨r_3, G_2, hq_4, hf⟩ := zx_bd_some hf
      have hg := zf_call hg (w_M_bit G hq_4) (by decide)
      obtain ⟨x2_5, ex2_5, hf⟩ := zx_lt_some hf
      obtain ⟨x3_6, ex3_6, hf⟩ := zx_lt_some hf
      exact zf_tr hg (ih x1 x2_5 x3_6 G_2 hf)
theorem w_M_more_21 {r : Int32} {G1 : zx_G} (x1 : Int32) (G : zx_G) (hf : f_M_more_21 x1 G = some (r, G1)) : ∀ q, q ∉ R_M_more → G1 q = G q := by
  unfold f_M_more_21 at hf
  have hg : ∀ q, q ∉ R_M_more → G q = G q := fun _ _ => rfl
  rcases zx_if_some hf with ⟨hc_1, hf⟩ | ⟨hc_1, hf⟩
  · skip
    obtain ⟨x2_2, ex2_2, hf⟩ := zx_lt_some hf
    obtain ⟨x3_3, ex3_3, hf⟩ := zx_lt_some hf
    exact zf_tr hg (w_M_more_39 2048 x1 x2_2 x3_3 G hf)
  · skip
    obtain ⟨r_5, G_4, hq_6, hf⟩ := zx_bd_some hf
    have hg := zf_call hg (w_M_fail (8 : Int32) G hq_6) (by decide)
    exact zf_ret hg hf
theorem w_M_more_2 {r : Int32} {G1 : zx_G} : ∀ (n : Nat) (x1 : Int32) (G : zx_G), f_M_more_2 n x1 G = some (r, G1) → ∀ q, q ∉ R_M_more → G1 q = G q := by
  intro n
  induction n with
  | zero => intro x1 G hf; cases hf
  | succ n ih =>
    intro x1 G hf
    unfold f_M_more_2 at hf
    have hg : ∀ q, q ∉ R_M_more → G q = G q := fun _ _ => rfl
    rcases zx_if_some hf with ⟨hc_1, hf⟩ | ⟨hc_1, hf⟩
    · skip
      exact zf_tr hg (w_M_more_21 x1 G hf)
    · skip
      obtain ⟨r_3, G_2, hq_4, hf⟩ := zx_bd_some hf
      have hg := zf_call hg (w_M_bit G hq_4) (by decide)
      rcases zx_if_some hf with ⟨hc_5, hf⟩ | ⟨hc_5, hf⟩
      · skip
        exact zf_tr hg (w_M_more_21 x1 G_2 hf)
      · skip
        obtain ⟨x1_6, ex1_6, hf⟩ := zx_lt_some hf
        exact zf_tr hg (ih x1_6 G_2 hf)
theorem w_M_more_0 {r : Int32} {G1 : zx_G} (G : zx_G) (hf : f_M_more G = some (r, G1)) : ∀ q, q ∉ R_M_more → G1 q = G q := by
  unfold f_M_more at hf
  have hg : ∀ q, q ∉ R_M_more → G q = G q := fun _ _ => rfl
  obtain ⟨x1_1, ex1_1, hf⟩ := zx_lt_some hf
  exact zf_tr hg (w_M_more_2 2048 x1_1 G hf)
theorem w_M_more (G : zx_G) {r : Int32} {G1 : zx_G} (hf : f_M_more G = some (r, G1)) : ∀ q, q ∉ R_M_more → G1 q = G q := w_M_more_0 G hf
abbrev R_M_symbol : List Nat := [32, 40, 41]
theorem w_M_symbol_214 {r : Int32} {G1 : zx_G} {k146 : Int32 → Int32 → Int32 → Int32 → Int32 → zx_G → Option (Int32 × zx_G)} (hk146 : ∀ (x1 x2 x3 x5 x6 : Int32) (G : zx_G), k146 x1 x2 x3 x5 x6 G = some (r, G1) → ∀ q, q ∉ R_M_symbol → G1 q = G q) (x1 x2 x3 x5 x6 s1 s2 : Int32) (G : zx_G) (hf : f_M_symbol_214 k146 x1 x2 x3 x5 x6 s1 s2 G = some (r, G1)) : ∀ q, q ∉ R_M_symbol → G1 q = G q := by
  unfold f_M_symbol_214 at hf
  have hg : ∀ q, q ∉ R_M_symbol → G q = G q := fun _ _ => rfl
  obtain ⟨hb_1, hf⟩ := zx_gd_some hf
  obtain ⟨G_2, eG_2, hf⟩ := zx_lt_some hf
  have hg := zf_up hg eG_2 (by decide)
  obtain ⟨x6_3, ex6_3, hf⟩ := zx_lt_some hf
  exact zf_tr hg (hk146 x1 x2 x3 x5 x6_3 G_2 hf)
theorem w_M_symbol_221 {r : Int32} {G1 : zx_G} (x3 : Int32) (G : zx_G) (hf : f_M_symbol_221 x3 G = some (r, G1)) : ∀ q, q ∉ R_M_symbol → G1 q = G q := by
  unfold f_M_symbol_221 at hf
  have hg : ∀ q, q ∉ R_M_symbol → G q = G q := fun _ _ => rfl
  exact zf_ret hg hf
theorem w_M_symbol_146 {r : Int32} {G1 : zx_G} : ∀ (n : Nat) (x1 x2 x3 x5 x6 : Int32) (G : zx_G), f_M_symbol_146 n x1 x2 x3 x5 x6 G = some (r, G1) → ∀ q, q ∉ R_M_symbol → G1 q = G q := by
  intro n
  induction n with
  | zero => intro x1 x2 x3 x5 x6 G hf; cases hf
  | succ n ih =>
    intro x1 x2 x3 x5 x6 G hf
    unfold f_M_symbol_146 at hf
    have hg : ∀ q, q ∉ R_M_symbol → G q = G q := fun _ _ => rfl
    rcases zx_if_some hf with ⟨hc_1, hf⟩ | ⟨hc_1, hf⟩
    · skip
      exact zf_tr hg (w_M_symbol_221 x3 G hf)
    · skip
      rcases zx_if_some hf with ⟨hc_2, hf⟩ | ⟨hc_2, hf⟩
      · skip
        exact zf_tr hg (w_M_symbol_221 x3 G hf)
      · skip
        obtain ⟨hb_3, hf⟩ := zx_gd_some hf
        obtain ⟨x7_4, ex7_4, hf⟩ := zx_lt_some hf
        rcases zx_if_some hf with ⟨hc_5, hf⟩ | ⟨hc_5, hf⟩
        · skip
          exact zf_tr hg (w_M_symbol_214 ih x1 x2 x3 x5 x6 (((16 : Int32) * x1) + x6) (x7_4 - (x7_4 >>> (x5 &&& 31))) G hf)
        · skip
          exact zf_tr hg (w_M_symbol_214 ih x1 x2 x3 x5 x6 (((16 : Int32) * x1) + x6) (x7_4 + (((32768 : Int32) - x7_4) >>> (x5 &&& 31))) G hf)
theorem w_M_symbol_130 {r : Int32} {G1 : zx_G} (x1 x2 x3 s0 s1 : Int32) (G : zx_G) (hf : f_M_symbol_130 x1 x2 x3 s0 s1 G = some (r, G1)) : ∀ q, q ∉ R_M_symbol → G1 q = G q := by
  unfold f_M_symbol_130 at hf
  have hg : ∀ q, q ∉ R_M_symbol → G q = G q := fun _ _ => rfl
  obtain ⟨x5_1, ex5_1, hf⟩ := zx_lt_some hf
  obtain ⟨hb_2, hf⟩ := zx_gd_some hf
  obtain ⟨hb_3, hf⟩ := zx_gd_some hf
  obtain ⟨G_4, eG_4, hf⟩ := zx_lt_some hf
  have hg := zf_up hg eG_4 (by decide)
  obtain ⟨x6_5, ex6_5, hf⟩ := zx_lt_some hf
  exact zf_tr hg (w_M_symbol_146 2048 x1 x2 x3 x5_1 x6_5 G_4 hf)
theorem w_M_symbol_119 {r : Int32} {G1 : zx_G} (x1 x2 x3 s0 s1 : Int32) (G : zx_G) (hf : f_M_symbol_119 x1 x2 x3 s0 s1 G = some (r, G1)) : ∀ q, q ∉ R_M_symbol → G1 q = G q := by
  unfold f_M_symbol_119 at hf
  have hg : ∀ q, q ∉ R_M_symbol → G q = G q := fun _ _ => rfl
  rcases zx_if_some hf with ⟨hc_1, hf⟩ | ⟨hc_1, hf⟩
  · skip
    exact zf_tr hg (w_M_symbol_130 x1 x2 x3 (s0 + s1) (0 : Int32) G hf)
  · skip
    exact zf_tr hg (w_M_symbol_130 x1 x2 x3 (s0 + s1) (1 : Int32) G hf)
theorem w_M_symbol_75 {r : Int32} {G1 : zx_G} (x1 x2 x3 s0 : Int32) (G : zx_G) (hf : f_M_symbol_75 x1 x2 x3 s0 G = some (r, G1)) : ∀ q, q ∉ R_M_symbol → G1 q = G q := by
  unfold f_M_symbol_75 at hf
  have hg : ∀ q, q ∉ R_M_symbol → G q = G q := fun _ _ => rfl
  obtain ⟨x4_1, ex4_1, hf⟩ := zx_lt_some hf
  obtain ⟨hb_2, hf⟩ := zx_gd_some hf
  obtain ⟨r_4, G_3, hq_5, hf⟩ := zx_bd_some hf
  have hg := zf_call hg (w_M_narrow x4_1 (((G 32 27) * (G 40 (Int32.toNatClampNeg (((16 : Int32) * x1) + x3)))) >>> ((15 : Int32) &&& 31)) G hq_5) (by decide)
  obtain ⟨hb_6, hf⟩ := zx_gd_some hf
  rcases zx_if_some hf with ⟨hc_7, hf⟩ | ⟨hc_7, hf⟩
  · skip
    exact zf_tr hg (w_M_symbol_119 x1 x2 x3 (4 : Int32) (0 : Int32) G_3 hf)
  · skip
    exact zf_tr hg (w_M_symbol_119 x1 x2 x3 (4 : Int32) (1 : Int32) G_3 hf)
theorem w_M_symbol_46 {r : Int32} {G1 : zx_G} (x1 x2 x3 : Int32) (G : zx_G) (hf : f_M_symbol_46 x1 x2 x3 G = some (r, G1)) : ∀ q, q ∉ R_M_symbol → G1 q = G q := by
  unfold f_M_symbol_46 at hf
  have hg : ∀ q, q ∉ R_M_symbol → G q = G q := fun _ _ => rfl
  rcases zx_if_some hf with ⟨hc_1, hf⟩ | ⟨hc_1, hf⟩
  · skip
    obtain ⟨hb_2, hf⟩ := zx_gd_some hf
    exact zf_tr hg (w_M_symbol_75 x1 x2 x3 (((G 32 27) * (G 40 (Int32.toNatClampNeg ((((16 : Int32) * x1) + x3) - (1 : Int32))))) >>> ((15 : Int32) &&& 31)) G hf)
  · skip
    exact zf_tr hg (w_M_symbol_75 x1 x2 x3 (0 : Int32) G hf)
theorem w_M_symbol_7 {r : Int32} {G1 : zx_G} : ∀ (n : Nat) (x1 x2 x3 : Int32) (G : zx_G), f_M_symbol_7 n x1 x2 x3 G = some (r, G1) → ∀ q, q ∉ R_M_symbol → G1 q = G q := by
  intro n
  induction n with
  | zero => intro x1 x2 x3 G hf; cases hf
  | succ n ih =>
    intro x1 x2 x3 G hf
    unfold f_M_symbol_7 at hf
    have hg : ∀ q, q ∉ R_M_symbol → G q = G q := fun _ _ => rfl
    rcases zx_if_some hf with ⟨hc_1, hf⟩ | ⟨hc_1, hf⟩
    · skip
      exact zf_tr hg (w_M_symbol_46 x1 x2 x3 G hf)
    · skip
      obtain ⟨hb_2, hf⟩ := zx_gd_some hf
      rcases zx_if_some hf with ⟨hc_3, hf⟩ | ⟨hc_3, hf⟩
      · skip
        exact zf_tr hg (w_M_symbol_46 x1 x2 x3 G hf)
      · skip
        obtain ⟨x3_4, ex3_4, hf⟩ := zx_lt_some hf
        exact zf_tr hg (ih x1 x2 x3_4 G hf)
theorem w_M_symbol_0 {r : Int32} {G1 : zx_G} (x1 : Int32) (G : zx_G) (hf : f_M_symbol x1 G = some (r, G1)) : ∀ q, q ∉ R_M_symbol → G1 q = G q := by
  unfold f_M_symbol at hf
  have hg : ∀ q, q ∉ R_M_symbol → G q = G q := fun _ _ => rfl
  obtain ⟨r_2, G_1, hq_3, hf⟩ := zx_bd_some hf
  have hg := zf_call hg (w_M_tableSize x1 G hq_3) (by decide)
  obtain ⟨x2_4, ex2_4, hf⟩ := zx_lt_some hf
  obtain ⟨x3_5, ex3_5, hf⟩ := zx_lt_some hf
  exact zf_tr hg (w_M_symbol_7 2048 x1 x2_4 x3_5 G_1 hf)
theorem w_M_symbol (x1 : Int32) (G : zx_G) {r : Int32} {G1 : zx_G} (hf : f_M_symbol x1 G = some (r, G1)) : ∀ q, q ∉ R_M_symbol → G1 q = G q := w_M_symbol_0 x1 G hf
