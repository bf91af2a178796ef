/-! the tile's start: tables and first bits -/
def zt_c (t i : Nat) : Nat := 32768 * (i + 1) / zx_cnt t
set_option maxRecDepth 100000 in
theorem zt_c_le {t i : Nat} (ht : t < 19) (hi : i < zx_cnt t) : zt_c t i ≤ 32768 ∧ (i + 1 = zx_cnt t → zt_c t i = 32768) := by
  obtain ⟨-, h2, h3⟩ := zx_cnt_tab t ht
  generalize hc : zx_cnt t = c at *
  unfold zt_c
  rw [hc]
  refine ⟨Nat.div_le_of_le_mul (by rw [Nat.mul_comm c]; exact Nat.mul_le_mul_left _ (by omega)), fun e => ?_⟩
  rw [e]
  exact Nat.mul_div_cancel _ (by omega)
theorem zt_cV {t i : Nat} (ht : t < 19) (hi : i < zx_cnt t) : zx_div ((32768 : Int32) * (nI i + (1 : Int32))) (nI (zx_cnt t)) = nI (zt_c t i) := by
  obtain ⟨-, h2, h3⟩ := zx_cnt_tab t ht
  rw [nI_1, show (32768 : Int32) * nI (i + 1) = nI (32768 * (i + 1)) from pk_mul 32768 _]
  exact pk_div (by omega) (by omega) (by omega)
theorem zt_tabC : ∀ (rem t n : Nat) (G : zx_G), t + rem = 19 → rem < n → ∃ G', f_C_start_43 n (nI t) G = f_C_start_122 2048 (0 : Int32) (zx_up (zx_up (zx_up G' 14 6 (32768 : Int32)) 14 7 (0 : Int32)) 14 8 (0 : Int32)) ∧ (∀ t' i, t ≤ t' → t' < 19 → i < zx_cnt t' → G' 15 (16 * t' + i) = nI (zt_c t' i)) ∧ (∀ q, q ≠ 15 → G' q = G q) ∧ ∀ j, j < 16 * t → G' 15 j = G 15 j := by
  intro rem
  induction rem with
  | zero =>
    intro t n G ht hn
    obtain ⟨n, rfl⟩ : ∃ k, n = k + 1 := ⟨n - 1, by omega⟩
    have : t = 19 := by omega
    subst this
    refine ⟨G, ?_, fun t' i h1 h2 => by omega, fun _ _ => rfl, fun _ _ => rfl⟩
    rw [f_C_start_43, zp_pos (by decide), zp_lt, zp_lt, zp_lt, zp_lt]
  | succ rem ih =>
    intro t n G ht hn
    obtain ⟨n, rfl⟩ : ∃ k, n = k + 1 := ⟨n - 1, by omega⟩
    obtain ⟨h1, h2, h3⟩ := zx_cnt_tab t (by omega)
    have ix : ∀ i : Nat, (nI t * (16 : Int32)) + nI i = nI (16 * t + i) := fun i => by rw [show nI t * (16 : Int32) = nI (t * 16) from pk_mul t 16, nI_add, Nat.mul_comm t 16]
    have nz : zx_nz (nI (zx_cnt t)) = true := decide_eq_true (nI_ne0 (by omega) (by omega))
    obtain ⟨G1, a1, -, a3, a4, a5⟩ := zt_put (fun k i H => f_C_start_53 (f_C_start_43 n) k (nI t) i H) (fun H => f_C_start_43 n (nI (t + 1)) H) 15 (zx_cnt t) (fun i => 16 * t + i) (fun i => nI (zt_c t i)) (fun i j _ _ h => by have h' : 16 * t + i = 16 * t + j := h; omega) (fun _ => True) (fun _ _ _ _ => trivial)
      (fun k i H hi _ => by
        show f_C_start_53 (f_C_start_43 n) (k + 1) (nI t) (nI i) H = f_C_start_53 (f_C_start_43 n) k (nI t) (nI (i + 1)) _
        rw [f_C_start_53, zp_gd (zp_in (by omega) (by omega)), zp_cl (by omega), h1, zp_neg (nI_ge hi (by omega)), zp_gd (zp_in (by omega) (by omega)), zp_gd nz, ix, zp_gd (zp_in (by omega) (by omega)), zp_lt, zp_lt, zp_cl (by omega), zt_cV (by omega) hi, nI_1])
      (fun k H _ => by
        show f_C_start_53 (f_C_start_43 n) (k + 1) (nI t) (nI (zx_cnt t)) H = _
        rw [f_C_start_53, zp_gd (zp_in (by omega) (by omega)), zp_cl (by omega), h1, zp_pos (nI_le (Nat.le_refl _) (by omega)), zp_lt, nI_1]) (zx_cnt t) 0 2048 G trivial (by omega) (by omega)
    obtain ⟨G', c1, c2, c3, c4⟩ := ih (t + 1) n G1 (by omega) (by omega)
    refine ⟨G', ?_, fun t' i h4 h5 h6 => ?_, fun q hq => by rw [c3 q hq, a4 q hq], fun j hj => by rw [c4 j (by omega), a5 j (fun k _ hk => by show j ≠ 16 * t + k; omega)]⟩
    · rw [f_C_start_43, zp_neg (show ¬ (19 : Int32) ≤ nI t from nI_ge (b := 19) (by omega) (by omega)), zp_lt]
      exact a1.trans c1
    · by_cases c : t' = t
      · subst c
        rw [c4 _ (by omega)]
        exact a3 i (by omega) h6
      · exact c2 t' i (by omega) h5 h6
/-- what the reference does once its tables stand -/
def zt_mt (G : zx_G) : Option (Int32 × zx_G) := zx_bd (f_M_symbol (0 : Int32) G) fun r_3 G_2 => zx_if (¬ r_3 = 0) (zx_lt (0 : Int32) fun x1_6 => f_M_readTile_133 2048 x1_6 G_2) (zx_bd (f_M_readBlock (0 : Int32) (0 : Int32) (16 : Int32) G_2) fun r_8 G_7 => some ((0 : Int32), G_7))
theorem zt_tabM : ∀ (rem t n : Nat) (G : zx_G), t + rem = 19 → rem < n → ∃ G', f_M_readTile_57 n (nI t) G = zt_mt G' ∧ (∀ t' i, t ≤ t' → t' < 19 → i < zx_cnt t' → G' 40 (16 * t' + i) = nI (zt_c t' i)) ∧ (∀ q, q ≠ 40 → q ≠ 41 → G' q = G q) ∧ (∀ j, j < 16 * t → G' 40 j = G 40 j) ∧ (∀ t', t ≤ t' → t' < 19 → G' 41 t' = 0) ∧ ∀ j, j < t → G' 41 j = G 41 j := by
  intro rem
  induction rem with
  | zero =>
    intro t n G ht hn
    obtain ⟨n, rfl⟩ : ∃ k, n = k + 1 := ⟨n - 1, by omega⟩
    have : t = 19 := by omega
    subst this
    refine ⟨G, ?_, fun t' i h1 h2 => by omega, fun _ _ _ => rfl, fun _ _ => rfl, fun t' h1 h2 => by omega, fun _ _ => rfl⟩
    rw [f_M_readTile_57, zp_pos (by decide)]
    rfl
  | succ rem ih =>
    intro t n G ht hn
    obtain ⟨n, rfl⟩ : ∃ k, n = k + 1 := ⟨n - 1, by omega⟩
    obtain ⟨h1, h2, h3⟩ := zx_cnt_tab t (by omega)
    have ts : ∀ H : zx_G, f_M_tableSize (nI t) H = some (nI (zx_cnt t), H) := fun H => by rw [zm_tsize t (by omega), h1]
    have ix : ∀ i : Nat, ((16 : Int32) * nI t) + nI i = nI (16 * t + i) := fun i => zk_idx t i
    have nz : zx_nz (nI (zx_cnt t)) = true := decide_eq_true (nI_ne0 (by omega) (by omega))
    obtain ⟨G1, a1, -, a3, a4, a5⟩ := zt_put (fun k i H => f_M_readTile_72 (f_M_readTile_57 n) k (nI t) i H) (fun H => f_M_readTile_57 n (nI (t + 1)) H) 40 (zx_cnt t) (fun i => 16 * t + i) (fun i => nI (zt_c t i)) (fun i j _ _ h => by have h' : 16 * t + i = 16 * t + j := h; omega) (fun _ => True) (fun _ _ _ _ => trivial)
      (fun k i H hi _ => by
        show f_M_readTile_72 (f_M_readTile_57 n) (k + 1) (nI t) (nI i) H = f_M_readTile_72 (f_M_readTile_57 n) k (nI t) (nI (i + 1)) _
        rw [f_M_readTile_72, zp_bd (ts H), zp_neg (nI_ge hi (by omega)), zp_bd (ts H), zp_gd nz, ix, zp_gd (zp_in (by omega) (by omega)), zp_lt, zp_lt, zp_cl (by omega), zt_cV (by omega) hi, nI_1])
      (fun k H _ => by
        show f_M_readTile_72 (f_M_readTile_57 n) (k + 1) (nI t) (nI (zx_cnt t)) H = _
        rw [f_M_readTile_72, zp_bd (ts H), zp_pos (nI_le (Nat.le_refl _) (by omega)), zp_lt, nI_1]) (zx_cnt t) 0 2048 (zx_up G 41 t (0 : Int32)) trivial (by omega) (by omega)
    obtain ⟨G', c1, c2, c3, c4, c5, c6⟩ := ih (t + 1) n G1 (by omega) (by omega)
    refine ⟨G', ?_, fun t' i h4 h5 h6 => ?_, fun q hq hq2 => by rw [c3 q hq hq2, a4 q hq, zp_ur hq2], fun j hj => by rw [c4 j (by omega), a5 j (fun k _ hk => by show j ≠ 16 * t + k; omega), zp_ur (by omega)], fun t' h4 h5 => ?_, fun j hj => by rw [c6 j (by omega), a4 41 (by omega), zp_uk (by omega)]⟩
    · rw [f_M_readTile_57, zp_neg (show ¬ (19 : Int32) ≤ nI t from nI_ge (b := 19) (by omega) (by omega)), zp_gd (zp_in (by omega) (by omega)), zp_lt, zp_lt, zp_cl (by omega)]
      exact a1.trans c1
    · by_cases c : t' = t
      · subst c
        rw [c4 _ (by omega)]
        exact a3 i (by omega) h6
      · exact c2 t' i (by omega) h5 h6
    · by_cases c : t' = t
      · subst c
        rw [c6 _ (by omega), a4 41 (by omega), zp_us]
      · exact c5 t' (by omega) h5
/-- the first bits' value -/
def zt_v (d : Nat → Int32) (fr to : Nat) : Nat → Nat
  | 0 => 0
  | i + 1 => 2 * zt_v d fr to i + (zk_b d fr to i).toNatClampNeg
theorem zt_bN (d : Nat → Int32) (fr to i : Nat) : (zk_b d fr to i).toNatClampNeg ≤ 1 ∧ zk_b d fr to i = nI ((zk_b d fr to i).toNatClampNeg) := by
  obtain ⟨β, h1, h2⟩ := zk_b01 d fr to i
  rw [h2, zp_cl (by omega)]
  exact ⟨h1, rfl⟩
theorem zt_v_lt (d : Nat → Int32) (fr to : Nat) : ∀ i, zt_v d fr to i < 2 ^ i := by
  intro i
  induction i with
  | zero => show 0 < 1; omega
  | succ i ih =>
    have h := (zt_bN d fr to i).1
    show 2 * zt_v d fr to i + (zk_b d fr to i).toNatClampNeg < 2 ^ (i + 1)
    rw [Nat.pow_succ]
    omega
theorem zt_v_eq {d e : Nat → Int32} {fr to : Nat} (h : ∀ k, k < to → d k = e k) : ∀ i, zt_v d fr to i = zt_v e fr to i := by
  intro i
  induction i with
  | zero => rfl
  | succ i ih =>
    show 2 * zt_v d fr to i + (zk_b d fr to i).toNatClampNeg = 2 * zt_v e fr to i + (zk_b e fr to i).toNatClampNeg
    rw [ih, zk_b_eq fr to i h]
theorem zt_bitsC {fr to : Nat} (hf : fr ≤ 201) (ht : to ≤ 200) : ∀ (rem i n : Nat) (G : zx_G), i + rem = 15 → rem < n → G 14 3 = nI fr → G 14 4 = nI to → G 14 8 = nI i → G 14 7 = nI (zt_v (G 9) fr to i) → ∃ G', f_C_start_122 n (nI i) G = some (0, G') ∧ G' 14 7 = nI (zt_v (G 9) fr to 15) ∧ G' 14 8 = nI 15 ∧ (∀ q, q ≠ 14 → G' q = G q) ∧ ∀ k, k ≠ 7 → k ≠ 8 → G' 14 k = G 14 k := by
  intro rem
  induction rem with
  | zero =>
    intro i n G hi hn h3 h4 h8 h7
    obtain ⟨n, rfl⟩ : ∃ k, n = k + 1 := ⟨n - 1, by omega⟩
    have : i = 15 := by omega
    subst this
    exact ⟨G, by rw [f_C_start_122, zp_pos (by decide)], h7, h8, fun _ _ => rfl, fun _ _ _ => rfl⟩
  | succ rem ih =>
    intro i n G hi hn h3 h4 h8 h7
    obtain ⟨n, rfl⟩ : ∃ k, n = k + 1 := ⟨n - 1, by omega⟩
    obtain ⟨b1, b2⟩ := zt_bN (G 9) fr to i
    have e := zk_takeC hf ht (by omega) h3 h4 h8 h7
    have ev : ((2 : Int32) * nI (zt_v (G 9) fr to i)) + zk_b (G 9) fr to i = nI (zt_v (G 9) fr to (i + 1)) := by
      rw [b2, zk_dbl, nI_add]
      rfl
    rw [ev] at e
    have e9 : zx_up (zx_up G 14 7 (nI (zt_v (G 9) fr to (i + 1)))) 14 8 (nI (i + 1)) 9 = G 9 := by rw [zp_ur (by omega), zp_ur (by omega)]
    obtain ⟨G', a1, a2, a3, a4, a5⟩ := ih (i + 1) n (zx_up (zx_up G 14 7 (nI (zt_v (G 9) fr to (i + 1)))) 14 8 (nI (i + 1))) (by omega) (by omega) (by rw [zp_uk (by omega), zp_uk (by omega)]; exact h3) (by rw [zp_uk (by omega), zp_uk (by omega)]; exact h4) zp_us (by rw [e9, zp_uk (by omega), zp_us])
    rw [e9] at a2
    refine ⟨G', ?_, a2, a3, fun q hq => by rw [a4 q hq, zp_ur hq, zp_ur hq], fun k h1 h2 => by rw [a5 k h1 h2, zp_uk h2, zp_uk h1]⟩
    rw [f_C_start_122, zp_neg (show ¬ (15 : Int32) ≤ nI i from nI_ge (b := 15) (by omega) (by omega)), zp_bd e, zp_lt, nI_1]
    exact a1
theorem zt_bitsM {fr to : Nat} (hf : fr ≤ 201) (ht : to ≤ 200) : ∀ (rem i n : Nat) (G : zx_G), i + rem = 15 → rem < n → G 32 25 = nI (8 * fr) → G 32 26 = nI (8 * to) → G 32 29 = nI i → G 32 28 = nI (zt_v (G 39) fr to i) → ∃ G', f_M_readTile_12 n (nI i) G = f_M_readTile_57 2048 (0 : Int32) (zx_up (zx_up (zx_up G' 32 27 (32768 : Int32)) 32 30 (0 : Int32)) 32 37 (0 : Int32)) ∧ G' 32 28 = nI (zt_v (G 39) fr to 15) ∧ G' 32 29 = nI 15 ∧ (∀ q, q ≠ 32 → G' q = G q) ∧ ∀ k, k ≠ 28 → k ≠ 29 → G' 32 k = G 32 k := by
  intro rem
  induction rem with
  | zero =>
    intro i n G hi hn h3 h4 h8 h7
    obtain ⟨n, rfl⟩ : ∃ k, n = k + 1 := ⟨n - 1, by omega⟩
    have : i = 15 := by omega
    subst this
    exact ⟨G, by rw [f_M_readTile_12, zp_pos (by decide), zp_lt, zp_lt, zp_lt, zp_lt], h7, h8, fun _ _ => rfl, fun _ _ _ => rfl⟩
  | succ rem ih =>
    intro i n G hi hn h3 h4 h8 h7
    obtain ⟨n, rfl⟩ : ∃ k, n = k + 1 := ⟨n - 1, by omega⟩
    obtain ⟨b1, b2⟩ := zt_bN (G 39) fr to i
    have e := zk_takeM hf ht (by omega) h3 h4 h8
    have ev : ((2 : Int32) * nI (zt_v (G 39) fr to i)) + zk_b (G 39) fr to i = nI (zt_v (G 39) fr to (i + 1)) := by
      rw [b2, zk_dbl, nI_add]
      rfl
    have e9 : zx_up (zx_up G 32 29 (nI (i + 1))) 32 28 (nI (zt_v (G 39) fr to (i + 1))) 39 = G 39 := by rw [zp_ur (by omega), zp_ur (by omega)]
    obtain ⟨G', a1, a2, a3, a4, a5⟩ := ih (i + 1) n (zx_up (zx_up G 32 29 (nI (i + 1))) 32 28 (nI (zt_v (G 39) fr to (i + 1)))) (by omega) (by omega) (by rw [zp_uk (by omega), zp_uk (by omega)]; exact h3) (by rw [zp_uk (by omega), zp_uk (by omega)]; exact h4) (by rw [zp_uk (by omega), zp_us]) (by rw [e9, zp_us])
    rw [e9] at a2
    refine ⟨G', ?_, a2, a3, fun q hq => by rw [a4 q hq, zp_ur hq, zp_ur hq], fun k h1 h2 => by rw [a5 k h1 h2, zp_uk h1, zp_uk h2]⟩
    rw [f_M_readTile_12, zp_neg (show ¬ (15 : Int32) ≤ nI i from nI_ge (b := 15) (by omega) (by omega)), zp_bd e, zp_lt, zp_lt, h7, ev, nI_1]
    exact a1
theorem zt_fill16 (G : zx_G) : ∃ G', f_A_fill_16 (0 : Int32) G = some (0, G') ∧ (∀ k, k < 19 → G' 16 k = 0) ∧ ∀ q, q ≠ 16 → G' q = G q := by
  obtain ⟨G', a1, -, a3, a4⟩ := zd_map (fun n x G => f_A_fill_16_5 n (0 : Int32) x (19 : Int32) G) (fun G => some ((0 : Int32), G)) 16 19 (fun _ _ => 0) (fun _ => True) (fun _ _ _ _ => trivial)
    (fun n i G hi _ => by
      show f_A_fill_16_5 (n + 1) (0 : Int32) (nI i) (19 : Int32) G = f_A_fill_16_5 n (0 : Int32) (nI (i + 1)) (19 : Int32) _
      rw [f_A_fill_16_5, zp_neg (show ¬ (19 : Int32) ≤ nI i from nI_ge (b := 19) hi (by omega)), zp_gd (zp_in hi (by omega)), zp_lt, zp_lt, zp_cl (by omega), nI_1])
    (fun n G _ => by
      show f_A_fill_16_5 (n + 1) (0 : Int32) (nI 19) (19 : Int32) G = _
      rw [f_A_fill_16_5, zp_pos (by decide)]) 19 0 2048 G trivial (by omega) (by omega)
  refine ⟨G', ?_, fun k hk => by rw [a3 k, if_pos (by omega)], a4⟩
  unfold f_A_fill_16
  rw [zp_lt, zp_lt]
  exact a1
/-- what the header leaves for the tile -/
def zt_R0 (fr to s q t y w h : Nat) (Gc Gm : zx_G) : Prop := (q ≤ 63 ∧ t ≤ 1 ∧ y ≤ 1 ∧ 1 ≤ w ∧ w ≤ 16 ∧ 1 ≤ h ∧ h ≤ 16 ∧ fr ≤ 201 ∧ to ≤ 200 ∧ s ≤ 1) ∧ (Gc 11 10 = nI q ∧ Gc 11 6 = nI (1 + 2 * y) ∧ Gc 11 7 = nI w ∧ Gc 11 8 = nI h ∧ Gc 11 9 = nI (8 + 2 * t) ∧ Gc 11 14 = nI fr ∧ Gc 11 15 = nI to ∧ Gc 11 11 = nI s) ∧ (Gm 32 16 = nI y ∧ Gm 32 17 = nI t ∧ Gm 32 18 = nI w ∧ Gm 32 19 = nI h ∧ Gm 32 21 = nI q ∧ Gm 32 25 = nI (8 * fr) ∧ Gm 32 26 = nI (8 * to) ∧ Gm 32 22 = nI s ∧ Gm 32 10 = 0) ∧ (∀ k, k < 16 → Gm 52 k = zx_tab2 k) ∧ (∀ k, k < 16 → Gm 51 k = zx_tab1 k) ∧ ∀ k, k < to → Gc 9 k = Gm 39 k
theorem zt_top9 {t : Nat} (ht : t ≤ 1) : ((1 : Int32) <<< (nI (8 + 2 * t) &&& 31)) - (1 : Int32) = nI (ze_top t) := by
  have h : t = 0 ∨ t = 1 := by omega
  rcases h with rfl | rfl <;> decide +kernel
theorem zt_start {fr to s q t y w h : Nat} {Gc Gm : zx_G} (h0 : zt_R0 fr to s q t y w h Gc Gm) : ∃ (Gc' Gm' : zx_G), f_T_read Gc = f_T_read_46 2048 (0 : Int32) (0 : Int32) Gc' ∧ f_M_readTile Gm = zt_mt Gm' ∧ zt_Y fr to s q t y w h 0 15 0 Gc' Gm' := by
  obtain ⟨⟨hq, ht, hy1, hw1, hw2, hh1, hh2, hfr, hto, hs⟩, ⟨c10, c6, c7, c8, c9, c14, c15, c11⟩, ⟨m16, m17, m18, m19, m21, m25, m26, m22, m10⟩, m52, m51, hd⟩ := h0
  -- the class
  have e3 : zx_mmax (nI fr) (0 : Int32) = nI fr := by
    unfold zx_mmax
    rw [if_neg (nI_pos (by omega))]
  have e4 : zx_mmin (nI to) (200 : Int32) = nI to := by
    unfold zx_mmin
    rw [if_neg (show ¬ (200 : Int32) < nI to from nI_nlt (a := 200) (by omega) (by omega))]
  have e01 : zx_01 (nI s) = true := by
    have h : s = 0 ∨ s = 1 := by omega
    rcases h with rfl | rfl <;> decide
  obtain ⟨A1, a1, a2, a3⟩ := zt_fill16 (zx_up (zx_up (zx_up (zx_up Gc 14 3 (nI fr)) 14 4 (nI to)) 14 5 (nI s)) 14 9 (0 : Int32))
  obtain ⟨A2, b1, b2, b3, -⟩ := zt_tabC 19 0 2048 A1 (by omega) (by omega)
  have r9 : A2 9 = Gc 9 := by rw [b3 9 (by omega), a3 9 (by omega), zp_ur (by omega), zp_ur (by omega), zp_ur (by omega), zp_ur (by omega)]
  have s14 : ∀ k, A2 14 k = zx_up (zx_up (zx_up (zx_up Gc 14 3 (nI fr)) 14 4 (nI to)) 14 5 (nI s)) 14 9 (0 : Int32) 14 k := fun k => by rw [b3 14 (by omega), a3 14 (by omega)]
  have s3 : A2 14 3 = nI fr := by rw [s14, zp_uk (by omega), zp_uk (by omega), zp_uk (by omega), zp_us]
  have s4 : A2 14 4 = nI to := by rw [s14, zp_uk (by omega), zp_uk (by omega), zp_us]
  have s5 : A2 14 5 = nI s := by rw [s14, zp_uk (by omega), zp_us]
  have s9 : A2 14 9 = 0 := by rw [s14, zp_us]
  obtain ⟨A3, d1, d2, d3, d4, d5⟩ := zt_bitsC hfr hto 15 0 2048 (zx_up (zx_up (zx_up A2 14 6 (32768 : Int32)) 14 7 (0 : Int32)) 14 8 (0 : Int32)) (by omega) (by omega) (by rw [zp_uk (by omega), zp_uk (by omega), zp_uk (by omega)]; exact s3) (by rw [zp_uk (by omega), zp_uk (by omega), zp_uk (by omega)]; exact s4) zp_us (by rw [zp_uk (by omega), zp_us]; rfl)
  have eS : f_C_start (nI fr) (nI to) (nI s) Gc = some (0, A3) := by
    unfold f_C_start
    rw [zp_lt, zp_lt, zp_gd e01, zp_lt, zp_lt, e3, e4, zp_bd a1, zp_lt]
    exact b1.trans d1
  have A3r : ∀ r, r ≠ 14 → r ≠ 15 → r ≠ 16 → A3 r = Gc r := fun r h1 h2 h3 => by rw [d4 r h1, zp_ur h1, zp_ur h1, zp_ur h1, b3 r h2, a3 r h3, zp_ur h1, zp_ur h1, zp_ur h1, zp_ur h1]
  have d2' : A3 14 7 = nI (zt_v (Gc 9) fr to 15) := by
    rw [d2, zp_ur (by omega), zp_ur (by omega), zp_ur (by omega), r9]
  have A14 : ∀ k, k ≠ 6 → k ≠ 7 → k ≠ 8 → A3 14 k = A2 14 k := fun k h1 h2 h3 => by rw [d5 k h2 h3, zp_uk h3, zp_uk h2, zp_uk h1]
  -- the reference
  obtain ⟨B1, f1, f2, f3, f4, f5⟩ := zt_bitsM hfr hto 15 0 2048 (zx_up (zx_up Gm 32 29 (0 : Int32)) 32 28 (0 : Int32)) (by omega) (by omega) (by rw [zp_uk (by omega), zp_uk (by omega)]; exact m25) (by rw [zp_uk (by omega), zp_uk (by omega)]; exact m26) (by rw [zp_uk (by omega), zp_us]; rfl) (by rw [zp_us]; rfl)
  obtain ⟨B2, g1, g2, g3, -, g5, -⟩ := zt_tabM 19 0 2048 (zx_up (zx_up (zx_up B1 32 27 (32768 : Int32)) 32 30 (0 : Int32)) 32 37 (0 : Int32)) (by omega) (by omega)
  have B2r : ∀ r, r ≠ 32 → r ≠ 40 → r ≠ 41 → B2 r = Gm r := fun r h1 h2 h3 => by rw [g3 r h2 h3, zp_ur h1, zp_ur h1, zp_ur h1, f4 r h1, zp_ur h1, zp_ur h1]
  have B32 : ∀ k, k ≠ 27 → k ≠ 28 → k ≠ 29 → k ≠ 30 → k ≠ 37 → B2 32 k = Gm 32 k := fun k h1 h2 h3 h4 h5 => by rw [g3 32 (by omega) (by omega), zp_uk h5, zp_uk h4, zp_uk h1, f5 k h2 h3, zp_uk h2, zp_uk h3]
  have f2' : B2 32 28 = nI (zt_v (Gm 39) fr to 15) := by
    rw [g3 32 (by omega) (by omega), zp_uk (by omega), zp_uk (by omega), zp_uk (by omega), f2, zp_ur (by omega), zp_ur (by omega)]
  have eM : f_M_readTile Gm = zt_mt B2 := by
    unfold f_M_readTile
    rw [zp_lt, zp_lt, zp_lt]
    exact f1.trans g1
  refine ⟨zx_up (zx_up A3 17 3 (0 : Int32)) 17 4 (nI (ze_top t)), B2, ?_, eM, ?_, ?_, ?_, ?_, ?_, ?_⟩
  · unfold f_T_read
    have e11 : A3 11 = Gc 11 := A3r 11 (by omega) (by omega) (by omega)
    rw [c14, c15, c11, zp_bd eS, e11, c9]
    have eP : f_P_start (nI (8 + 2 * t)) A3 = some (0, zx_up (zx_up A3 17 3 (0 : Int32)) 17 4 (nI (ze_top t))) := by
      unfold f_P_start
      rw [zp_lt, zp_lt, zt_top9 ht]
    rw [zp_bd eP, zp_lt, zp_lt]
  · refine ⟨⟨hfr, hto, ?_, ?_, ?_, ?_, ?_⟩, ⟨hs, ?_, ?_, ?_, ?_⟩, 32768, zt_v (Gc 9) fr to 15, ⟨?_, ?_, ?_, ?_, ?_, ?_, ?_⟩, by omega, by omega, zt_v_lt (Gc 9) fr to 15⟩
    · rw [zp_ur (by omega), zp_ur (by omega), A14 3 (by omega) (by omega) (by omega)]; exact s3
    · rw [zp_ur (by omega), zp_ur (by omega), A14 4 (by omega) (by omega) (by omega)]; exact s4
    · rw [B32 25 (by omega) (by omega) (by omega) (by omega) (by omega)]; exact m25
    · rw [B32 26 (by omega) (by omega) (by omega) (by omega) (by omega)]; exact m26
    · intro k hk
      rw [zp_ur (by omega), zp_ur (by omega), A3r 9 (by omega) (by omega) (by omega), B2r 39 (by omega) (by omega) (by omega)]
      exact hd k hk
    · rw [zp_ur (by omega), zp_ur (by omega), A14 5 (by omega) (by omega) (by omega)]; exact s5
    · rw [B32 22 (by omega) (by omega) (by omega) (by omega) (by omega)]; exact m22
    · intro t' i ht' hi
      obtain ⟨l1, l2⟩ := zt_c_le ht' hi
      refine ⟨zt_c t' i, l1, ?_, g2 t' i (by omega) ht' hi, l2⟩
      rw [zp_ur (by omega), zp_ur (by omega), d4 15 (by omega), zp_ur (by omega), zp_ur (by omega), zp_ur (by omega)]
      exact b2 t' i (by omega) ht' hi
    · intro _ t' ht'
      rw [zp_ur (by omega), zp_ur (by omega), d4 16 (by omega), zp_ur (by omega), zp_ur (by omega), zp_ur (by omega), b3 16 (by omega), a2 t' ht', g5 t' (by omega) ht']
    · rw [zp_ur (by omega), zp_ur (by omega), d5 6 (by omega) (by omega), zp_uk (by omega), zp_uk (by omega), zp_us]; rfl
    · rw [g3 32 (by omega) (by omega), zp_uk (by omega), zp_uk (by omega), zp_us]; rfl
    · rw [zp_ur (by omega), zp_ur (by omega)]; exact d2'
    · rw [f2', zt_v_eq hd]
    · rw [zp_ur (by omega), zp_ur (by omega)]; exact d3
    · rw [g3 32 (by omega) (by omega), zp_uk (by omega), zp_uk (by omega), zp_uk (by omega)]; exact f3
    · rw [zp_ur (by omega), zp_ur (by omega), A14 9 (by omega) (by omega) (by omega), s9, g3 32 (by omega) (by omega), zp_uk (by omega), zp_us]
  · rw [B32 10 (by omega) (by omega) (by omega) (by omega) (by omega)]; exact m10
  · refine ⟨⟨hq, ht, hy1, hw1, hw2, hh1, hh2⟩, ⟨?_, ?_, ?_, ?_, zp_us⟩, ⟨?_, ?_, ?_, ?_, ?_⟩, ?_, ?_⟩
    · rw [zp_ur (by omega), zp_ur (by omega), A3r 11 (by omega) (by omega) (by omega)]; exact c10
    · rw [zp_ur (by omega), zp_ur (by omega), A3r 11 (by omega) (by omega) (by omega)]; exact c6
    · rw [zp_ur (by omega), zp_ur (by omega), A3r 11 (by omega) (by omega) (by omega)]; exact c7
    · rw [zp_ur (by omega), zp_ur (by omega), A3r 11 (by omega) (by omega) (by omega)]; exact c8
    · rw [B32 16 (by omega) (by omega) (by omega) (by omega) (by omega)]; exact m16
    · rw [B32 17 (by omega) (by omega) (by omega) (by omega) (by omega)]; exact m17
    · rw [B32 18 (by omega) (by omega) (by omega) (by omega) (by omega)]; exact m18
    · rw [B32 19 (by omega) (by omega) (by omega) (by omega) (by omega)]; exact m19
    · rw [B32 21 (by omega) (by omega) (by omega) (by omega) (by omega)]; exact m21
    · rw [B2r 52 (by omega) (by omega) (by omega)]; exact m52
    · rw [B2r 51 (by omega) (by omega) (by omega)]; exact m51
  · intro p ux uy z
    exact absurd z.2.2.2 (Nat.not_lt_zero _)
  · refine ⟨Nat.le_refl _, ?_, ?_⟩
    · rw [zp_uk (by omega), zp_us]; rfl
    · rw [g3 32 (by omega) (by omega), zp_us]; rfl
  · exact ⟨fun ux uy _ _ z => absurd z (Nat.not_lt_zero _), fun o z => absurd z (Nat.not_lt_zero _)⟩
/-- the tile, from the header on -/
theorem zt_read {fr to s q t y w h : Nat} {Gc Gm : zx_G} (h0 : zt_R0 fr to s q t y w h Gc Gm) : ∃ (Gc' Gm' : zx_G), f_M_readTile Gm = some (0, Gm') ∧ ((∃ bt' n', f_T_read Gc = some (0, Gc') ∧ zt_Y fr to s q t y w h 16 bt' n' Gc' Gm') ∨ (f_T_read Gc = some (8, Gc') ∧ Gm' 32 10 = 8)) := by
  obtain ⟨G1, M1, a1, a2, a3⟩ := zt_start h0
  obtain ⟨G2, M2, b1, b2⟩ := zt_tile (by omega) a3
  refine ⟨G2, M2, a2.trans b1, ?_⟩
  rw [a1]
  exact b2
