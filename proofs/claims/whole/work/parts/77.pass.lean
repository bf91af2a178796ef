/-! four lines side by side: rows, columns; where each place comes from -/
def zd_q (r0 r1 r2 r3 : Int32) : Nat → Int32 := fun j => if j = 0 then r0 else if j = 1 then r1 else if j = 2 then r2 else r3
def zd_L (F : (Nat → Int32) → Nat → Int32) (V : Nat → Int32) (a st : Nat) : Nat → Int32 := zd_ln V a st (F (zd_q (V (a + 0 * st)) (V (a + 1 * st)) (V (a + 2 * st)) (V (a + 3 * st))))
theorem zd_ln_F {V : Nat → Int32} {a st : Nat} {F F' : Nat → Int32} (h : ∀ i, i < 4 → F i = F' i) : zd_ln V a st F = zd_ln V a st F' := by
  unfold zd_ln
  rw [h 0 (by omega), h 1 (by omega), h 2 (by omega), h 3 (by omega)]
theorem zd_FC_q (p : Int32) (r : Nat → Int32) : ∀ i, i < 4 → zd_FC p r i = zd_FC p (zd_q (r 0) (r 1) (r 2) (r 3)) i := by
  intro i hi
  have : i = 0 ∨ i = 1 ∨ i = 2 ∨ i = 3 := by omega
  rcases this with rfl | rfl | rfl | rfl <;> rfl
theorem zd_FM_q (h : Nat) (most : Int32) (r : Nat → Int32) : ∀ i, i < 4 → zd_FM h most r i = zd_FM h most (zd_q (r 0) (r 1) (r 2) (r 3)) i := by
  intro i hi
  have : i = 0 ∨ i = 1 ∨ i = 2 ∨ i = 3 := by omega
  rcases this with rfl | rfl | rfl | rfl <;> rfl
def zd_rows (F : (Nat → Int32) → Nat → Int32) (V : Nat → Int32) : Nat → Int32 := zd_L F (zd_L F (zd_L F (zd_L F V 0 1) 4 1) 8 1) 12 1
def zd_cols (F : (Nat → Int32) → Nat → Int32) (V : Nat → Int32) : Nat → Int32 := zd_L F (zd_L F (zd_L F (zd_L F V 0 4) 1 4) 2 4) 3 4
theorem zd_rows_at (F : (Nat → Int32) → Nat → Int32) (V : Nat → Int32) : ∀ b i, b < 4 → i < 4 → zd_rows F V (4 * b + i) = F (zd_q (V (4 * b)) (V (4 * b + 1)) (V (4 * b + 2)) (V (4 * b + 3))) i := by
  intro b i hb hi
  have h1 : b = 0 ∨ b = 1 ∨ b = 2 ∨ b = 3 := by omega
  have h2 : i = 0 ∨ i = 1 ∨ i = 2 ∨ i = 3 := by omega
  rcases h1 with rfl | rfl | rfl | rfl <;> rcases h2 with rfl | rfl | rfl | rfl <;> simp [zd_rows, zd_L, zd_ln, zp_upd]
theorem zd_cols_at (F : (Nat → Int32) → Nat → Int32) (V : Nat → Int32) : ∀ b i, b < 4 → i < 4 → zd_cols F V (b + 4 * i) = F (zd_q (V b) (V (b + 4)) (V (b + 8)) (V (b + 12))) i := by
  intro b i hb hi
  have h1 : b = 0 ∨ b = 1 ∨ b = 2 ∨ b = 3 := by omega
  have h2 : i = 0 ∨ i = 1 ∨ i = 2 ∨ i = 3 := by omega
  rcases h1 with rfl | rfl | rfl | rfl <;> rcases h2 with rfl | rfl | rfl | rfl <;> simp [zd_cols, zd_L, zd_ln, zp_upd]
theorem zd_lineL {a st : Nat} (ha : a + 3 * st < 16) (p : Int32) (G : zx_G) : ∃ G', f_D_transformLine (nI a) (nI st) p G = some (0, G') ∧ G' 24 = zd_L (zd_FC p) (G 24) a st := by
  obtain ⟨G', e1, e2⟩ := zd_line ha p G
  exact ⟨G', e1, e2.trans (zd_ln_F (zd_FC_q p _))⟩
theorem zd_turnL {a st h : Nat} (hh : h ≤ 2) (ha : a + 3 * st < 16) (most : Int32) (G : zx_G) (hW : ∀ k, k < 16 → G 52 k = zx_tab2 k) : ∃ G', f_M_turn (nI a) (nI st) (nI h) most G = some (0, G') ∧ G' 47 = zd_L (zd_FM h most) (G 47) a st := by
  obtain ⟨G', e1, e2⟩ := zd_turn hh ha most G hW
  exact ⟨G', e1, e2.trans (zd_ln_F (zd_FM_q h most _))⟩
theorem zd_mixL {a st : Nat} (ha : a + 3 * st < 16) (G : zx_G) : ∃ G', f_D_mixLine (nI a) (nI st) G = some (0, G') ∧ G' 24 = zd_L (zd_FM 0 0) (G 24) a st := by
  have i1 : nI a + nI st = nI (a + st) := nI_add _ _
  have i2 : nI a + ((2 : Int32) * nI st) = nI (a + 2 * st) := by rw [show (2 : Int32) * nI st = nI (2 * st) from pk_mul 2 st, nI_add]
  have i3 : nI a + ((3 : Int32) * nI st) = nI (a + 3 * st) := by rw [show (3 : Int32) * nI st = nI (3 * st) from pk_mul 3 st, nI_add]
  have e : f_D_mixLine (nI a) (nI st) G = some (0, zx_up (zx_up (zx_up (zx_up G 24 a (((G 24 a + G 24 (a + st)) + G 24 (a + 2 * st)) + G 24 (a + 3 * st))) 24 (a + st) (((G 24 a + G 24 (a + st)) - G 24 (a + 2 * st)) - G 24 (a + 3 * st))) 24 (a + 2 * st) (((G 24 a - G 24 (a + st)) - G 24 (a + 2 * st)) + G 24 (a + 3 * st))) 24 (a + 3 * st) (((G 24 a - G 24 (a + st)) + G 24 (a + 2 * st)) - G 24 (a + 3 * st))) := by
    unfold f_D_mixLine
    rw [i1, i2, i3, zp_gd (zp_in (j := a) (by omega) (by omega)), zp_lt, zp_gd (zp_in (j := a + st) (by omega) (by omega)), zp_lt, zp_gd (zp_in (j := a + 2 * st) (by omega) (by omega)), zp_lt, zp_gd (zp_in (j := a + 3 * st) (by omega) (by omega)), zp_lt, zp_gd (zp_in (j := a) (by omega) (by omega)), zp_lt, zp_gd (zp_in (j := a + st) (by omega) (by omega)), zp_lt, zp_gd (zp_in (j := a + 2 * st) (by omega) (by omega)), zp_lt, zp_gd (zp_in (j := a + 3 * st) (by omega) (by omega)), zp_lt, zp_cl (j := a) (by omega), zp_cl (j := a + st) (by omega), zp_cl (j := a + 2 * st) (by omega), zp_cl (j := a + 3 * st) (by omega)]
  refine ⟨_, e, ?_⟩
  rw [zp_row, zp_row, zp_row, zp_row]
  unfold zd_L zd_ln
  rw [Nat.zero_mul, Nat.one_mul, Nat.add_zero]
  have s1 : ∀ x y : Int32, x - y = x + -y := fun x y => Int32.sub_eq_add_neg x y
  simp only [s1]
  rfl
