/-! the reference's line -/
def zd_lim (most v : Int32) : Int32 := if (-most) ≤ v then (if v ≤ most then v else most) else -most
theorem zd_limited (v most : Int32) (G : zx_G) : f_M_limited v most G = some (zd_lim most v, G) := by
  unfold f_M_limited f_M_limited_21 zd_lim zx_if
  by_cases h : (-most) ≤ v
  · rw [if_pos h, if_pos h]
    by_cases h2 : v ≤ most
    · rw [if_pos h2, if_pos h2]
    · rw [if_neg h2, if_neg h2]
  · rw [if_neg h, if_neg h]
def zd_y (h : Nat) (r : Nat → Int32) (i : Nat) : Int32 := ((if h = 1 then (5793 : Int32) * r i else (((zd_w i 0 * r 0) + (zd_w i 1 * r 1)) + (zd_w i 2 * r 2)) + (zd_w i 3 * r 3)) + (2048 : Int32)) >>> ((12 : Int32) &&& 31)
def zd_mx (r : Nat → Int32) (i : Nat) : Int32 := ((r 0 + (if i < 2 then r 1 else -(r 1))) + (if i = 0 ∨ i = 3 then r 2 else -(r 2))) + (if i % 2 = 0 then r 3 else -(r 3))
def zd_FM (h : Nat) (most : Int32) (r : Nat → Int32) (i : Nat) : Int32 := if h = 0 then zd_mx r i else zd_lim most (zd_y h r i)
theorem zd_t260 {k36 : Int32 → Int32 → Int32 → Int32 → Int32 → zx_G → Option (Int32 × zx_G)} {a st i : Nat} {x3 x4 v : Int32} (hb : a + i * st < 16) (G : zx_G) : f_M_turn_260 k36 (nI a) (nI st) x3 x4 (nI i) (nI a + (nI i * nI st)) v G = k36 (nI a) (nI st) x3 x4 (nI (i + 1)) (zx_up G 47 (a + i * st) v) := by
  unfold f_M_turn_260
  rw [zd_ix, zp_gd (zp_in hb (by omega)), zp_lt, zp_lt, zp_cl (by omega), nI_1]
theorem zd_t134 {k36 : Int32 → Int32 → Int32 → Int32 → Int32 → zx_G → Option (Int32 × zx_G)} {a st i h : Nat} {most s0 : Int32} (hi : i < 4) (hh : h ≤ 2) (hb : a + i * st < 16) (G : zx_G) : f_M_turn_134 k36 (nI a) (nI st) (nI h) most (nI i) s0 G = k36 (nI a) (nI st) (nI h) most (nI (i + 1)) (zx_up G 47 (a + i * st) (if h = 0 then zd_mx (G 48) i else zd_lim most ((s0 + (2048 : Int32)) >>> ((12 : Int32) &&& 31)))) := by
  have h219 : ∀ (x6 x7 x8 x9 : Int32), f_M_turn_219 k36 (nI a) (nI st) (nI h) most (nI i) x6 x7 x8 x9 G = k36 (nI a) (nI st) (nI h) most (nI (i + 1)) (zx_up G 47 (a + i * st) (if h = 0 then ((G 48 0 + x7) + x8) + x9 else zd_lim most x6)) := by
    intro x6 x7 x8 x9
    unfold f_M_turn_219
    rw [zp_lt]
    by_cases q : h = 0
    · subst q
      rw [zp_neg (fun z => z rfl), zp_gd (c := zx_in (0 : Int32) 4) rfl, zd_t260 hb, if_pos rfl]
      rfl
    · rw [zp_pos (nI_ne0 (by omega) (by omega)), zp_bd (zd_limited _ _ _), zd_t260 hb, if_neg q]
  have hc : i = 0 ∨ i = 1 ∨ i = 2 ∨ i = 3 := by omega
  unfold f_M_turn_134 f_M_turn_165 f_M_turn_178 f_M_turn_194
  rcases hc with rfl | rfl | rfl | rfl
  · rw [zp_lt, zp_neg (by decide), zp_gd (c := zx_in (1 : Int32) 4) rfl, zp_lt, zp_pos (by decide), zp_gd (c := zx_in (2 : Int32) 4) rfl, zp_lt, zp_gd (c := zx_nz (2 : Int32)) rfl, zp_neg (by decide), zp_gd (c := zx_in (3 : Int32) 4) rfl, h219]
    rfl
  · rw [zp_lt, zp_neg (by decide), zp_gd (c := zx_in (1 : Int32) 4) rfl, zp_lt, zp_neg (by decide), zp_pos (by decide), zp_gd (c := zx_in (2 : Int32) 4) rfl, zp_lt, zp_gd (c := zx_nz (2 : Int32)) rfl, zp_pos (by decide), zp_gd (c := zx_in (3 : Int32) 4) rfl, h219]
    rfl
  · rw [zp_lt, zp_pos (by decide), zp_gd (c := zx_in (1 : Int32) 4) rfl, zp_lt, zp_neg (by decide), zp_pos (by decide), zp_gd (c := zx_in (2 : Int32) 4) rfl, zp_lt, zp_gd (c := zx_nz (2 : Int32)) rfl, zp_neg (by decide), zp_gd (c := zx_in (3 : Int32) 4) rfl, h219]
    rfl
  · rw [zp_lt, zp_pos (by decide), zp_gd (c := zx_in (1 : Int32) 4) rfl, zp_lt, zp_neg (by decide), zp_neg (by decide), zp_gd (c := zx_in (2 : Int32) 4) rfl, zp_lt, zp_gd (c := zx_nz (2 : Int32)) rfl, zp_pos (by decide), zp_gd (c := zx_in (3 : Int32) 4) rfl, h219]
    rfl
theorem zd_turn {a st h : Nat} (hh : h ≤ 2) (ha : a + 3 * st < 16) (most : Int32) (G : zx_G) (hW : ∀ k, k < 16 → G 52 k = zx_tab2 k) : ∃ G', f_M_turn (nI a) (nI st) (nI h) most G = some (0, G') ∧ G' 47 = zd_ln (G 47) a st (zd_FM h most (fun j => G 47 (a + j * st))) := by
  have hb : ∀ i, i < 4 → a + i * st < 16 := fun i hi => by
    have : i * st ≤ 3 * st := Nat.mul_le_mul_right _ (by omega)
    omega
  have h36 : ∀ (n i : Nat) (H : zx_G), i < 4 → H 52 = G 52 → f_M_turn_36 (n + 1) (nI a) (nI st) (nI h) most (nI i) H = f_M_turn_36 n (nI a) (nI st) (nI h) most (nI (i + 1)) (zx_up H 47 (a + i * st) (zd_FM h most (H 48) i)) := by
    intro n i H hi hH
    have ix : ∀ j, j < 4 → ((4 : Int32) * nI i) + nI j = nI (4 * i + j) := fun j _ => by rw [show (4 : Int32) = nI 4 from rfl, pk_mul, nI_add]
    have w0 : H 52 (4 * i + 0) = zd_w i 0 := by rw [hH, hW _ (by omega)]; rfl
    have w1 : H 52 (4 * i + 1) = zd_w i 1 := by rw [hH, hW _ (by omega)]; rfl
    have w2 : H 52 (4 * i + 2) = zd_w i 2 := by rw [hH, hW _ (by omega)]; rfl
    have w3 : H 52 (4 * i + 3) = zd_w i 3 := by rw [hH, hW _ (by omega)]; rfl
    rw [f_M_turn_36, zp_neg (fun q => by have q2 := (zp_cle (c := (4 : Int32)) 4 rfl (by omega) (by omega)).mp q; omega)]
    unfold zd_FM zd_y
    by_cases q : h = 1
    · subst q
      rw [zp_neg (fun z => z rfl), zp_gd (zp_in hi (by omega)), zd_t134 hi (by omega) (hb i hi), zp_cl (by omega), if_pos rfl]
    · rw [zp_pos (show ¬ nI h = (1 : Int32) from fun z => q ((zp_eqc (c := (1 : Int32)) 1 rfl (by omega) (by omega)).mp z)), show (4 : Int32) * nI i = nI (4 * i + 0) from pk_mul 4 i, zp_gd (zp_in (by omega) (by omega)), zp_gd (c := zx_in (0 : Int32) 4) rfl, show nI (4 * i + 0) + (1 : Int32) = nI (4 * i + 1) from nI_add _ 1, zp_gd (zp_in (by omega) (by omega)), zp_gd (c := zx_in (1 : Int32) 4) rfl, show nI (4 * i + 0) + (2 : Int32) = nI (4 * i + 2) from nI_add _ 2, zp_gd (zp_in (by omega) (by omega)), zp_gd (c := zx_in (2 : Int32) 4) rfl, show nI (4 * i + 0) + (3 : Int32) = nI (4 * i + 3) from nI_add _ 3, zp_gd (zp_in (by omega) (by omega)), zp_gd (c := zx_in (3 : Int32) 4) rfl, zd_t134 hi hh (hb i hi), zp_cl (by omega), zp_cl (by omega), zp_cl (by omega), zp_cl (by omega), w0, w1, w2, w3, if_neg q]
      rfl
  have h3 : ∀ (n i : Nat) (G : zx_G), i < 4 → f_M_turn_3 (n + 1) (nI a) (nI st) (nI h) most (nI i) G = f_M_turn_3 n (nI a) (nI st) (nI h) most (nI (i + 1)) (zx_up G 48 i (G 47 (a + i * st))) := by
    intro n i G hi
    rw [f_M_turn_3, zp_neg (fun q => by have q2 := (zp_cle (c := (4 : Int32)) 4 rfl (by omega) (by omega)).mp q; omega), zd_ix, zp_gd (zp_in (hb i hi) (by omega)), zp_gd (zp_in hi (by omega)), zp_lt, zp_lt, zp_cl (j := a + i * st) (by have := hb i hi; omega), zp_cl (j := i) (by omega), nI_1]
  obtain ⟨G1, e1, e2, e3, e4⟩ : ∃ G1, f_M_turn (nI a) (nI st) (nI h) most G = f_M_turn_36 2048 (nI a) (nI st) (nI h) most (nI 0) G1 ∧ (∀ j, j < 4 → G1 48 j = G 47 (a + j * st)) ∧ G1 47 = G 47 ∧ G1 52 = G 52 := by
    refine ⟨zx_up (zx_up (zx_up (zx_up G 48 0 (G 47 (a + 0 * st))) 48 1 (G 47 (a + 1 * st))) 48 2 (G 47 (a + 2 * st))) 48 3 (G 47 (a + 3 * st)), ?_, ?_, by rw [zp_ur (by omega), zp_ur (by omega), zp_ur (by omega), zp_ur (by omega)], by rw [zp_ur (by omega), zp_ur (by omega), zp_ur (by omega), zp_ur (by omega)]⟩
    · unfold f_M_turn
      rw [zp_lt]
      show f_M_turn_3 (2047 + 1) _ _ _ _ (nI 0) _ = _
      rw [h3 2047 0 _ (by omega)]
      show f_M_turn_3 (2046 + 1) _ _ _ _ (nI 1) _ = _
      rw [h3 2046 1 _ (by omega), zp_ur (p' := 47) (by omega)]
      show f_M_turn_3 (2045 + 1) _ _ _ _ (nI 2) _ = _
      rw [h3 2045 2 _ (by omega), zp_ur (p' := 47) (by omega), zp_ur (p' := 47) (by omega)]
      show f_M_turn_3 (2044 + 1) _ _ _ _ (nI 3) _ = _
      rw [h3 2044 3 _ (by omega), zp_ur (p' := 47) (by omega), zp_ur (p' := 47) (by omega), zp_ur (p' := 47) (by omega)]
      show f_M_turn_3 (2043 + 1) _ _ _ _ (nI 4) _ = _
      rw [f_M_turn_3, zp_pos (by decide), zp_lt]
      rfl
    · intro j hj
      have : j = 0 ∨ j = 1 ∨ j = 2 ∨ j = 3 := by omega
      rcases this with rfl | rfl | rfl | rfl <;> simp [zp_at]
  have eF : ∀ (H : zx_G), H 48 = G1 48 → ∀ i, i < 4 → zd_FM h most (H 48) i = zd_FM h most (fun j => G 47 (a + j * st)) i := by
    intro H hH i hi
    unfold zd_FM zd_y zd_mx
    rw [hH, e2 0 (by omega), e2 1 (by omega), e2 2 (by omega), e2 3 (by omega), e2 i hi]
  refine ⟨zx_up (zx_up (zx_up (zx_up G1 47 (a + 0 * st) (zd_FM h most (fun j => G 47 (a + j * st)) 0)) 47 (a + 1 * st) (zd_FM h most (fun j => G 47 (a + j * st)) 1)) 47 (a + 2 * st) (zd_FM h most (fun j => G 47 (a + j * st)) 2)) 47 (a + 3 * st) (zd_FM h most (fun j => G 47 (a + j * st)) 3), ?_, ?_⟩
  · rw [e1]
    show f_M_turn_36 (2047 + 1) _ _ _ _ (nI 0) _ = _
    rw [h36 2047 0 _ (by omega) e4, eF G1 rfl 0 (by omega)]
    show f_M_turn_36 (2046 + 1) _ _ _ _ (nI 1) _ = _
    rw [h36 2046 1 _ (by omega) (by rw [zp_ur (by omega)]; exact e4), eF _ (by rw [zp_ur (by omega)]) 1 (by omega)]
    show f_M_turn_36 (2045 + 1) _ _ _ _ (nI 2) _ = _
    rw [h36 2045 2 _ (by omega) (by rw [zp_ur (by omega), zp_ur (by omega)]; exact e4), eF _ (by rw [zp_ur (by omega), zp_ur (by omega)]) 2 (by omega)]
    show f_M_turn_36 (2044 + 1) _ _ _ _ (nI 3) _ = _
    rw [h36 2044 3 _ (by omega) (by rw [zp_ur (by omega), zp_ur (by omega), zp_ur (by omega)]; exact e4), eF _ (by rw [zp_ur (by omega), zp_ur (by omega), zp_ur (by omega)]) 3 (by omega)]
    show f_M_turn_36 (2043 + 1) _ _ _ _ (nI 4) _ = _
    rw [f_M_turn_36, zp_pos (by decide)]
  · rw [zp_row, zp_row, zp_row, zp_row, e3]
    unfold zd_ln
    rw [Nat.zero_mul, Nat.one_mul]
    rfl
