/-! the prediction: distances, limits -/
theorem ze_sub {x y : Int32} (hx : -100000000 ≤ x.toInt ∧ x.toInt ≤ 100000000) (hy : -100000000 ≤ y.toInt ∧ y.toInt ≤ 100000000) : (x - y).toInt = x.toInt - y.toInt := by
  rw [Int32.toInt_sub]
  have e : (2 : Nat) ^ 32 = 4294967296 := by decide
  rw [Int.bmod_def, e]
  split <;> omega
theorem ze_far {x y : Int32} (hx : -1000000 ≤ x.toInt ∧ x.toInt ≤ 1000000) (hy : -1000000 ≤ y.toInt ∧ y.toInt ≤ 1000000) (G : zx_G) : f_M_far x y G = some (zx_mabs (x - y), G) := by
  unfold f_M_far f_M_far_14 zx_mabs
  have e := ze_sub (x := x) (y := y) (by omega) (by omega)
  have z : (0 : Int32).toInt = 0 := by decide
  by_cases h : y ≤ x
  · have h2 : 0 ≤ x - y := by rw [Int32.le_iff_toInt_le, e, z]; rw [Int32.le_iff_toInt_le] at h; omega
    rw [zp_pos h, if_pos h2]
  · have h2 : ¬ 0 ≤ x - y := by rw [Int32.le_iff_toInt_le, e, z]; rw [Int32.le_iff_toInt_le] at h; omega
    rw [zp_neg h, if_neg h2]
    have e2 : (y - x) = 0 - (x - y) := by
      apply Int32.toInt_inj.mp
      rw [ze_sub (x := y) (y := x) (by omega) (by omega), ze_sub (x := 0) (y := x - y) (by rw [z]; omega) (by rw [e]; rw [Int32.le_iff_toInt_le] at h; omega), e, z]
      omega
    rw [e2]
/-- above, left and corner of a unit, the same on both sides, within the samples' range -/
def ze_R (Gc Gm : zx_G) : Prop := ∃ (a l : Nat → Nat) (c : Nat), (∀ j, j < 4 → a j ≤ 1023 ∧ Gc 28 j = nI (a j) ∧ Gm 49 j = nI (a j)) ∧ (∀ j, j < 4 → l j ≤ 1023 ∧ Gc 29 j = nI (l j) ∧ Gm 50 j = nI (l j)) ∧ c ≤ 1023 ∧ Gc 26 4 = nI c ∧ Gm 32 44 = nI c ∧ Gc 26 5 = (((((((((Gc 28 0 + Gc 28 1) + Gc 28 2) + Gc 28 3) + Gc 29 0) + Gc 29 1) + Gc 29 2) + Gc 29 3) + (4 : Int32)) >>> ((3 : Int32) &&& 31))
theorem ze_nearest {a l c : Nat} {Gc Gm : zx_G} (ha : a ≤ 1023) (hl : l ≤ 1023) (hc : c ≤ 1023) (h1 : Gc 26 4 = nI c) (h2 : Gm 32 44 = nI c) (i : Int32) (hi : zx_in i 4 = true) (e49 : Gm 49 (Int32.toNatClampNeg i) = nI a) : ∃ r, f_E_nearest (nI l) (nI a) Gc = some (r, Gc) ∧ (zx_bd (f_M_far (nI a) ((nI a + nI l) - nI c) Gm) fun r_13 G_12 => zx_bd (f_M_far (nI l) ((nI a + nI l) - nI c) G_12) fun r_16 G_15 => zx_if (r_16 ≤ r_13) (f_M_predicted_276 ((nI a + nI l) - nI c) (nI l) G_15) (zx_gd (zx_in i 4) <| zx_lt (G_15 49 (Int32.toNatClampNeg i)) fun x5_20 => f_M_predicted_276 ((nI a + nI l) - nI c) x5_20 G_15)) = some (r, Gm) := by
  have ti : ∀ n : Nat, n ≤ 3000 → (nI n).toInt = n := fun n hn => nI_toInt (by omega)
  have hx : ∀ n : Nat, n ≤ 3000 → -1000000 ≤ (nI n).toInt ∧ (nI n).toInt ≤ 1000000 := fun n hn => by rw [ti n hn]; omega
  have haim : -1000000 ≤ ((nI a + nI l) - nI c).toInt ∧ ((nI a + nI l) - nI c).toInt ≤ 1000000 := by
    rw [nI_add, ze_sub (by have := hx (a + l) (by omega); omega) (by have := hx c (by omega); omega), ti _ (by omega), ti _ (by omega)]
    omega
  have key : ∀ v : Nat, v ≤ 1023 → ∃ r, f_E_nearest_31 ((nI a + nI l) - nI c) (nI v) Gc = some (r, Gc) ∧ f_M_predicted_276 ((nI a + nI l) - nI c) (nI v) Gm = some (r, Gm) := by
    intro v hv
    unfold f_E_nearest_31 f_E_nearest_56 f_M_predicted_276 f_M_predicted_304
    rw [h1, h2, zp_bd (ze_far (hx _ (by omega)) haim Gm), zp_bd (ze_far (hx _ (by omega)) haim Gm)]
    by_cases q : zx_mabs (nI v - ((nI a + nI l) - nI c)) ≤ zx_mabs (nI c - ((nI a + nI l) - nI c))
    · exact ⟨nI v, by rw [zp_pos q], by rw [zp_pos q]⟩
    · exact ⟨nI c, by rw [zp_neg q, zp_lt], by rw [zp_neg q, h2]⟩
  unfold f_E_nearest
  rw [zp_lt, zp_lt, h1, zp_bd (ze_far (hx _ (by omega)) haim Gm), zp_bd (ze_far (hx _ (by omega)) haim Gm)]
  by_cases q : zx_mabs (nI l - ((nI a + nI l) - nI c)) ≤ zx_mabs (nI a - ((nI a + nI l) - nI c))
  · obtain ⟨r, k1, k2⟩ := key l hl
    exact ⟨r, by rw [zp_pos q]; exact k1, by rw [zp_pos q]; exact k2⟩
  · obtain ⟨r, k1, k2⟩ := key a ha
    exact ⟨r, by rw [zp_neg q, zp_lt]; exact k1, by rw [zp_neg q, zp_gd hi, zp_lt, e49]; exact k2⟩
