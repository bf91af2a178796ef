/-! the class's prediction of a unit: the mean -/
theorem ze_mean {x2 x3 x4 x5 : Int32} {a l : Nat → Nat} {G : zx_G} (hA : ∀ j, j < 4 → a j ≤ 1023 ∧ G 28 j = nI (a j)) (hL : ∀ j, j < 4 → l j ≤ 1023 ∧ G 29 j = nI (l j)) :
    ∃ G', f_E_make_15 2048 x2 x3 x4 x5 (0 : Int32) (zx_up G 26 5 (4 : Int32)) = f_E_make_64 2048 x2 x3 x4 x5 (0 : Int32) G' ∧ (∀ q, q ≠ 26 → G' q = G q) ∧ (∀ k, k ≠ 5 → G' 26 k = G 26 k) ∧ G' 26 5 = (((((((((G 28 0 + G 28 1) + G 28 2) + G 28 3) + G 29 0) + G 29 1) + G 29 2) + G 29 3) + (4 : Int32)) >>> ((3 : Int32) &&& 31)) := by
  have step : ∀ (n i m : Nat) (H : zx_G), i < 4 → H 28 = G 28 → H 29 = G 29 → H 26 5 = nI m → f_E_make_15 (n + 1) x2 x3 x4 x5 (nI i) H = f_E_make_15 n x2 x3 x4 x5 (nI (i + 1)) (zx_up H 26 5 (nI (m + (a i + l i)))) := by
    intro n i m H hi h1 h2 h3
    rw [f_E_make_15, zp_neg (zd_c4 hi), zp_gd (zp_in hi (by omega)), zp_gd (zp_in hi (by omega)), zp_lt, zp_lt, zp_cl (by omega), h1, h2, h3, (hA i hi).2, (hL i hi).2, nI_add, nI_add, nI_1]
  refine ⟨zx_up (zx_up (zx_up (zx_up (zx_up (zx_up G 26 5 (4 : Int32)) 26 5 (nI (4 + (a 0 + l 0)))) 26 5 (nI (4 + (a 0 + l 0) + (a 1 + l 1)))) 26 5 (nI (4 + (a 0 + l 0) + (a 1 + l 1) + (a 2 + l 2)))) 26 5 (nI (4 + (a 0 + l 0) + (a 1 + l 1) + (a 2 + l 2) + (a 3 + l 3)))) 26 5 (nI (4 + (a 0 + l 0) + (a 1 + l 1) + (a 2 + l 2) + (a 3 + l 3)) >>> ((3 : Int32) &&& 31)), ?_, fun q hq => by rw [zp_ur hq, zp_ur hq, zp_ur hq, zp_ur hq, zp_ur hq, zp_ur hq], fun k hk => by rw [zp_uk hk, zp_uk hk, zp_uk hk, zp_uk hk, zp_uk hk, zp_uk hk], ?_⟩
  · show f_E_make_15 (2047 + 1) _ _ _ _ (nI 0) _ = _
    rw [step 2047 0 4 _ (by omega) (by rw [zp_ur (by omega)]) (by rw [zp_ur (by omega)]) (by rw [zp_us]; rfl)]
    show f_E_make_15 (2046 + 1) _ _ _ _ (nI 1) _ = _
    rw [step 2046 1 (4 + (a 0 + l 0)) _ (by omega) (by rw [zp_ur (by omega), zp_ur (by omega)]) (by rw [zp_ur (by omega), zp_ur (by omega)]) zp_us]
    show f_E_make_15 (2045 + 1) _ _ _ _ (nI 2) _ = _
    rw [step 2045 2 (4 + (a 0 + l 0) + (a 1 + l 1)) _ (by omega) (by rw [zp_ur (by omega), zp_ur (by omega), zp_ur (by omega)]) (by rw [zp_ur (by omega), zp_ur (by omega), zp_ur (by omega)]) zp_us]
    show f_E_make_15 (2044 + 1) _ _ _ _ (nI 3) _ = _
    rw [step 2044 3 (4 + (a 0 + l 0) + (a 1 + l 1) + (a 2 + l 2)) _ (by omega) (by rw [zp_ur (by omega), zp_ur (by omega), zp_ur (by omega), zp_ur (by omega)]) (by rw [zp_ur (by omega), zp_ur (by omega), zp_ur (by omega), zp_ur (by omega)]) zp_us]
    show f_E_make_15 (2043 + 1) _ _ _ _ (nI 4) _ = _
    rw [f_E_make_15, zp_pos (by decide), zp_lt, zp_lt, zp_us]
  · rw [zp_us, (hA 0 (by omega)).2, (hA 1 (by omega)).2, (hA 2 (by omega)).2, (hA 3 (by omega)).2, (hL 0 (by omega)).2, (hL 1 (by omega)).2, (hL 2 (by omega)).2, (hL 3 (by omega)).2, nI_add, nI_add, nI_add, nI_add, nI_add, nI_add, nI_add, show nI (a 0 + a 1 + a 2 + a 3 + l 0 + l 1 + l 2 + l 3) + (4 : Int32) = nI (a 0 + a 1 + a 2 + a 3 + l 0 + l 1 + l 2 + l 3 + 4) from nI_add _ 4]
    rw [show 4 + (a 0 + l 0) + (a 1 + l 1) + (a 2 + l 2) + (a 3 + l 3) = a 0 + a 1 + a 2 + a 3 + l 0 + l 1 + l 2 + l 3 + 4 by omega]
