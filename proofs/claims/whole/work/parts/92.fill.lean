/-! the class's prediction of a unit: 16 values -/
theorem ze_fill {md : Nat} {x2 x3 x5 : Int32} {V : Nat → Int32} {G : zx_G} (hV : ∀ k, k < 16 → f_E_predicted (nI md) (nI (k % 4)) (nI (k / 4)) G = some (V k, G)) :
    ∃ G', f_E_make_64 2048 x2 x3 (nI md) x5 (0 : Int32) G = zx_if (¬ nI md = (6 : Int32)) (f_E_make_117 G') (zx_bd (f_P_placeOf (0 : Int32) x2 x3 G') fun r_4 G_3 => zx_bd (f_E_addShare r_4 x5 G_3) fun r_7 G_6 => f_E_make_117 G_6) ∧ (∀ k, k < 16 → G' 27 k = V k) ∧ ∀ q, q ≠ 27 → G' q = G q := by
  obtain ⟨G', a1, -, a3, a4⟩ := zd_map (fun n x H => f_E_make_64 n x2 x3 (nI md) x5 x H) (fun H => zx_if (¬ nI md = (6 : Int32)) (f_E_make_117 H) (zx_bd (f_P_placeOf (0 : Int32) x2 x3 H) fun r_4 G_3 => zx_bd (f_E_addShare r_4 x5 G_3) fun r_7 G_6 => f_E_make_117 G_6)) 27 16 (fun i _ => V i) (fun H => H 26 = G 26 ∧ H 28 = G 28 ∧ H 29 = G 29) (fun H k x h => ⟨by rw [zp_ur (by omega)]; exact h.1, by rw [zp_ur (by omega)]; exact h.2.1, by rw [zp_ur (by omega)]; exact h.2.2⟩)
    (fun n i H hi hH => by
      show f_E_make_64 (n + 1) x2 x3 (nI md) x5 (nI i) H = f_E_make_64 n x2 x3 (nI md) x5 (nI (i + 1)) _
      have hp : f_E_predicted (nI md) (nI (i % 4)) (nI (i / 4)) H = some (V i, H) := by rw [ze_predC _ _ _ hH.1 hH.2.1 hH.2.2, hV i hi]; rfl
      rw [f_E_make_64, zp_neg (zd_c16 hi), show nI i &&& (3 : Int32) = nI (i % 4) from pk_andN (by omega) 2 rfl, show nI i >>> ((2 : Int32) &&& 31) = nI (i / 4) from pk_shrN (by omega) _ 2 (by decide), zp_bd hp, zp_gd (zp_in hi (by omega)), zp_lt, zp_lt, zp_cl (by omega), nI_1])
    (fun n H _ => by
      show f_E_make_64 (n + 1) x2 x3 (nI md) x5 (nI 16) H = _
      rw [f_E_make_64, zp_pos (by decide)]) 16 0 2048 G ⟨rfl, rfl, rfl⟩ (by omega) (by omega)
  exact ⟨G', a1, fun k hk => by rw [a3 k, if_pos (by omega)], a4⟩
