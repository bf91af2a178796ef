/-! the prediction of one sample -/
theorem ze_min {n : Nat} (hn : n ≤ 100) : zx_mmin (nI n) (3 : Int32) = nI (if n < 3 then n else 3) := by
  unfold zx_mmin
  by_cases h : n < 3
  · rw [if_neg (show ¬ (3 : Int32) < nI n from fun z => by have := (zp_clt (c := (3 : Int32)) 3 rfl (by omega) (by omega)).mp z; omega), if_pos h]
  · rw [if_neg h]
    by_cases h2 : n = 3
    · subst h2; decide
    · rw [if_pos ((zp_clt (c := (3 : Int32)) 3 rfl (by omega) (by omega)).mpr (by omega))]; rfl
theorem ze_pred {md i j : Nat} {Gc Gm : zx_G} (h : ze_R Gc Gm) (hmd : md ≤ 6) (hi : i < 4) (hj : j < 4) : ∃ r, f_E_predicted (nI md) (nI i) (nI j) Gc = some (r, Gc) ∧ f_M_predicted (nI (if md = 6 then 0 else md)) (nI i) (nI j) Gm = some (r, Gm) := by
  obtain ⟨a, l, c, hA, hL, hc, c1, c2, hm⟩ := h
  have bi : zx_in (nI i) 4 = true := zp_in hi (by omega)
  have bj : zx_in (nI j) 4 = true := zp_in hj (by omega)
  have ci : (nI i).toNatClampNeg = i := zp_cl (by omega)
  have cj : (nI j).toNatClampNeg = j := zp_cl (by omega)
  have mean : ∀ md, md = 0 ∨ md = 6 → ∃ r, f_E_predicted (nI md) (nI i) (nI j) Gc = some (r, Gc) ∧ f_M_predicted (nI 0) (nI i) (nI j) Gm = some (r, Gm) := by
    intro md hmd
    refine ⟨Gc 26 5, ?_, ?_⟩
    · unfold f_E_predicted
      rcases hmd with rfl | rfl
      · rw [zp_neg (by decide), zp_neg (by decide), zp_neg (by decide), zp_neg (by decide), zp_neg (by decide)]
      · rw [zp_neg (by decide), zp_neg (by decide), zp_neg (by decide), zp_neg (by decide), zp_neg (by decide)]
    · unfold f_M_predicted
      rw [zp_neg (fun z => z rfl), zp_gd (c := zx_in (0 : Int32) 4) rfl, zp_gd (c := zx_in (1 : Int32) 4) rfl, zp_gd (c := zx_in (2 : Int32) 4) rfl, zp_gd (c := zx_in (3 : Int32) 4) rfl, zp_gd (c := zx_in (0 : Int32) 4) rfl, zp_gd (c := zx_in (1 : Int32) 4) rfl, zp_gd (c := zx_in (2 : Int32) 4) rfl, zp_gd (c := zx_in (3 : Int32) 4) rfl, hm]
      have k0 : Int32.toNatClampNeg (0 : Int32) = 0 := by decide
      have k1 : Int32.toNatClampNeg (1 : Int32) = 1 := by decide
      have k2 : Int32.toNatClampNeg (2 : Int32) = 2 := by decide
      have k3 : Int32.toNatClampNeg (3 : Int32) = 3 := by decide
      rw [k0, k1, k2, k3, (hA 0 (by omega)).2.1, (hA 1 (by omega)).2.1, (hA 2 (by omega)).2.1, (hA 3 (by omega)).2.1, (hL 0 (by omega)).2.1, (hL 1 (by omega)).2.1, (hL 2 (by omega)).2.1, (hL 3 (by omega)).2.1, (hA 0 (by omega)).2.2, (hA 1 (by omega)).2.2, (hA 2 (by omega)).2.2, (hA 3 (by omega)).2.2, (hL 0 (by omega)).2.2, (hL 1 (by omega)).2.2, (hL 2 (by omega)).2.2, (hL 3 (by omega)).2.2]
  have hcase : md = 0 ∨ md = 1 ∨ md = 2 ∨ md = 3 ∨ md = 4 ∨ md = 5 ∨ md = 6 := by omega
  rcases hcase with rfl | rfl | rfl | rfl | rfl | rfl | rfl
  · exact mean 0 (Or.inl rfl)
  · refine ⟨nI (a i), ?_, ?_⟩
    · unfold f_E_predicted
      rw [zp_pos (by decide), zp_gd bi, ci, (hA i hi).2.1]
    · rw [if_neg (by decide)]
      unfold f_M_predicted
      rw [zp_pos (by decide), zp_neg (fun z => z rfl), zp_gd bi, ci, (hA i hi).2.2]
  · refine ⟨nI (l j), ?_, ?_⟩
    · unfold f_E_predicted
      rw [zp_neg (by decide), zp_pos (by decide), zp_gd bj, cj, (hL j hj).2.1]
    · rw [if_neg (by decide)]
      unfold f_M_predicted
      rw [zp_pos (by decide), zp_pos (by decide), zp_neg (fun z => z rfl), zp_gd bj, cj, (hL j hj).2.2]
  · obtain ⟨r, e1, e2⟩ := ze_nearest (hA i hi).1 (hL j hj).1 hc c1 c2 (nI i) bi (by rw [ci]; exact (hA i hi).2.2)
    refine ⟨r, ?_, ?_⟩
    · unfold f_E_predicted
      rw [zp_neg (by decide), zp_neg (by decide), zp_pos (by decide), zp_gd bj, zp_gd bi, ci, cj, (hA i hi).2.1, (hL j hj).2.1, zp_bd e1]
    · rw [if_neg (by decide)]
      unfold f_M_predicted
      rw [zp_pos (by decide), zp_pos (by decide), zp_pos (by decide), zp_pos (by decide), zp_pos (by decide), zp_gd bi, zp_gd bj, zp_lt, zp_gd bj, zp_lt, zp_gd bi]
      rw [ci] at e2
      rw [ci, cj, (hA i hi).2.2, (hL j hj).2.2, c2]
      exact e2
  · have k3 : Int32.toNatClampNeg (3 : Int32) = 3 := by decide
    refine ⟨(((((((7 : Int32) - ((2 : Int32) * nI j)) * nI (a i)) + (((8 : Int32) - ((7 : Int32) - ((2 : Int32) * nI j))) * nI (l 3))) + (((7 : Int32) - ((2 : Int32) * nI i)) * nI (l j))) + (((8 : Int32) - ((7 : Int32) - ((2 : Int32) * nI i))) * nI (a 3))) + (8 : Int32)) >>> ((4 : Int32) &&& 31), ?_, ?_⟩
    rotate_left
    · rw [if_neg (by decide)]
      unfold f_M_predicted
      rw [zp_pos (by decide), zp_pos (by decide), zp_pos (by decide), zp_neg (fun z => z rfl), zp_lt, zp_lt, zp_gd bi, zp_gd (c := zx_in (3 : Int32) 4) rfl, zp_gd bj, zp_gd (c := zx_in (3 : Int32) 4) rfl, ci, cj, k3, (hA i hi).2.2, (hL j hj).2.2, (hA 3 (by omega)).2.2, (hL 3 (by omega)).2.2]
    · unfold f_E_predicted f_E_blended
      rw [zp_neg (by decide), zp_neg (by decide), zp_neg (by decide), zp_pos (by decide), zp_lt, zp_lt, zp_gd bi, zp_gd (c := zx_in (3 : Int32) 4) rfl, zp_lt, zp_gd bj, zp_gd (c := zx_in (3 : Int32) 4) rfl, zp_lt, zp_bd rfl, ci, cj, k3, (hA i hi).2.1, (hL j hj).2.1, (hA 3 (by omega)).2.1, (hL 3 (by omega)).2.1, ← Int32.add_assoc]
  · have hk1 : (if i + j < 3 then i + j else 3) < 4 := by split <;> omega
    have hk2 : (if i + j + 1 < 3 then i + j + 1 else 3) < 4 := by split <;> omega
    refine ⟨((nI (a (if i + j < 3 then i + j else 3)) + nI (a (if i + j + 1 < 3 then i + j + 1 else 3))) + (1 : Int32)) >>> ((1 : Int32) &&& 31), ?_, ?_⟩
    · unfold f_E_predicted
      rw [zp_neg (by decide), zp_neg (by decide), zp_neg (by decide), zp_neg (by decide), zp_pos (by decide), nI_add, nI_1, ze_min (by omega), ze_min (by omega), zp_gd (zp_in hk1 (by omega)), zp_gd (zp_in hk2 (by omega)), zp_cl (j := if i + j < 3 then i + j else 3) (by omega), zp_cl (j := if i + j + 1 < 3 then i + j + 1 else 3) (by omega), (hA _ hk1).2.1, (hA _ hk2).2.1]
    · rw [if_neg (by decide)]
      have m197 : f_M_predicted_197 (nI (if i + j < 3 then i + j else 3)) (nI (if i + j + 1 < 3 then i + j + 1 else 3)) Gm = some (((nI (a (if i + j < 3 then i + j else 3)) + nI (a (if i + j + 1 < 3 then i + j + 1 else 3))) + (1 : Int32)) >>> ((1 : Int32) &&& 31), Gm) := by
        unfold f_M_predicted_197
        rw [zp_lt, zp_gd (zp_in hk1 (by omega)), zp_gd (zp_in hk2 (by omega)), zp_cl (j := if i + j < 3 then i + j else 3) (by omega), zp_cl (j := if i + j + 1 < 3 then i + j + 1 else 3) (by omega), (hA _ hk1).2.2, (hA _ hk2).2.2]
      have m179 : f_M_predicted_179 (nI i) (nI j) (nI (if i + j < 3 then i + j else 3)) Gm = f_M_predicted_197 (nI (if i + j < 3 then i + j else 3)) (nI (if i + j + 1 < 3 then i + j + 1 else 3)) Gm := by
        unfold f_M_predicted_179
        rw [zp_lt, nI_add]
        by_cases q : i + j + 1 < 3
        · rw [zp_neg (show ¬ (2 : Int32) ≤ nI (i + j) from fun z => by have := (zp_cle (c := (2 : Int32)) 2 rfl (by omega) (by omega)).mp z; omega), nI_1, if_pos q]
        · rw [zp_pos ((zp_cle (c := (2 : Int32)) 2 rfl (by omega) (by omega)).mpr (by omega)), if_neg q]
          rfl
      rw [m197] at m179
      unfold f_M_predicted
      rw [zp_pos (by decide), zp_pos (by decide), zp_pos (by decide), zp_pos (by decide), zp_neg (fun z => z rfl), nI_add]
      by_cases q : i + j < 3
      · rw [zp_neg (show ¬ (3 : Int32) ≤ nI (i + j) from fun z => by have := (zp_cle (c := (3 : Int32)) 3 rfl (by omega) (by omega)).mp z; omega)]
        rw [if_pos q] at m179 ⊢
        exact m179
      · rw [zp_pos ((zp_cle (c := (3 : Int32)) 3 rfl (by omega) (by omega)).mpr (by omega))]
        rw [if_neg q] at m179 ⊢
        exact m179
  · exact mean 6 (Or.inr rfl)
