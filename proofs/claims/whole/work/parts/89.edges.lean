/-! what stands around a unit: the reference's edges -/
theorem zl_edges {p x y t c : Nat} {u l : Nat → Nat} {G : zx_G} (hp : p ≤ 2) (hx : x ≤ 12) (hy : y ≤ 12) (ht : t ≤ 1) (h17 : G 32 17 = nI t) (hA : zl_A (G 42) p x y u l c) : ∃ G', f_M_edges (nI (256 * p)) (nI x) (nI y) G = some (0, G') ∧ (∀ k, k < 4 → G' 49 k = nI (zl_a x y (if t = 1 then 512 else 128) u l k)) ∧ (∀ k, k < 4 → G' 50 k = nI (zl_l x y (if t = 1 then 512 else 128) u l k)) ∧ G' 32 44 = nI (zl_c x y (if t = 1 then 512 else 128) u l c) := by
  obtain ⟨hU, hL, hC⟩ := hA
  generalize hh : (if t = 1 then 512 else 128) = h
  have nx : ∀ n : Nat, n ≤ 12 → (nI n ≤ 0 ↔ n = 0) := fun n hn => by rw [zp_lec (c := (0 : Int32)) 0 rfl (by omega) (by omega)]; omega
  have i1 : ∀ j, 0 < y → ((nI (256 * p) + ((16 : Int32) * (nI y - (1 : Int32)))) + nI x) + nI j = nI (256 * p + 16 * y + x - 16 + j) := by
    intro j hy0
    rw [show nI y - (1 : Int32) = nI (y - 1) from pk_sub (b := 1) (by omega), show (16 : Int32) * nI (y - 1) = nI (16 * (y - 1)) from pk_mul 16 _, nI_add, nI_add, nI_add]
    congr 1; omega
  have i1' : 0 < y → (nI (256 * p) + ((16 : Int32) * (nI y - (1 : Int32)))) + nI x = nI (256 * p + 16 * y + x - 16) := by
    intro hy0
    rw [show nI y - (1 : Int32) = nI (y - 1) from pk_sub (b := 1) (by omega), show (16 : Int32) * nI (y - 1) = nI (16 * (y - 1)) from pk_mul 16 _, nI_add, nI_add]
    congr 1; omega
  have i2 : ∀ j, 0 < x → ((nI (256 * p) + ((16 : Int32) * (nI y + nI j))) + nI x) - (1 : Int32) = nI (256 * p + 16 * y + x - 1 + 16 * j) := by
    intro j hx0
    rw [nI_add, show (16 : Int32) * nI (y + j) = nI (16 * (y + j)) from pk_mul 16 _, nI_add, nI_add, show nI (256 * p + 16 * (y + j) + x) - (1 : Int32) = nI (256 * p + 16 * (y + j) + x - 1) from pk_sub (b := 1) (by omega)]
    congr 1; omega
  have i2' : 0 < x → ((nI (256 * p) + ((16 : Int32) * nI y)) + nI x) - (1 : Int32) = nI (256 * p + 16 * y + x - 1) := by
    intro hx0
    rw [show (16 : Int32) * nI y = nI (16 * y) from pk_mul 16 _, nI_add, nI_add]
    exact pk_sub (b := 1) (by omega)
  have i3 : 0 < x → 0 < y → ((nI (256 * p) + ((16 : Int32) * (nI y - (1 : Int32)))) + nI x) - (1 : Int32) = nI (256 * p + 16 * y + x - 17) := by
    intro hx0 hy0
    rw [i1' hy0, show nI (256 * p + 16 * y + x - 16) - (1 : Int32) = nI (256 * p + 16 * y + x - 16 - 1) from pk_sub (b := 1) (by omega)]
    congr 1
  have step : ∀ (n i : Nat) (H : zx_G), i < 4 → H 42 = G 42 → f_M_edges_118 (n + 1) (nI (256 * p)) (nI x) (nI y) (nI (zl_a x y h u l 0)) (nI (zl_l x y h u l 0)) (nI i) H = f_M_edges_118 n (nI (256 * p)) (nI x) (nI y) (nI (zl_a x y h u l 0)) (nI (zl_l x y h u l 0)) (nI (i + 1)) (zx_up (zx_up H 49 i (nI (zl_a x y h u l i))) 50 i (nI (zl_l x y h u l i))) := by
    intro n i H hi hH
    have h157 : ∀ v : Int32, v = nI (zl_a x y h u l i) → f_M_edges_157 (f_M_edges_118 n) (nI (256 * p)) (nI x) (nI y) (nI (zl_a x y h u l 0)) (nI (zl_l x y h u l 0)) (nI i) (nI i) v H = f_M_edges_118 n (nI (256 * p)) (nI x) (nI y) (nI (zl_a x y h u l 0)) (nI (zl_l x y h u l 0)) (nI (i + 1)) (zx_up (zx_up H 49 i (nI (zl_a x y h u l i))) 50 i (nI (zl_l x y h u l i))) := by
      intro v hv
      unfold f_M_edges_157 f_M_edges_191
      rw [zp_gd (zp_in hi (by omega)), zp_lt, zp_cl (by omega), hv]
      by_cases c0 : x = 0
      · rw [zp_pos ((nx x hx).mpr c0), zp_gd (zp_in hi (by omega)), zp_lt, zp_lt, nI_1]
        have e : zl_l x y h u l 0 = zl_l x y h u l i := by unfold zl_l; rw [if_pos c0, if_pos c0]
        rw [e]
      · rw [zp_neg (fun z => c0 ((nx x hx).mp z)), i2 i (by omega), zp_gd (zp_in (by omega) (by omega)), zp_gd (zp_in hi (by omega)), zp_lt, zp_lt, zp_cl (by omega), zp_ur (by omega), hH, hL (by omega) i hi, nI_1]
        have e : l i = zl_l x y h u l i := by unfold zl_l; rw [if_neg c0]
        rw [← e]
    rw [f_M_edges_118, zp_neg (zd_c4 hi)]
    by_cases c0 : y = 0
    · rw [zp_pos ((nx y hy).mpr c0)]
      exact h157 _ (by unfold zl_a; rw [if_pos c0, if_pos c0])
    · rw [zp_neg (fun z => c0 ((nx y hy).mp z)), i1 i (by omega), zp_gd (zp_in (by omega) (by omega)), zp_cl (by omega), hH, hU (by omega) i hi]
      exact h157 _ (by unfold zl_a; rw [if_neg c0])
  have fin : ∀ (n : Nat) (H : zx_G), H 42 = G 42 → f_M_edges_118 (n + 1) (nI (256 * p)) (nI x) (nI y) (nI (zl_a x y h u l 0)) (nI (zl_l x y h u l 0)) (nI 4) H = some (0, zx_up H 32 44 (nI (zl_c x y h u l c))) := by
    intro n H hH
    rw [f_M_edges_118, zp_pos (by decide)]
    unfold f_M_edges_227 f_M_edges_238 zl_c zl_a zl_l
    by_cases c0 : x = 0
    · rw [zp_pos ((nx x hx).mpr c0)]
      by_cases c1 : y = 0
      · rw [zp_pos ((nx y hy).mpr c1), zp_lt, if_pos c0, if_pos c0, if_pos c1]
      · rw [zp_neg (fun z => c1 ((nx y hy).mp z)), zp_lt, if_neg c1, if_pos c0, if_neg c1]
    · rw [zp_neg (fun z => c0 ((nx x hx).mp z))]
      by_cases c1 : y = 0
      · rw [zp_pos ((nx y hy).mpr c1), zp_pos ((nx y hy).mpr c1), zp_lt, if_neg c0, if_neg c0, if_pos c1]
      · rw [zp_neg (fun z => c1 ((nx y hy).mp z)), i3 (by omega) (by omega), zp_gd (zp_in (by omega) (by omega)), zp_cl (by omega), hH, hC (by omega) (by omega), zp_lt, if_neg c0, if_neg c1]
  have pre : f_M_edges (nI (256 * p)) (nI x) (nI y) G = f_M_edges_118 2048 (nI (256 * p)) (nI x) (nI y) (nI (zl_a x y h u l 0)) (nI (zl_l x y h u l 0)) (0 : Int32) G := by
    have r65 : ∀ x5 : Int32, f_M_edges_65 (nI (256 * p)) (nI x) (nI y) (nI h) x5 G = f_M_edges_118 2048 (nI (256 * p)) (nI x) (nI y) x5 (nI (zl_l x y h u l 0)) (0 : Int32) G := by
      intro x5
      unfold f_M_edges_65 f_M_edges_113 zl_l
      rw [zp_lt]
      by_cases c0 : x = 0
      · rw [zp_pos ((nx x hx).mpr c0), if_pos c0]
        by_cases c1 : y = 0
        · rw [zp_pos ((nx y hy).mpr c1), zp_lt, zp_lt, if_pos c1]
        · rw [zp_neg (fun z => c1 ((nx y hy).mp z)), i1' (by omega), zp_gd (zp_in (by omega) (by omega)), zp_cl (by omega), zp_lt, zp_lt, if_neg c1, show G 42 (256 * p + 16 * y + x - 16) = nI (u 0) from hU (by omega) 0 (by omega)]
      · rw [zp_neg (fun z => c0 ((nx x hx).mp z)), i2' (by omega), zp_gd (zp_in (by omega) (by omega)), zp_cl (by omega), zp_lt, zp_lt, if_neg c0, show G 42 (256 * p + 16 * y + x - 1) = nI (l 0) from hL (by omega) 0 (by omega)]
    have r17 : f_M_edges_17 (nI (256 * p)) (nI x) (nI y) (nI h) G = f_M_edges_65 (nI (256 * p)) (nI x) (nI y) (nI h) (nI (zl_a x y h u l 0)) G := by
      unfold f_M_edges_17 zl_a
      rw [zp_lt]
      by_cases c1 : y = 0
      · rw [zp_pos ((nx y hy).mpr c1), if_pos c1]
        by_cases c0 : x = 0
        · rw [zp_pos ((nx x hx).mpr c0), if_pos c0]
        · rw [zp_neg (fun z => c0 ((nx x hx).mp z)), i2' (by omega), zp_gd (zp_in (by omega) (by omega)), zp_cl (by omega), if_neg c0, show G 42 (256 * p + 16 * y + x - 1) = nI (l 0) from hL (by omega) 0 (by omega)]
      · rw [zp_neg (fun z => c1 ((nx y hy).mp z)), i1' (by omega), zp_gd (zp_in (by omega) (by omega)), zp_cl (by omega), if_neg c1, show G 42 (256 * p + 16 * y + x - 16) = nI (u 0) from hU (by omega) 0 (by omega)]
    rw [← r65, ← r17]
    unfold f_M_edges
    rw [h17]
    have : t = 0 ∨ t = 1 := by omega
    rcases this with rfl | rfl
    · rw [zp_pos (by decide), ← hh]; rfl
    · rw [zp_neg (fun z => z rfl), ← hh]; rfl
  rw [pre]
  show ∃ G', f_M_edges_118 (2047 + 1) _ _ _ _ _ (nI 0) G = _ ∧ _
  rw [step 2047 0 G (by omega) rfl]
  show ∃ G', f_M_edges_118 (2046 + 1) _ _ _ _ _ (nI 1) _ = _ ∧ _
  rw [step 2046 1 _ (by omega) (by rw [zp_ur (by omega), zp_ur (by omega)])]
  show ∃ G', f_M_edges_118 (2045 + 1) _ _ _ _ _ (nI 2) _ = _ ∧ _
  rw [step 2045 2 _ (by omega) (by rw [zp_ur (by omega), zp_ur (by omega), zp_ur (by omega), zp_ur (by omega)])]
  show ∃ G', f_M_edges_118 (2044 + 1) _ _ _ _ _ (nI 3) _ = _ ∧ _
  rw [step 2044 3 _ (by omega) (by rw [zp_ur (by omega), zp_ur (by omega), zp_ur (by omega), zp_ur (by omega), zp_ur (by omega), zp_ur (by omega)])]
  show ∃ G', f_M_edges_118 (2043 + 1) _ _ _ _ _ (nI 4) _ = _ ∧ _
  rw [fin 2043 _ (by rw [zp_ur (by omega), zp_ur (by omega), zp_ur (by omega), zp_ur (by omega), zp_ur (by omega), zp_ur (by omega), zp_ur (by omega), zp_ur (by omega)])]
  refine ⟨_, rfl, fun k hk => ?_, fun k hk => ?_, by simp [zp_at]⟩
  · have : k = 0 ∨ k = 1 ∨ k = 2 ∨ k = 3 := by omega
    rcases this with rfl | rfl | rfl | rfl <;> simp [zp_at]
  · have : k = 0 ∨ k = 1 ∨ k = 2 ∨ k = 3 := by omega
    rcases this with rfl | rfl | rfl | rfl <;> simp [zp_at]
