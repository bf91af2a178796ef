/-! what stands around a unit: the class's look -/
/-- samples around the unit (x, y) of plane p: u above, l left, c the corner; h the middle -/
def zl_A (S : Nat → Int32) (p x y : Nat) (u l : Nat → Nat) (c : Nat) : Prop := (0 < y → ∀ k, k < 4 → S (256 * p + 16 * y + x - 16 + k) = nI (u k)) ∧ (0 < x → ∀ k, k < 4 → S (256 * p + 16 * y + x - 1 + 16 * k) = nI (l k)) ∧ (0 < x → 0 < y → S (256 * p + 16 * y + x - 17) = nI c)
def zl_a (x y h : Nat) (u l : Nat → Nat) (k : Nat) : Nat := if y = 0 then (if x = 0 then h else l 0) else u k
def zl_l (x y h : Nat) (u l : Nat → Nat) (k : Nat) : Nat := if x = 0 then (if y = 0 then h else u 0) else l k
def zl_c (x y h : Nat) (u l : Nat → Nat) (c : Nat) : Nat := if x = 0 then (if y = 0 then h else u 0) else (if y = 0 then l 0 else c)
theorem zl_look {p x y h c : Nat} {u l : Nat → Nat} {G : zx_G} (hp : p ≤ 2) (hx : x ≤ 12) (hy : y ≤ 12) (hmid : ((G 17 4) + (1 : Int32)) >>> ((1 : Int32) &&& 31) = nI h) (hA : zl_A (G 18) p x y u l c) : ∃ G', f_E_look (nI p) (nI x) (nI y) G = some (0, G') ∧ (∀ k, k < 4 → G' 28 k = nI (zl_a x y h u l k)) ∧ (∀ k, k < 4 → G' 29 k = nI (zl_l x y h u l k)) ∧ G' 26 4 = nI (zl_c x y h u l c) := by
  obtain ⟨hU, hL, hC⟩ := hA
  have nx : ∀ n : Nat, n ≤ 12 → (nI n = 0 ↔ n = 0) := fun n hn => zp_eqc (c := (0 : Int32)) 0 rfl (by omega) (by omega)
  have mid : ∀ H : zx_G, H 17 = G 17 → f_P_middle H = some (nI h, H) := fun H hH => by unfold f_P_middle; rw [hH, hmid]
  -- the loop
  have step : ∀ (x6 x7 : Int32) (n i : Nat) (H : zx_G), i < 4 → H 18 = G 18 → f_E_look_103 (n + 1) (nI x) (nI y) (nI (256 * p + 16 * y + x)) x6 x7 (nI (zl_a x 0 h u l 0)) (nI (zl_l 0 y h u l 0)) (nI i) H = f_E_look_103 n (nI x) (nI y) (nI (256 * p + 16 * y + x)) x6 x7 (nI (zl_a x 0 h u l 0)) (nI (zl_l 0 y h u l 0)) (nI (i + 1)) (zx_up (zx_up H 28 i (nI (zl_a x y h u l i))) 29 i (nI (zl_l x y h u l i))) := by
    intro x6 x7 n i H hi hH
    have h135 : ∀ v : Int32, v = nI (zl_a x y h u l i) → f_E_look_135 (f_E_look_103 n) (nI x) (nI y) (nI (256 * p + 16 * y + x)) x6 x7 (nI (zl_a x 0 h u l 0)) (nI (zl_l 0 y h u l 0)) (nI i) (nI i) v H = f_E_look_103 n (nI x) (nI y) (nI (256 * p + 16 * y + x)) x6 x7 (nI (zl_a x 0 h u l 0)) (nI (zl_l 0 y h u l 0)) (nI (i + 1)) (zx_up (zx_up H 28 i (nI (zl_a x y h u l i))) 29 i (nI (zl_l x y h u l i))) := by
      intro v hv
      unfold f_E_look_135 f_E_look_164
      rw [zp_gd (zp_in hi (by omega)), zp_lt, zp_cl (by omega), hv]
      by_cases c0 : x = 0
      · rw [zp_pos ((nx x hx).mpr c0), zp_gd (zp_in hi (by omega)), zp_lt, zp_lt, nI_1]
        have e : zl_l 0 y h u l 0 = zl_l x y h u l i := by unfold zl_l; rw [if_pos rfl, if_pos c0]
        rw [← e]
      · have ix : (nI (256 * p + 16 * y + x) - (1 : Int32)) + (nI i * (16 : Int32)) = nI (256 * p + 16 * y + x - 1 + 16 * i) := by
          rw [show nI (256 * p + 16 * y + x) - (1 : Int32) = nI (256 * p + 16 * y + x - 1) from pk_sub (b := 1) (by omega), show nI i * (16 : Int32) = nI (i * 16) from pk_mul i 16, nI_add, Nat.mul_comm i 16]
        rw [zp_neg (fun z => c0 ((nx x hx).mp z)), ix, zp_gd (zp_in (by omega) (by omega)), zp_gd (zp_in hi (by omega)), zp_lt, zp_lt, zp_cl (by omega), zp_ur (by omega), hH, hL (by omega) i hi, nI_1]
        have e : l i = zl_l x y h u l i := by unfold zl_l; rw [if_neg c0]
        rw [← e]
    rw [f_E_look_103, zp_neg (zd_c4 hi)]
    by_cases c0 : y = 0
    · rw [zp_pos ((nx y hy).mpr c0)]
      exact h135 _ (by unfold zl_a; rw [if_pos rfl, if_pos c0])
    · have ix : (nI (256 * p + 16 * y + x) - (16 : Int32)) + nI i = nI (256 * p + 16 * y + x - 16 + i) := by
        rw [show nI (256 * p + 16 * y + x) - (16 : Int32) = nI (256 * p + 16 * y + x - 16) from pk_sub (b := 16) (by omega), nI_add]
      rw [zp_neg (fun z => c0 ((nx y hy).mp z)), ix, zp_gd (zp_in (by omega) (by omega)), zp_cl (by omega), hH, hU (by omega) i hi]
      exact h135 _ (by unfold zl_a; rw [if_neg c0])
  have fin : ∀ (n : Nat) (H : zx_G), H 18 = G 18 → f_E_look_103 (n + 1) (nI x) (nI y) (nI (256 * p + 16 * y + x)) (nI (if y = 0 then h else u 0)) (nI (if x = 0 then h else l 0)) (nI (zl_a x 0 h u l 0)) (nI (zl_l 0 y h u l 0)) (nI 4) H = some (0, zx_up H 26 4 (nI (zl_c x y h u l c))) := by
    intro n H hH
    rw [f_E_look_103, zp_pos (by decide)]
    unfold f_E_look_196 f_E_look_208 f_E_look_211 zl_c
    by_cases c0 : x = 0
    · rw [zp_pos ((nx x hx).mpr c0)]
      by_cases c1 : y = 0
      · rw [zp_pos ((nx y hy).mpr c1), zp_lt, if_pos c0, if_pos c0, if_pos c1]
      · rw [zp_neg (fun z => c1 ((nx y hy).mp z)), zp_lt, if_pos c0, if_neg c1]
    · rw [zp_neg (fun z => c0 ((nx x hx).mp z))]
      by_cases c1 : y = 0
      · rw [zp_pos ((nx y hy).mpr c1), zp_pos ((nx y hy).mpr c1), zp_lt, if_neg c0, if_neg c0, if_pos c1]
      · have ix : (nI (256 * p + 16 * y + x) - (16 : Int32)) - (1 : Int32) = nI (256 * p + 16 * y + x - 17) := by
          rw [show nI (256 * p + 16 * y + x) - (16 : Int32) = nI (256 * p + 16 * y + x - 16) from pk_sub (b := 16) (by omega), show nI (256 * p + 16 * y + x - 16) - (1 : Int32) = nI (256 * p + 16 * y + x - 16 - 1) from pk_sub (b := 1) (by omega)]
          congr 1
        rw [zp_neg (fun z => c1 ((nx y hy).mp z)), ix, zp_gd (zp_in (by omega) (by omega)), zp_cl (by omega), zp_lt, hH, hC (by omega) (by omega), if_neg c0, if_neg c1]
  have pre : f_E_look (nI p) (nI x) (nI y) G = f_E_look_103 2048 (nI x) (nI y) (nI (256 * p + 16 * y + x)) (nI (if y = 0 then h else u 0)) (nI (if x = 0 then h else l 0)) (nI (zl_a x 0 h u l 0)) (nI (zl_l 0 y h u l 0)) (0 : Int32) G := by
    have r98 : ∀ (x6 x7 x8 : Int32), f_E_look_80 (nI x) (nI y) (nI (256 * p + 16 * y + x)) (nI (if y = 0 then h else u 0)) x7 x8 G = f_E_look_103 2048 (nI x) (nI y) (nI (256 * p + 16 * y + x)) (nI (if y = 0 then h else u 0)) x7 x8 (nI (zl_l 0 y h u l 0)) (0 : Int32) G := by
      intro x6 x7 x8
      unfold f_E_look_80 f_E_look_98
      rw [zp_lt]
      by_cases c1 : y = 0
      · rw [zp_pos ((nx y hy).mpr c1), zp_bd (mid G rfl), zp_lt, zp_lt]
        have e : zl_l 0 y h u l 0 = h := by unfold zl_l; rw [if_pos rfl, if_pos c1]
        rw [e]
      · rw [zp_neg (fun z => c1 ((nx y hy).mp z)), zp_lt, zp_lt]
        have e : zl_l 0 y h u l 0 = (if y = 0 then h else u 0) := by unfold zl_l; rw [if_pos rfl]
        rw [e]
    have r39 : f_E_look_39 (nI x) (nI y) (nI (256 * p + 16 * y + x)) (nI (if y = 0 then h else u 0)) G = f_E_look_80 (nI x) (nI y) (nI (256 * p + 16 * y + x)) (nI (if y = 0 then h else u 0)) (nI (if x = 0 then h else l 0)) (nI (zl_a x 0 h u l 0)) G := by
      unfold f_E_look_39 f_E_look_62
      rw [zp_lt]
      by_cases c0 : x = 0
      · have e : zl_a x 0 h u l 0 = h := by unfold zl_a; rw [if_pos rfl, if_pos c0]
        rw [zp_pos ((nx x hx).mpr c0), zp_bd (mid G rfl), zp_lt, zp_pos ((nx x hx).mpr c0), zp_bd (mid G rfl), e, if_pos c0]
      · have e : zl_a x 0 h u l 0 = l 0 := by unfold zl_a; rw [if_pos rfl, if_neg c0]
        have hl0 : G 18 (256 * p + 16 * y + x - 1) = nI (l 0) := hL (by omega) 0 (by omega)
        rw [zp_neg (fun z => c0 ((nx x hx).mp z)), show nI (256 * p + 16 * y + x) - (1 : Int32) = nI (256 * p + 16 * y + x - 1) from pk_sub (b := 1) (by omega), zp_gd (zp_in (by omega) (by omega)), zp_cl (by omega), hl0, zp_lt, zp_neg (fun z => c0 ((nx x hx).mp z)), e, if_neg c0]
    have pl : ((nI p * (256 : Int32)) + (nI y * (16 : Int32))) + nI x = nI (256 * p + 16 * y + x) := by
      rw [show nI p * (256 : Int32) = nI (p * 256) from pk_mul p 256, show nI y * (16 : Int32) = nI (y * 16) from pk_mul y 16, nI_add, nI_add, Nat.mul_comm p 256, Nat.mul_comm y 16]
    have r0 : f_E_look (nI p) (nI x) (nI y) G = f_E_look_39 (nI x) (nI y) (nI (256 * p + 16 * y + x)) (nI (if y = 0 then h else u 0)) G := by
      unfold f_E_look f_P_placeOf
      rw [pl, zp_bd rfl, zp_lt]
      by_cases c1 : y = 0
      · rw [zp_pos ((nx y hy).mpr c1), zp_bd (mid G rfl), if_pos c1]
      · have hu0 : G 18 (256 * p + 16 * y + x - 16) = nI (u 0) := hU (by omega) 0 (by omega)
        rw [zp_neg (fun z => c1 ((nx y hy).mp z)), show nI (256 * p + 16 * y + x) - (16 : Int32) = nI (256 * p + 16 * y + x - 16) from pk_sub (b := 16) (by omega), zp_gd (zp_in (by omega) (by omega)), zp_cl (by omega), hu0, if_neg c1]
    rw [r0, r39, r98 0]
  rw [pre]
  show ∃ G', f_E_look_103 (2047 + 1) _ _ _ _ _ _ _ (nI 0) G = _ ∧ _
  rw [step _ _ 2047 0 G (by omega) rfl]
  show ∃ G', f_E_look_103 (2046 + 1) _ _ _ _ _ _ _ (nI 1) _ = _ ∧ _
  rw [step _ _ 2046 1 _ (by omega) (by rw [zp_ur (by omega), zp_ur (by omega)])]
  show ∃ G', f_E_look_103 (2045 + 1) _ _ _ _ _ _ _ (nI 2) _ = _ ∧ _
  rw [step _ _ 2045 2 _ (by omega) (by rw [zp_ur (by omega), zp_ur (by omega), zp_ur (by omega), zp_ur (by omega)])]
  show ∃ G', f_E_look_103 (2044 + 1) _ _ _ _ _ _ _ (nI 3) _ = _ ∧ _
  rw [step _ _ 2044 3 _ (by omega) (by rw [zp_ur (by omega), zp_ur (by omega), zp_ur (by omega), zp_ur (by omega), zp_ur (by omega), zp_ur (by omega)])]
  show ∃ G', f_E_look_103 (2043 + 1) _ _ _ _ _ _ _ (nI 4) _ = _ ∧ _
  rw [fin 2043 _ (by rw [zp_ur (by omega), zp_ur (by omega), zp_ur (by omega), zp_ur (by omega), zp_ur (by omega), zp_ur (by omega), zp_ur (by omega), zp_ur (by omega)])]
  refine ⟨_, rfl, fun k hk => ?_, fun k hk => ?_, by simp [zp_at]⟩
  · have : k = 0 ∨ k = 1 ∨ k = 2 ∨ k = 3 := by omega
    rcases this with rfl | rfl | rfl | rfl <;> simp [zp_at]
  · have : k = 0 ∨ k = 1 ∨ k = 2 ∨ k = 3 := by omega
    rcases this with rfl | rfl | rfl | rfl <;> simp [zp_at]
