/-! one block, whole; where the units lie -/
def zt_ux (i : Nat) : Nat := i % 2 + 2 * (i / 4 % 2)
def zt_uy (i : Nat) : Nat := i / 2 % 2 + 2 * (i / 8)
theorem zt_xy : ∀ i, i < 16 → ((4 : Int32) * (nI i &&& (1 : Int32))) + ((2 : Int32) * (nI i &&& (4 : Int32))) = nI (4 * zt_ux i) ∧ ((2 : Int32) * (nI i &&& (2 : Int32))) + (nI i &&& (8 : Int32)) = nI (4 * zt_uy i) := by decide +kernel
theorem zt_zi : ∀ i, i < 16 → zt_z (zt_ux i) (zt_uy i) = i ∧ zt_ux i < 4 ∧ zt_uy i < 4 := by decide +kernel
theorem zt_zinv : ∀ ux, ux < 4 → ∀ uy, uy < 4 → zt_ux (zt_z ux uy) = ux ∧ zt_uy (zt_z ux uy) = uy ∧ zt_z ux uy < 16 := by decide +kernel
theorem zt_fit : ∀ i, i < 16 → ∀ b, b < 5 → (b = 1 ∨ b = 2 ∨ b = 4) → i % (b * b) = 0 → zt_ux i + b ≤ 4 ∧ zt_uy i + b ≤ 4 ∧ i + b * b ≤ 16 := by
  intro i hi b h5 hb ha
  unfold zt_ux zt_uy
  rcases hb with rfl | rfl | rfl <;> omega
theorem zt_geo1 : ∀ i, i < 16 → ∀ b, b < 5 → (b = 1 ∨ b = 2 ∨ b = 4) → i % (b * b) = 0 → ∀ ux, ux < 4 → ∀ uy, uy < 4 → (zt_ux i ≤ ux ∧ ux < zt_ux i + b ∧ zt_uy i ≤ uy ∧ uy < zt_uy i + b) → 0 < uy → zt_z ux (uy - 1) < i ∨ (zt_ux i ≤ ux ∧ ux < zt_ux i + b ∧ zt_uy i ≤ uy - 1 ∧ uy - 1 < zt_uy i + b) := by
  intro i hi b h5 hb ha ux hux uy huy h hc
  unfold zt_ux zt_uy at *
  unfold zt_z
  rcases hb with rfl | rfl | rfl <;> omega
theorem zt_geo2 : ∀ i, i < 16 → ∀ b, b < 5 → (b = 1 ∨ b = 2 ∨ b = 4) → i % (b * b) = 0 → ∀ ux, ux < 4 → ∀ uy, uy < 4 → (zt_ux i ≤ ux ∧ ux < zt_ux i + b ∧ zt_uy i ≤ uy ∧ uy < zt_uy i + b) → 0 < ux → zt_z (ux - 1) uy < i ∨ (zt_ux i ≤ ux - 1 ∧ ux - 1 < zt_ux i + b ∧ zt_uy i ≤ uy ∧ uy < zt_uy i + b) := by
  intro i hi b h5 hb ha ux hux uy huy h hc
  unfold zt_ux zt_uy at *
  unfold zt_z
  rcases hb with rfl | rfl | rfl <;> omega
theorem zt_geo3 : ∀ i, i < 16 → ∀ b, b < 5 → (b = 1 ∨ b = 2 ∨ b = 4) → i % (b * b) = 0 → ∀ ux, ux < 4 → ∀ uy, uy < 4 → (zt_ux i ≤ ux ∧ ux < zt_ux i + b ∧ zt_uy i ≤ uy ∧ uy < zt_uy i + b) → 0 < ux ∧ 0 < uy → zt_z (ux - 1) (uy - 1) < i ∨ (zt_ux i ≤ ux - 1 ∧ ux - 1 < zt_ux i + b ∧ zt_uy i ≤ uy - 1 ∧ uy - 1 < zt_uy i + b) := by
  intro i hi b h5 hb ha ux hux uy huy h hc
  unfold zt_ux zt_uy at *
  unfold zt_z
  rcases hb with rfl | rfl | rfl <;> omega
theorem zt_cover : ∀ i, i < 16 → ∀ b, b < 5 → (b = 1 ∨ b = 2 ∨ b = 4) → i % (b * b) = 0 → ∀ ux, ux < 4 → ∀ uy, uy < 4 → zt_z ux uy < i + b * b → zt_z ux uy < i ∨ (zt_ux i ≤ ux ∧ ux < zt_ux i + b ∧ zt_uy i ≤ uy ∧ uy < zt_uy i + b) := by
  intro i hi b h5 hb ha ux hux uy huy h
  unfold zt_z at *
  unfold zt_ux zt_uy
  rcases hb with rfl | rfl | rfl <;> omega
theorem zt_geoI {i b : Nat} (hi : i < 16) (hb : b = 1 ∨ b = 2 ∨ b = 4) (ha : i % (b * b) = 0) : zt_geo i (zt_ux i) (zt_uy i) b := by
  intro ux uy h
  obtain ⟨f1, f2, -⟩ := zt_fit i hi b (by omega) hb ha
  obtain ⟨h1, h2, h3, h4⟩ := id h
  exact ⟨fun z => zt_geo1 i hi b (by omega) hb ha ux (by omega) uy (by omega) h z, fun z => zt_geo2 i hi b (by omega) hb ha ux (by omega) uy (by omega) h z, fun z1 z2 => zt_geo3 i hi b (by omega) hb ha ux (by omega) uy (by omega) h ⟨z1, z2⟩⟩
theorem zt_outB {x y w h : Nat} {x3 : Int32} {G : zx_G} (h18 : G 32 18 = nI w) (h19 : G 32 19 = nI h) (hw : w ≤ 16) (hh : h ≤ 16) (hx : x < 100) (hy : y < 100) (ho : w ≤ x ∨ h ≤ y ∨ ¬ G 32 10 = 0) : f_M_readBlock (nI x) (nI y) x3 G = some (0, G) := by
  unfold f_M_readBlock
  rw [h18, h19]
  by_cases c1 : w ≤ x
  · rw [zp_pos (nI_le c1 (by omega))]; rfl
  · rw [zp_neg (nI_ge (by omega) (by omega))]
    by_cases c2 : h ≤ y
    · rw [zp_pos (nI_le c2 (by omega))]; rfl
    · rw [zp_neg (nI_ge (by omega) (by omega))]
      have c3 : ¬ G 32 10 = 0 := by rcases ho with q | q | q; exact absurd q c1; exact absurd q c2; exact q
      rw [zp_neg c3]
      rfl
theorem zt_one {fr to s q t y w h bt n i b : Nat} {x1 x2 : Int32} {Gc Gm : zx_G} {k46 : Int32 → Int32 → zx_G → Option (Int32 × zx_G)} (hY : zt_Y fr to s q t y w h i bt n Gc Gm) (hi : i < 16) (hb : b = 1 ∨ b = 2 ∨ b = 4) (ha : i % (b * b) = 0) (hxw : 4 * zt_ux i < w) (hyh : 4 * zt_uy i < h) (hbt : bt + 600000 < 2 ^ 26) :
    ∃ (Gc' Gm' : zx_G) (bt' : Nat), bt' ≤ bt + 320000 ∧ f_M_readBlock (nI (4 * zt_ux i)) (nI (4 * zt_uy i)) (nI (4 * b)) Gm = some (0, Gm') ∧ ((zx_bd (f_T_readBlock (nI (4 * zt_ux i)) (nI (4 * zt_uy i)) (nI (4 * b)) Gc) (fun r G => f_T_read_136 k46 2048 x1 x2 (nI (4 * zt_ux i)) (nI (4 * zt_uy i)) r (0 : Int32) G) = f_T_read_171 k46 x1 x2 Gc' ∧ zt_Y fr to s q t y w h (i + b * b) bt' (n + 1) Gc' Gm') ∨ (zx_bd (f_T_readBlock (nI (4 * zt_ux i)) (nI (4 * zt_uy i)) (nI (4 * b)) Gc) (fun r G => f_T_read_136 k46 2048 x1 x2 (nI (4 * zt_ux i)) (nI (4 * zt_uy i)) r (0 : Int32) G) = some (8, Gc') ∧ zt_f Gm Gm')) := by
  obtain ⟨f1, f2, f3⟩ := zt_fit i hi b (by omega) hb ha
  have hg := zt_geoI hi hb ha
  have hz := (zt_zi i hi).1
  have hY' : zt_Y fr to s q t y w h (zt_z (zt_ux i) (zt_uy i)) bt n Gc Gm := by rw [hz]; exact hY
  obtain ⟨G1, M1, bt1, md0, md1, ty, a1, a2, a3, a4, a5, a6, a7, a8, a9, a10, a11⟩ := zt_head hY' (by omega) hb f1 f2 (by rw [hz]; exact hg) hxw hyh (by omega)
  rw [hz] at a7 a10
  obtain ⟨⟨hq, ht, hy1, hw1, hw2, hh1, hh2⟩, -⟩ := id a6
  have hX : zt_X fr to s t (1 + 2 * y) w h i (zt_ux i) (zt_uy i) b 0 0 0 bt1 G1 M1 G1 M1 := by
    refine ⟨a4, a5, a7.mono (fun p ux uy z => ?_) rfl rfl, fun _ _ => rfl, fun _ _ => rfl, fun _ _ => rfl⟩
    obtain ⟨z1, z2, z3, z4⟩ := z
    refine ⟨z1, z2, z3, ?_⟩
    rcases z4 with z4 | ⟨z4, z5⟩
    · exact z4
    · obtain ⟨z6, z7, z8, z9⟩ := z4
      omega
  obtain ⟨G2, M2, bt2, b1, b2, b3⟩ := zt_planes (k46 := k46) (x1 := x1) (x2 := x2) hb (by omega) (by omega) hg a6 a8 (1 + 2 * y) 0 2048 2048 bt1 G1 M1 (by omega) (by omega) (by omega) (by omega) hX
  have hbb : b * b ≥ 1 := by rcases hb with rfl | rfl | rfl <;> omega
  have eM : f_M_readBlock (nI (4 * zt_ux i)) (nI (4 * zt_uy i)) (nI (4 * b)) Gm = some (0, M2) := a3.trans b2
  refine ⟨G2, M2, bt2, by omega, eM, ?_⟩
  rw [zp_bd a2]
  rw [Nat.add_sub_cancel] at b3
  rcases b3 with ⟨b3, b4⟩ | ⟨b3, b4⟩
  · left
    obtain ⟨c1, c2, c3, c4⟩ := id b4
    obtain ⟨-, -, -, -, ⟨n1, -, -⟩, -⟩ := id hY
    refine ⟨b3, c1, c2, c4.H a6, c3.mono (fun p ux uy z => ?_) rfl rfl, ⟨by omega, by rw [c4.1 17 (by omega)]; exact a9, by rw [c4.2.2 37 (by omega)]; exact a8.1.2.2.2.2.2⟩, ?_, ?_⟩
    · obtain ⟨z1, z2, z3, z4⟩ := z
      refine ⟨z1, z2, z3, ?_⟩
      rcases zt_cover i hi b (by omega) hb ha ux (by omega) uy (by omega) z4 with z5 | z5
      · exact Or.inl z5
      · exact Or.inr ⟨z5, Or.inl z1⟩
    · rw [c4.1 19 (by omega), c4.2.1 44 (by omega)]
      intro ux uy h1 h2 h3
      exact a10 ux uy h1 h2 (zt_cover i hi b (by omega) hb ha ux (by omega) uy (by omega) h3)
    · rw [c4.1 20 (by omega), c4.2.1 45 (by omega)]
      exact a11
  · right
    have v := v_M_readBlock _ _ _ _ eM
    exact ⟨b3, b4.1, v 32 16 (by decide) (by decide), v 32 18 (by decide) (by decide), v 32 19 (by decide) (by decide)⟩
