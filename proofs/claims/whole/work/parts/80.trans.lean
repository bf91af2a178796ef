/-! the differences behind the reading: class and reference come to the same 16 numbers -/
def zd_sc (q i : Nat) : Int32 := if i = 0 then (4 : Int32) + ((2 : Int32) * nI q) else (4 : Int32) + ((3 : Int32) * nI q)
theorem zd_M_scale {q ty : Nat} (hq : q ≤ 63) {B : zx_G} (G : zx_G) (hI : zd_I q B G) : ∃ G', f_M_differences_192 2048 (nI ty) (0 : Int32) G = f_M_differences_257 (nI ty) G' ∧ zd_I q B G' ∧ ∀ k, k < 16 → G' 47 k = if q = 0 then G 47 k else zd_lim (32767 : Int32) (G 47 k * zd_sc q k) := by
  by_cases c0 : q = 0
  · refine ⟨G, ?_, hI, fun k _ => by rw [if_pos c0]⟩
    show f_M_differences_192 (2047 + 1) (nI ty) (0 : Int32) G = _
    rw [f_M_differences_192, zp_neg (by decide), hI.q, zp_pos (by rw [c0]; rfl)]
  · obtain ⟨G', a1, a2, a3, -⟩ := zd_map (fun n x G => f_M_differences_192 n (nI ty) x G) (fun G => f_M_differences_257 (nI ty) G) 47 16 (fun i v => zd_lim (32767 : Int32) (v * zd_sc q i)) (zd_I q B) (fun G k x h => h.up k x)
      (fun n i G hi hG => by
        show f_M_differences_192 (n + 1) (nI ty) (nI i) G = f_M_differences_192 n (nI ty) (nI (i + 1)) _
        rw [f_M_differences_192, zp_neg (zd_c16 hi), hG.q, zp_neg (nI_ne0 (by omega) (by omega)), zp_gd (zp_in hi (by omega))]
        unfold f_M_differences_243 zd_sc
        by_cases c1 : i = 0
        · subst c1
          rw [zp_neg (fun z => z rfl), zp_bd (zd_limited _ _ _), zp_gd (zp_in hi (by omega)), zp_lt, zp_lt, zp_cl (by omega), nI_1, if_pos rfl]
        · rw [zp_pos (nI_ne0 (by omega) (by omega)), zp_bd (zd_limited _ _ _), zp_gd (zp_in hi (by omega)), zp_lt, zp_lt, zp_cl (by omega), nI_1, if_neg c1])
      (fun n G _ => by
        show f_M_differences_192 (n + 1) (nI ty) (nI 16) G = _
        rw [f_M_differences_192, zp_pos (by decide)]) 16 0 2048 G hI (by omega) (by omega)
    exact ⟨G', a1, a2, fun k hk => by rw [a3 k, if_pos (by omega), if_neg c0]⟩
theorem zd_C_trans {q ty : Nat} (hq : q ≤ 63) (ht : ty ≤ 3) (G : zx_G) : ∃ (G' : zx_G) (V1 V2 : Nat → Int32), f_D_transform (nI q) (nI ty) G = some (0, G') ∧ (∀ k, k < 16 → V1 k = zd_lim (32767 : Int32) (G 24 k * zd_sc q k)) ∧ (∀ k, k < 16 → V2 k = zd_lim (32767 : Int32) (zd_rows (zd_FC (if ty % 2 = 1 then 1 else 0)) V1 k)) ∧ (∀ k, k < 16 → G' 24 k = (zd_cols (zd_FC (if ty / 2 = 1 then 1 else 0)) V2 k + (8 : Int32)) >>> ((4 : Int32) &&& 31)) := by
  obtain ⟨G1, a1, -, a3, -⟩ := zd_map (fun n x G => f_D_transform_2 n (nI q) (nI ty) x G) (fun G => zx_bd (f_D_limitAll G) fun r_3 G_2 => zx_lt (0 : Int32) fun x3_5 => f_D_transform_46 2048 (nI ty) x3_5 G_2) 24 16 (fun i v => v * zd_sc q i) (fun _ => True) (fun _ _ _ _ => trivial)
    (fun n i G hi _ => by
      show f_D_transform_2 (n + 1) (nI q) (nI ty) (nI i) G = f_D_transform_2 n (nI q) (nI ty) (nI (i + 1)) _
      rw [f_D_transform_2, zp_neg (zd_c16 hi), zp_gd (zp_in hi (by omega))]
      unfold f_D_transform_32 zd_sc
      by_cases c1 : i = 0
      · subst c1
        rw [zp_neg (fun z => z rfl), zp_gd (zp_in hi (by omega)), zp_lt, zp_lt, zp_cl (by omega), nI_1, if_pos rfl]
      · rw [zp_pos (nI_ne0 (by omega) (by omega)), zp_gd (zp_in hi (by omega)), zp_lt, zp_lt, zp_cl (by omega), nI_1, if_neg c1])
    (fun n G _ => by
      show f_D_transform_2 (n + 1) (nI q) (nI ty) (nI 16) G = _
      rw [f_D_transform_2, zp_pos (by decide)]) 16 0 2048 G trivial (by omega) (by omega)
  obtain ⟨G2, b1, b2⟩ := zd_limitAll G1
  obtain ⟨G3, c1, -, c3⟩ := zd_4C (fun n x G => f_D_transform_46 n (nI ty) x G) (fun G => zx_bd (f_D_limitAll G) fun r_3 G_2 => zx_lt (0 : Int32) fun x3_5 => f_D_transform_82 2048 (nI ty) x3_5 G_2) (fun i G G' => f_D_transformLine (nI (4 * i)) (nI 1) (if ty % 2 = 1 then 1 else 0) G = some (0, G')) (zd_FC (if ty % 2 = 1 then 1 else 0)) 24 4 1 (fun _ => True)
    (fun i G hi _ => by
      obtain ⟨G', e1, e2⟩ := zd_lineL (a := 4 * i) (st := 1) (by omega) (if ty % 2 = 1 then 1 else 0) G
      exact ⟨G', e1, trivial, e2⟩)
    (fun n i G G' hi hl _ => by
      show f_D_transform_46 (n + 1) (nI ty) (nI i) G = f_D_transform_46 n (nI ty) (nI (i + 1)) G'
      rw [f_D_transform_46, zp_neg (zd_c4 hi), show (4 : Int32) * nI i = nI (4 * i) from pk_mul 4 i, show nI ty &&& (1 : Int32) = nI (ty % 2) from pk_andN (by omega) 1 rfl]
      unfold f_D_transform_67
      by_cases c : ty % 2 = 1
      · rw [if_pos c] at hl
        rw [zp_neg (by rw [c]; decide), zp_bd (show f_D_transformLine (nI (4 * i)) (1 : Int32) (1 : Int32) G = some (0, G') from hl), zp_lt, nI_1]
      · rw [if_neg c] at hl
        rw [zp_pos (by rw [show ty % 2 = 0 by omega]; rfl), zp_bd (show f_D_transformLine (nI (4 * i)) (1 : Int32) (0 : Int32) G = some (0, G') from hl), zp_lt, nI_1])
    (fun n G _ => by
      show f_D_transform_46 (n + 1) (nI ty) (nI 4) G = _
      rw [f_D_transform_46, zp_pos (by decide)]) G2 trivial
  obtain ⟨G4, d1, d2⟩ := zd_limitAll G3
  obtain ⟨G5, e1, -, e3⟩ := zd_4C (fun n x G => f_D_transform_82 n (nI ty) x G) (fun G => f_D_transform_112 2048 (0 : Int32) G) (fun i G G' => f_D_transformLine (nI (1 * i)) (nI 4) (if ty / 2 = 1 then 1 else 0) G = some (0, G')) (zd_FC (if ty / 2 = 1 then 1 else 0)) 24 1 4 (fun _ => True)
    (fun i G hi _ => by
      obtain ⟨G', e1, e2⟩ := zd_lineL (a := 1 * i) (st := 4) (by omega) (if ty / 2 = 1 then 1 else 0) G
      exact ⟨G', e1, trivial, e2⟩)
    (fun n i G G' hi hl _ => by
      show f_D_transform_82 (n + 1) (nI ty) (nI i) G = f_D_transform_82 n (nI ty) (nI (i + 1)) G'
      rw [Nat.one_mul] at hl
      rw [f_D_transform_82, zp_neg (zd_c4 hi)]
      unfold f_D_transform_101
      have k2 : ∀ t, t ≤ 3 → (nI t &&& (2 : Int32)) = nI (2 * (t / 2)) := by decide
      rw [k2 ty ht]
      by_cases c : ty / 2 = 1
      · rw [if_pos c] at hl
        rw [zp_neg (by rw [c]; decide), zp_bd (show f_D_transformLine (nI i) (4 : Int32) (1 : Int32) G = some (0, G') from hl), zp_lt, nI_1]
      · rw [if_neg c] at hl
        rw [zp_pos (by rw [show ty / 2 = 0 by omega]; rfl), zp_bd (show f_D_transformLine (nI i) (4 : Int32) (0 : Int32) G = some (0, G') from hl), zp_lt, nI_1])
    (fun n G _ => by
      show f_D_transform_82 (n + 1) (nI ty) (nI 4) G = _
      rw [f_D_transform_82, zp_pos (by decide), zp_lt]) G4 trivial
  obtain ⟨G6, f1, -, f3, -⟩ := zd_map (fun n x G => f_D_transform_112 n x G) (fun G => some ((0 : Int32), G)) 24 16 (fun _ v => (v + (8 : Int32)) >>> ((4 : Int32) &&& 31)) (fun _ => True) (fun _ _ _ _ => trivial)
    (fun n i G hi _ => by
      show f_D_transform_112 (n + 1) (nI i) G = f_D_transform_112 n (nI (i + 1)) _
      rw [f_D_transform_112, zp_neg (zd_c16 hi), zp_gd (zp_in hi (by omega)), zp_gd (zp_in hi (by omega)), zp_lt, zp_lt, zp_cl (by omega), nI_1])
    (fun n G _ => by
      show f_D_transform_112 (n + 1) (nI 16) G = _
      rw [f_D_transform_112, zp_pos (by decide)]) 16 0 2048 G5 trivial (by omega) (by omega)
  refine ⟨G6, G2 24, G4 24, ?_, fun k hk => by rw [b2 k hk, a3 k, if_pos (by omega)], fun k hk => by rw [d2 k hk, c3]; rfl, fun k hk => by rw [f3 k, if_pos (by omega), e3]; rfl⟩
  have s1 : f_D_transform (nI q) (nI ty) G = zx_bd (f_D_limitAll G1) fun r_3 G_2 => zx_lt (0 : Int32) fun x3_5 => f_D_transform_46 2048 (nI ty) x3_5 G_2 := by
    unfold f_D_transform
    rw [zp_lt]
    exact a1
  rw [s1, zp_bd b1, zp_lt]
  have s2 : f_D_transform_46 2048 (nI ty) (0 : Int32) G2 = zx_bd (f_D_limitAll G3) fun r_3 G_2 => zx_lt (0 : Int32) fun x3_5 => f_D_transform_82 2048 (nI ty) x3_5 G_2 := c1
  rw [s2, zp_bd d1, zp_lt]
  exact e1.trans f1
theorem zd_trans {q ty : Nat} (hq : q ≤ 63) (ht : ty ≤ 3) {B Gc Gm : zx_G} (hE : zd_eq Gc Gm) (hI : zd_I q B Gm) : ∃ Gc' Gm', (if q = 0 then f_D_mix Gc else f_D_transform (nI q) (nI ty) Gc) = some (0, Gc') ∧ f_M_differences_192 2048 (nI ty) (0 : Int32) Gm = some (0, Gm') ∧ zd_eq Gc' Gm' ∧ zd_I q B Gm' := by
  obtain ⟨G1, a1, a2, a3⟩ := zd_M_scale (ty := ty) hq Gm hI
  obtain ⟨G2, b1, b2, b3⟩ := zd_M_rows hq ht G1 a2
  obtain ⟨G3, c1, c2, c3⟩ := zd_M_cols hq ht G2 b2
  obtain ⟨G4, d1, d0, d2⟩ := zd_M_end hq G3 c2
  have eM : f_M_differences_192 2048 (nI ty) (0 : Int32) Gm = some (0, G4) := a1.trans (b1.trans (c1.trans d1))
  by_cases c0 : q = 0
  · obtain ⟨Gc', e1, e2⟩ := zd_mixC Gc
    refine ⟨Gc', G4, by rw [if_pos c0]; exact e1, eM, fun k hk => ?_, d0⟩
    have h1 : zd_h1 q ty = 0 := by unfold zd_h1; rw [if_pos c0]
    have h2 : zd_h2 q ty = 0 := by unfold zd_h2; rw [if_pos c0]
    have hF : ∀ (m : Int32) (r : Nat → Int32) (i : Nat), zd_FM 0 0 r i = zd_FM 0 m r i := fun m r i => by unfold zd_FM; rw [if_pos rfl, if_pos rfl]
    have hx : zd_cols (zd_FM 0 0) (zd_rows (zd_FM 0 0) (Gc 24)) k = zd_cols (zd_FM 0 (2000000000 : Int32)) (zd_rows (zd_FM 0 (32767 : Int32)) (G1 47)) k :=
      zd_colsE (fun j hj => zd_rowsE (fun z => z) (fun j hj => by rw [hE j hj, a3 j hj, if_pos c0]) (fun r i => hF (32767 : Int32) r i) j hj) (fun r i => hF (2000000000 : Int32) r i) k hk
    rw [e2 k hk, d2 k hk, if_pos c0, c3, b3, h1, h2, hx]
  · obtain ⟨Gc', V1, V2, e1, e2, e3, e4⟩ := zd_C_trans hq ht Gc
    refine ⟨Gc', G4, by rw [if_neg c0]; exact e1, eM, fun k hk => ?_, d0⟩
    have p1 : zd_h1 q ty ≠ 0 ∧ ((zd_h1 q ty = 1 ∧ (if ty % 2 = 1 then (1 : Int32) else 0) = 1) ∨ (zd_h1 q ty = 2 ∧ (if ty % 2 = 1 then (1 : Int32) else 0) = 0)) := by
      unfold zd_h1
      rw [if_neg c0]
      by_cases c : ty % 2 = 1
      · rw [if_pos c, if_pos c]; exact ⟨by omega, Or.inl ⟨rfl, rfl⟩⟩
      · rw [if_neg c, if_neg c]; exact ⟨by omega, Or.inr ⟨rfl, rfl⟩⟩
    have p2 : zd_h2 q ty ≠ 0 ∧ ((zd_h2 q ty = 1 ∧ (if ty / 2 = 1 then (1 : Int32) else 0) = 1) ∨ (zd_h2 q ty = 2 ∧ (if ty / 2 = 1 then (1 : Int32) else 0) = 0)) := by
      unfold zd_h2
      rw [if_neg c0]
      by_cases c : ty / 2 = 1
      · rw [if_pos c, if_pos c]; exact ⟨by omega, Or.inl ⟨rfl, rfl⟩⟩
      · rw [if_neg c, if_neg c]; exact ⟨by omega, Or.inr ⟨rfl, rfl⟩⟩
    have hx : zd_cols (zd_FC (if ty / 2 = 1 then 1 else 0)) V2 k = zd_cols (zd_FM (zd_h2 q ty) (2000000000 : Int32)) (zd_rows (zd_FM (zd_h1 q ty) (32767 : Int32)) (G1 47)) k := by
      refine zd_colsE (fun j hj => ?_) (fun r i => ?_) k hk
      · rw [e3 j hj]
        refine zd_rowsE (zd_lim (32767 : Int32)) (fun j hj => by rw [e2 j hj, a3 j hj, if_neg c0, hE j hj]) (fun r i => ?_) j hj
        unfold zd_FM
        rw [if_neg p1.1, zd_yFC _ _ p1.2]
      · unfold zd_FM
        rw [if_neg p2.1, zd_yFC _ _ p2.2]
        unfold zd_y
        rw [zd_big]
    rw [e4 k hk, d2 k hk, if_neg c0, c3, b3, hx]
