/-! the passes of the differences: class and reference -/
theorem zd_maxmin (v : Int32) : zx_mmax (-32767 : Int32) (zx_mmin (32767 : Int32) v) = zd_lim (32767 : Int32) v := by
  unfold zx_mmax zx_mmin zd_lim
  have e : (-(32767 : Int32)) = (-32767 : Int32) := by decide
  rw [e]
  by_cases h1 : v < (32767 : Int32)
  · rw [if_pos h1, if_pos (Int32.le_of_lt h1)]
    by_cases h2 : (-32767 : Int32) < v
    · rw [if_pos h2, if_pos (Int32.le_of_lt h2)]
    · rw [if_neg h2]
      by_cases h3 : (-32767 : Int32) ≤ v
      · rw [if_pos h3]; exact Int32.le_antisymm h3 (Int32.not_lt.mp h2)
      · rw [if_neg h3]
  · rw [if_neg h1, if_pos (by decide)]
    have h4 : (32767 : Int32) ≤ v := Int32.not_lt.mp h1
    rw [if_pos (Int32.le_trans (by decide) h4)]
    by_cases h5 : v ≤ (32767 : Int32)
    · rw [if_pos h5]; exact Int32.le_antisymm h4 h5
    · rw [if_neg h5]
theorem zd_c16 {i : Nat} (hi : i < 16) : ¬ (16 : Int32) ≤ nI i := fun q => by have q2 := (zp_cle (c := (16 : Int32)) 16 rfl (by omega) (by omega)).mp q; omega
theorem zd_c4 {i : Nat} (hi : i < 4) : ¬ (4 : Int32) ≤ nI i := fun q => by have q2 := (zp_cle (c := (4 : Int32)) 4 rfl (by omega) (by omega)).mp q; omega
theorem zd_limitAll (G : zx_G) : ∃ G', f_D_limitAll G = some (0, G') ∧ ∀ k, k < 16 → G' 24 k = zd_lim (32767 : Int32) (G 24 k) := by
  obtain ⟨G', a1, -, a3, -⟩ := zd_map (fun n x G => f_D_limitAll_2 n x G) (fun G => some ((0 : Int32), G)) 24 16 (fun _ v => zd_lim (32767 : Int32) v) (fun _ => True) (fun _ _ _ _ => trivial)
    (fun n i G hi _ => by
      show f_D_limitAll_2 (n + 1) (nI i) G = f_D_limitAll_2 n (nI (i + 1)) _
      rw [f_D_limitAll_2, zp_neg (zd_c16 hi), zp_gd (zp_in hi (by omega)), zp_gd (zp_in hi (by omega)), zp_lt, zp_lt, zp_cl (by omega), zd_maxmin, nI_1])
    (fun n G _ => by
      show f_D_limitAll_2 (n + 1) (nI 16) G = _
      rw [f_D_limitAll_2, zp_pos (by decide)]) 16 0 2048 G trivial (by omega) (by omega)
  refine ⟨G', ?_, fun k hk => by rw [a3 k, if_pos (by omega)]⟩
  unfold f_D_limitAll
  rw [zp_lt]
  exact a1
/-- four lines of the class, one behind another -/
theorem zd_4C {R : Type} (L : Nat → Int32 → zx_G → Option R) (E : zx_G → Option R) (line : Nat → zx_G → zx_G → Prop) (F : (Nat → Int32) → Nat → Int32) (row a0 st : Nat) (I : zx_G → Prop)
    (hl : ∀ i G, i < 4 → I G → ∃ G', line i G G' ∧ I G' ∧ G' row = zd_L F (G row) (a0 * i) st) (hs : ∀ n i G G', i < 4 → line i G G' → I G → L (n + 1) (nI i) G = L n (nI (i + 1)) G') (he : ∀ n G, I G → L (n + 1) (nI 4) G = E G) (G : zx_G) (hG : I G) :
    ∃ G', L 2048 (nI 0) G = E G' ∧ I G' ∧ G' row = zd_L F (zd_L F (zd_L F (zd_L F (G row) (a0 * 0) st) (a0 * 1) st) (a0 * 2) st) (a0 * 3) st := by
  obtain ⟨G1, b1, c1, d1⟩ := hl 0 G (by omega) hG
  obtain ⟨G2, b2, c2, d2⟩ := hl 1 G1 (by omega) c1
  obtain ⟨G3, b3, c3, d3⟩ := hl 2 G2 (by omega) c2
  obtain ⟨G4, b4, c4, d4⟩ := hl 3 G3 (by omega) c3
  refine ⟨G4, ?_, c4, by rw [d4, d3, d2, d1]⟩
  rw [hs 2047 0 G G1 (by omega) b1 hG, hs 2046 1 G1 G2 (by omega) b2 c1, hs 2045 2 G2 G3 (by omega) b3 c2, hs 2044 3 G3 G4 (by omega) b4 c3, he 2043 G4 c4]
theorem zd_mixC (G : zx_G) : ∃ G', f_D_mix G = some (0, G') ∧ ∀ k, k < 16 → G' 24 k = (zd_cols (zd_FM 0 0) (zd_rows (zd_FM 0 0) (G 24)) k) >>> ((2 : Int32) &&& 31) := by
  obtain ⟨G1, a1, -, a3⟩ := zd_4C (fun n x G => f_D_mix_2 n x G) (fun G => f_D_mix_23 2048 (0 : Int32) G) (fun i G G' => f_D_mixLine (nI (4 * i)) (nI 1) G = some (0, G')) (zd_FM 0 0) 24 4 1 (fun _ => True)
    (fun i G hi _ => by
      obtain ⟨G', e1, e2⟩ := zd_mixL (a := 4 * i) (st := 1) (by omega) G
      exact ⟨G', e1, trivial, e2⟩)
    (fun n i G G' hi hl _ => by
      show f_D_mix_2 (n + 1) (nI i) G = f_D_mix_2 n (nI (i + 1)) G'
      rw [f_D_mix_2, zp_neg (zd_c4 hi), show (4 : Int32) * nI i = nI (4 * i) from pk_mul 4 i, zp_bd (show f_D_mixLine (nI (4 * i)) (1 : Int32) G = some (0, G') from hl), zp_lt, nI_1])
    (fun n G _ => by
      show f_D_mix_2 (n + 1) (nI 4) G = _
      rw [f_D_mix_2, zp_pos (by decide), zp_lt]) G trivial
  obtain ⟨G2, b1, -, b3⟩ := zd_4C (fun n x G => f_D_mix_23 n x G) (fun G => f_D_mix_42 2048 (0 : Int32) G) (fun i G G' => f_D_mixLine (nI (1 * i)) (nI 4) G = some (0, G')) (zd_FM 0 0) 24 1 4 (fun _ => True)
    (fun i G hi _ => by
      obtain ⟨G', e1, e2⟩ := zd_mixL (a := 1 * i) (st := 4) (by omega) G
      exact ⟨G', e1, trivial, e2⟩)
    (fun n i G G' hi hl _ => by
      show f_D_mix_23 (n + 1) (nI i) G = f_D_mix_23 n (nI (i + 1)) G'
      rw [Nat.one_mul] at hl
      rw [f_D_mix_23, zp_neg (zd_c4 hi), zp_bd (show f_D_mixLine (nI i) (4 : Int32) G = some (0, G') from hl), zp_lt, nI_1])
    (fun n G _ => by
      show f_D_mix_23 (n + 1) (nI 4) G = _
      rw [f_D_mix_23, zp_pos (by decide), zp_lt]) G1 trivial
  obtain ⟨G3, c1, -, c3, -⟩ := zd_map (fun n x G => f_D_mix_42 n x G) (fun G => some ((0 : Int32), G)) 24 16 (fun _ v => v >>> ((2 : Int32) &&& 31)) (fun _ => True) (fun _ _ _ _ => trivial)
    (fun n i G hi _ => by
      show f_D_mix_42 (n + 1) (nI i) G = f_D_mix_42 n (nI (i + 1)) _
      rw [f_D_mix_42, zp_neg (zd_c16 hi), zp_gd (zp_in hi (by omega)), zp_gd (zp_in hi (by omega)), zp_lt, zp_lt, zp_cl (by omega), nI_1])
    (fun n G _ => by
      show f_D_mix_42 (n + 1) (nI 16) G = _
      rw [f_D_mix_42, zp_pos (by decide)]) 16 0 2048 G2 trivial (by omega) (by omega)
  refine ⟨G3, ?_, fun k hk => ?_⟩
  · unfold f_D_mix
    rw [zp_lt]
    exact a1.trans (b1.trans c1)
  · rw [c3 k, if_pos (by omega), b3, a3]
    rfl
