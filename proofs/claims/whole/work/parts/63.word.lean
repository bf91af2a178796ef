/-! word -/
theorem zp_upd {f : Nat → Int32} {k j : Nat} {x : Int32} : upd f k x j = if j = k then x else f j := rfl
def zp_FB (f g : Nat → Int32) : Prop := (∀ k, k < 240 → f k = g k) ∧ (∀ k, k < 240 → ∃ b, b < 256 ∧ g k = nI b)
theorem zp_FB.put {f g : Nat → Int32} (h : zp_FB f g) (k : Nat) {b : Int32} (hj : ∃ j, j < 256 ∧ b = nI j) : zp_FB (upd f k b) (upd g k b) := by
  refine ⟨fun i hi => ?_, fun i hi => ?_⟩
  · by_cases q : i = k
    · subst q; simp [zp_upd]
    · simp [zp_upd, q, h.1 i hi]
  · by_cases q : i = k
    · subst q; simpa [zp_upd] using hj
    · simpa [zp_upd, q] using h.2 i hi
def zp_wb (v : Int32) (i : Nat) : Int32 := (v >>> (((24 : Int32) - ((8 : Int32) * nI i)) &&& 31)) &&& (255 : Int32)
theorem zp_wb_byte (v : Int32) (i : Nat) : ∃ j, j < 256 ∧ zp_wb v i = nI j := pk_andE _ 8 rfl
theorem zp_row {G : zx_G} {p k : Nat} {x : Int32} : zx_up G p k x p = upd (G p) k x := by simp [zx_up, zx_upA]
theorem zs_word_it {n : Nat} (hn : n ≤ 236) (v : Int32) (m i : Nat) (hi : i < 4) (G : zx_G) (hG : G 0 8 = nI n) : f_S_word_14 (m + 1) v (nI i) G = f_S_word_14 m v (nI (i + 1)) (zx_up G 1 (n + i) (zp_wb v i)) := by
  rw [f_S_word_14]
  rw [zp_neg (fun q => by have q2 := (zp_cle (c := (4 : Int32)) 4 rfl (by omega) (by omega)).mp q; omega), hG, nI_add, zp_gd (zp_in (by omega) (by omega)), zp_lt, zp_lt, zp_cl (by omega), nI_1]
  rfl
theorem zs_word_end {n : Nat} (v : Int32) (m : Nat) (G : zx_G) (hG : G 0 8 = nI n) : f_S_word_14 (m + 1) v (nI 4) G = some (1, zx_up G 0 8 (nI (n + 4))) := by
  rw [f_S_word_14]
  rw [zp_pos (by decide), zp_lt, hG, show nI n + (4 : Int32) = nI (n + 4) from nI_add n 4]
  rfl
theorem zm_add_byte {n k : Nat} (hn : n < 240) (hk : k < 256) (G : zx_G) (hG : G 32 0 = nI n) : f_M_add (nI k) G = some (1, zx_up (zx_up G 33 n (nI k)) 32 0 (nI (n + 1))) := by
  unfold f_M_add
  rw [zp_neg (nI_pos (by omega)), zp_neg (fun q => by have q2 := (zp_clt (c := (255 : Int32)) 255 rfl (by omega) (by omega)).mp q; omega), hG, zp_pos ((zp_ltc (c := (240 : Int32)) 240 rfl (by omega) (by omega)).mpr hn), zp_gd (zp_in hn (by omega)), zp_lt, zp_lt, zp_cl (by omega), zp_ur (by omega), hG, nI_1]
  rfl
theorem zm_word_it {n : Nat} (hn : n < 240) (v : Int32) (m i : Nat) (hi : i < 4) (G : zx_G) (hG : G 32 0 = nI n) : f_M_word_15 (m + 1) v (nI (24 - 8 * i)) G = f_M_word_15 m v (nI (24 - 8 * i) - (8 : Int32)) (zx_up (zx_up G 33 n (zp_wb v i)) 32 0 (nI (n + 1))) := by
  rw [f_M_word_15]
  have e : (v >>> (nI (24 - 8 * i) &&& 31)) &&& (255 : Int32) = zp_wb v i := by
    have : i = 0 ∨ i = 1 ∨ i = 2 ∨ i = 3 := by omega
    rcases this with rfl | rfl | rfl | rfl <;> rfl
  obtain ⟨j, hj, ej⟩ := zp_wb_byte v i
  rw [zp_neg (nI_pos (by omega)), e, ej, zp_bd (zm_add_byte hn hj G hG), zp_lt]
theorem zo_word (v : Int32) : zp_ok zi_Inv (f_S_word v) (f_M_word v) := by
  intro G h
  obtain ⟨⟨n, h1, h2, h3, h4, h5⟩, h6⟩ := id h
  by_cases hn : n ≤ 236
  · have eS : f_S_word v G = some (1, zx_up (zx_up (zx_up (zx_up (zx_up G 1 (n + 0) (zp_wb v 0)) 1 (n + 1) (zp_wb v 1)) 1 (n + 2) (zp_wb v 2)) 1 (n + 3) (zp_wb v 3)) 0 8 (nI (n + 4))) := by
      unfold f_S_word
      rw [h2, zp_pos ((zp_lec (c := (236 : Int32)) 236 rfl (by omega) (by omega)).mpr hn), zp_lt]
      show f_S_word_14 (2047 + 1) v (nI 0) G = _
      rw [zs_word_it hn v 2047 0 (by omega) G h2]
      show f_S_word_14 (2046 + 1) v (nI 1) _ = _
      rw [zs_word_it hn v 2046 1 (by omega) _ (by simp [zp_at, h2])]
      show f_S_word_14 (2045 + 1) v (nI 2) _ = _
      rw [zs_word_it hn v 2045 2 (by omega) _ (by simp [zp_at, h2])]
      show f_S_word_14 (2044 + 1) v (nI 3) _ = _
      rw [zs_word_it hn v 2044 3 (by omega) _ (by simp [zp_at, h2])]
      show f_S_word_14 (2043 + 1) v (nI 4) _ = _
      rw [zs_word_end (n := n) v 2043 _ (by simp [zp_at, h2])]
    have eM : ∀ G1 : zx_G, G1 32 0 = nI n → ∃ G2, f_M_word v G1 = some (1, G2) ∧ G2 33 = upd (upd (upd (upd (G1 33) (n + 0) (zp_wb v 0)) (n + 1) (zp_wb v 1)) (n + 2) (zp_wb v 2)) (n + 3) (zp_wb v 3) ∧ G2 32 0 = nI (n + 4) ∧ (∀ k, k ≠ 0 → G2 32 k = G1 32 k) ∧ ∀ p, p ≠ 32 → p ≠ 33 → G2 p = G1 p := by
      intro G1 hG
      refine ⟨zx_up (zx_up (zx_up (zx_up (zx_up (zx_up (zx_up (zx_up G1 33 n (zp_wb v 0)) 32 0 (nI (n + 1))) 33 (n + 1) (zp_wb v 1)) 32 0 (nI (n + 1 + 1))) 33 (n + 1 + 1) (zp_wb v 2)) 32 0 (nI (n + 1 + 1 + 1))) 33 (n + 1 + 1 + 1) (zp_wb v 3)) 32 0 (nI (n + 1 + 1 + 1 + 1)), ?_, ?_, by simp [zp_at], fun k hk => by simp [zp_at, hk], fun p g1 g2 => by rw [zp_ur g1, zp_ur g2, zp_ur g1, zp_ur g2, zp_ur g1, zp_ur g2, zp_ur g1, zp_ur g2]⟩
      · unfold f_M_word
        rw [hG, zp_pos ((zp_lec (c := (236 : Int32)) 236 rfl (by omega) (by omega)).mpr hn), zp_lt]
        show f_M_word_15 (2047 + 1) v (nI (24 - 8 * 0)) G1 = _
        rw [zm_word_it (by omega) v 2047 0 (by omega) G1 hG]
        show f_M_word_15 (2046 + 1) v (nI (24 - 8 * 1)) _ = _
        rw [zm_word_it (n := n + 1) (by omega) v 2046 1 (by omega) _ (by simp [zp_at])]
        show f_M_word_15 (2045 + 1) v (nI (24 - 8 * 2)) _ = _
        rw [zm_word_it (n := n + 1 + 1) (by omega) v 2045 2 (by omega) _ (by simp [zp_at])]
        show f_M_word_15 (2044 + 1) v (nI (24 - 8 * 3)) _ = _
        rw [zm_word_it (n := n + 1 + 1 + 1) (by omega) v 2044 3 (by omega) _ (by simp [zp_at])]
        rw [f_M_word_15]
        rw [zp_pos (by decide)]
        rfl
      · rw [zp_ur (by omega), zp_row, zp_ur (by omega), zp_row, zp_ur (by omega), zp_row, zp_ur (by omega), zp_row]
        rfl
    obtain ⟨G2, e1, e2, e3, e4, e5⟩ := eM _ (show zx_up (zx_up (zx_up (zx_up (zx_up G 1 (n + 0) (zp_wb v 0)) 1 (n + 1) (zp_wb v 1)) 1 (n + 2) (zp_wb v 2)) 1 (n + 3) (zp_wb v 3)) 0 8 (nI (n + 4)) 32 0 = nI n by simp [zp_at, h3])
    refine ⟨1, _, G2, eS, e1, zi_keep h ?_ (fun p g1 g2 g3 g4 => by rw [e5 p g4 g2, zp_ur g3, zp_ur g1, zp_ur g1, zp_ur g1, zp_ur g1]) (by rw [e5 0 (by omega) (by omega)]; simp [zp_at]) (fun k hk => by rw [e4 k hk]; simp [zp_at])⟩
    have hF : zp_FB (G2 1) (G2 33) := by
      rw [e2, e5 1 (by omega) (by omega), zp_ur (by omega), zp_row, zp_row, zp_row, zp_row, zp_ur (by omega), zp_ur (by omega), zp_ur (by omega), zp_ur (by omega), zp_ur (by omega)]
      have h0 : zp_FB (G 1) (G 33) := ⟨h4, h5⟩
      exact zp_FB.put (zp_FB.put (zp_FB.put (zp_FB.put h0 _ (zp_wb_byte v 0)) _ (zp_wb_byte v 1)) _ (zp_wb_byte v 2)) _ (zp_wb_byte v 3)
    exact ⟨n + 4, by omega, by rw [e5 0 (by omega) (by omega)]; simp [zp_at], e3, hF.1, hF.2⟩
  · refine ⟨0, G, G, ?_, ?_, h⟩
    · unfold f_S_word
      rw [h2, zp_neg (fun q => hn ((zp_lec (c := (236 : Int32)) 236 rfl (by omega) (by omega)).mp q))]
      rfl
    · unfold f_M_word
      rw [h3, zp_neg (fun q => hn ((zp_lec (c := (236 : Int32)) 236 rfl (by omega) (by omega)).mp q))]
      rfl
