/-! the sequence's head, whole -/
def zh_s7 (G : zx_G) : Option (Int32 × zx_G) := zx_bd (f_M_number (1 : Int32) G) fun r G1 => zh_t (zx_up G1 32 20 r)
def zh_s6 (G : zx_G) : Option (Int32 × zx_G) := zx_bd (f_M_barred (1 : Int32) G) fun _ G1 => zh_s7 G1
def zh_s5 (G : zx_G) : Option (Int32 × zx_G) := zx_bd (f_M_barred (1 : Int32) G) fun _ G1 => zh_s6 G1
def zh_s4 (G : zx_G) : Option (Int32 × zx_G) := zx_bd (f_M_number (4 : Int32) G) fun r G1 => zh_s5 (zx_up G1 32 19 (r + (1 : Int32)))
def zh_s3 (G : zx_G) : Option (Int32 × zx_G) := zx_bd (f_M_number (4 : Int32) G) fun r G1 => zh_s4 (zx_up G1 32 18 (r + (1 : Int32)))
def zh_s2 (G : zx_G) : Option (Int32 × zx_G) := zx_bd (f_M_number (1 : Int32) G) fun r G1 => zh_s3 (zx_up G1 32 17 r)
theorem zh_s22 (G : zx_G) : f_M_sequence_22 G = zh_s2 G := rfl
theorem zh_K.m {Gc Gm Gm' : zx_G} (h : zh_K Gc Gm) (r : ∀ q, q ≠ 32 → Gm' q = Gm q) (s : ∀ q, q = 13 ∨ q = 14 ∨ q = 15 → Gm' 32 q = Gm 32 q) : zh_K Gc Gm' := h.keep rfl rfl rfl (r 33 (by omega)) (r 34 (by omega)) (s 13 (by omega)) (s 14 (by omega)) (s 15 (by omega))
theorem zh_e8 {Gc G : zx_G} (hK : zh_K Gc G) (h : ¬ G 32 10 = 0) : ∃ G', zh_t G = some (0, G') ∧ G' 32 10 = G 32 10 := by
  obtain ⟨fl, a1, a2, -⟩ := zh_tail hK
  refine ⟨_, a2.trans (zh_239 G a1), ?_⟩
  by_cases c : fl = 1
  · rw [if_pos c]
  · rw [if_neg c, zp_us]
    exact if_neg h
theorem zh_e7 {e p : Nat} {Gc G : zx_G} (hK : zh_K Gc G) (hM : zh_M p e G) (h : ¬ G 32 10 = 0) : ∃ G', zh_s7 G = some (0, G') ∧ G' 32 10 = G 32 10 := by
  obtain ⟨G1, r, p', a1, a2, a3, a4⟩ := zh_dead (k := 1) (by omega) hM h
  have h1 : zx_up G1 32 20 r 32 10 = G 32 10 := by rw [zp_uk (by omega)]; exact a3 10 (by omega)
  obtain ⟨G2, b1, b2⟩ := zh_e8 (hK.m (Gm' := zx_up G1 32 20 r) (fun q hq => by rw [zp_ur hq]; exact a2 q hq) (fun q hq => by rw [zp_uk (by omega)]; exact a3 q (by omega))) (by rw [h1]; exact h)
  unfold zh_s7
  rw [zp_bd (show f_M_number (1 : Int32) G = _ from a1)]
  exact ⟨G2, b1, b2.trans h1⟩
theorem zh_e6 {e p : Nat} {Gc G : zx_G} (hK : zh_K Gc G) (hM : zh_M p e G) (h : ¬ G 32 10 = 0) : ∃ G', zh_s6 G = some (0, G') ∧ G' 32 10 = G 32 10 := by
  obtain ⟨G1, p', a1, a2, a3, a4⟩ := zh_deadB (k := 1) (by omega) hM h
  have h1 : G1 32 10 = G 32 10 := a3 10 (by omega)
  obtain ⟨G2, b1, b2⟩ := zh_e7 (hK.m a2 (fun q hq => a3 q (by omega))) a4 (by rw [h1]; exact h)
  unfold zh_s6
  rw [zp_bd (show f_M_barred (1 : Int32) G = _ from a1)]
  exact ⟨G2, b1, b2.trans h1⟩
theorem zh_e5 {e p : Nat} {Gc G : zx_G} (hK : zh_K Gc G) (hM : zh_M p e G) (h : ¬ G 32 10 = 0) : ∃ G', zh_s5 G = some (0, G') ∧ G' 32 10 = G 32 10 := by
  obtain ⟨G1, p', a1, a2, a3, a4⟩ := zh_deadB (k := 1) (by omega) hM h
  have h1 : G1 32 10 = G 32 10 := a3 10 (by omega)
  obtain ⟨G2, b1, b2⟩ := zh_e6 (hK.m a2 (fun q hq => a3 q (by omega))) a4 (by rw [h1]; exact h)
  unfold zh_s5
  rw [zp_bd (show f_M_barred (1 : Int32) G = _ from a1)]
  exact ⟨G2, b1, b2.trans h1⟩
theorem zh_e4 {e p : Nat} {Gc G : zx_G} (hK : zh_K Gc G) (hM : zh_M p e G) (h : ¬ G 32 10 = 0) : ∃ G', zh_s4 G = some (0, G') ∧ G' 32 10 = G 32 10 := by
  obtain ⟨G1, r, p', a1, a2, a3, a4⟩ := zh_dead (k := 4) (by omega) hM h
  have h1 : zx_up G1 32 19 (r + (1 : Int32)) 32 10 = G 32 10 := by rw [zp_uk (by omega)]; exact a3 10 (by omega)
  obtain ⟨G2, b1, b2⟩ := zh_e5 (hK.m (Gm' := zx_up G1 32 19 (r + (1 : Int32))) (fun q hq => by rw [zp_ur hq]; exact a2 q hq) (fun q hq => by rw [zp_uk (by omega)]; exact a3 q (by omega))) (a4.up (by omega) (by omega)) (by rw [h1]; exact h)
  unfold zh_s4
  rw [zp_bd (show f_M_number (4 : Int32) G = _ from a1)]
  exact ⟨G2, b1, b2.trans h1⟩
theorem zh_e3 {e p : Nat} {Gc G : zx_G} (hK : zh_K Gc G) (hM : zh_M p e G) (h : ¬ G 32 10 = 0) : ∃ G', zh_s3 G = some (0, G') ∧ G' 32 10 = G 32 10 := by
  obtain ⟨G1, r, p', a1, a2, a3, a4⟩ := zh_dead (k := 4) (by omega) hM h
  have h1 : zx_up G1 32 18 (r + (1 : Int32)) 32 10 = G 32 10 := by rw [zp_uk (by omega)]; exact a3 10 (by omega)
  obtain ⟨G2, b1, b2⟩ := zh_e4 (hK.m (Gm' := zx_up G1 32 18 (r + (1 : Int32))) (fun q hq => by rw [zp_ur hq]; exact a2 q hq) (fun q hq => by rw [zp_uk (by omega)]; exact a3 q (by omega))) (a4.up (by omega) (by omega)) (by rw [h1]; exact h)
  unfold zh_s3
  rw [zp_bd (show f_M_number (4 : Int32) G = _ from a1)]
  exact ⟨G2, b1, b2.trans h1⟩
theorem zh_e2 {e p : Nat} {Gc G : zx_G} (hK : zh_K Gc G) (hM : zh_M p e G) (h : ¬ G 32 10 = 0) : ∃ G', zh_s2 G = some (0, G') ∧ G' 32 10 = G 32 10 := by
  obtain ⟨G1, r, p', a1, a2, a3, a4⟩ := zh_dead (k := 1) (by omega) hM h
  have h1 : zx_up G1 32 17 r 32 10 = G 32 10 := by rw [zp_uk (by omega)]; exact a3 10 (by omega)
  obtain ⟨G2, b1, b2⟩ := zh_e3 (hK.m (Gm' := zx_up G1 32 17 r) (fun q hq => by rw [zp_ur hq]; exact a2 q hq) (fun q hq => by rw [zp_uk (by omega)]; exact a3 q (by omega))) (a4.up (by omega) (by omega)) (by rw [h1]; exact h)
  unfold zh_s2
  rw [zp_bd (show f_M_number (1 : Int32) G = _ from a1)]
  exact ⟨G2, b1, b2.trans h1⟩
theorem zh_62e {e n j : Nat} {x1 x2 : Int32} {G : zx_G} (hC : zh_C (8 * e) e G) (hj : j ≤ 2) : ∃ G', f_H_readSequence_62 (n + 1) x1 x2 (nI j) G = some (7, G') := by
  obtain ⟨G1, a1, a2, a3⟩ := zh_end (k := 1) (by omega) (by omega) hC
  rw [f_H_readSequence_62]
  by_cases c : j = 2
  · refine ⟨G1, ?_⟩
    rw [c, zp_pos (show (2 : Int32) ≤ nI 2 by decide), zp_bd (show f_U_nextBits_13 (1 : Int32) G = _ from a2), zp_lt, zp_neg (by decide)]
  · refine ⟨G1, ?_⟩
    rw [zp_neg (show ¬ (2 : Int32) ≤ nI j from nI_ge (b := 2) (by omega) (by omega)), zp_bd (show f_U_nextBits_13 (1 : Int32) G = _ from a2), zp_lt, zp_neg (show ¬ (-1 : Int32) = 0 by decide), zp_neg (show ¬ (0 : Int32) ≤ -1 by decide)]
    rfl
/-- what a sequence's head leaves -/
def zh_Sq (Bc Bm Gc Gm : zx_G) : Prop := (∀ q, q ≠ 11 → q ≠ 13 → Gc q = Bc q) ∧ (∀ q, q = 4 ∨ 9 < q → Gc 11 q = Bc 11 q) ∧ (∀ q, q ≠ 32 → Gm q = Bm q) ∧ (∀ q, q < 10 ∨ (11 < q ∧ q < 16) ∨ 20 < q → Gm 32 q = Bm 32 q) ∧ ∃ y t w h so : Nat, y ≤ 1 ∧ t ≤ 1 ∧ 1 ≤ w ∧ w ≤ 16 ∧ 1 ≤ h ∧ h ≤ 16 ∧ so ≤ 1 ∧ Gc 11 3 = 1 ∧ Gc 11 5 = nI so ∧ Gc 11 6 = nI (1 + 2 * y) ∧ Gc 11 7 = nI w ∧ Gc 11 8 = nI h ∧ Gc 11 9 = nI (8 + 2 * t) ∧ Gm 32 16 = nI y ∧ Gm 32 17 = nI t ∧ Gm 32 18 = nI w ∧ Gm 32 19 = nI h ∧ Gm 32 20 = nI so
theorem zh_seq {e p : Nat} {Gc Gm : zx_G} (hC : zh_C p e Gc) (hM : zh_M p e Gm) (hd : ∀ j, j < e → Gc 9 j = Gm 39 j) (h0 : Gm 32 10 = 0) (hK : zh_K Gc Gm) : ∃ (Gc' Gm' : zx_G) (v : Int32), f_H_readSequence Gc = some (v, Gc') ∧ f_M_sequence Gm = some (0, Gm') ∧ Gm' 32 10 = v ∧ (v = 0 → zh_Sq Gc Gm Gc' Gm') := by
  have die : ∀ (v : Int32) (Gc' G1 : zx_G), ¬ v = 0 → G1 32 10 = v → (∃ G2, f_M_sequence Gm = some (0, G2) ∧ G2 32 10 = G1 32 10) → f_H_readSequence Gc = some (v, Gc') → ∃ (Gc' Gm' : zx_G) (v : Int32), f_H_readSequence Gc = some (v, Gc') ∧ f_M_sequence Gm = some (0, Gm') ∧ Gm' 32 10 = v ∧ (v = 0 → zh_Sq Gc Gm Gc' Gm') := by
    intro v Gc' G1 hv h1 h2 h3
    obtain ⟨G2, h2, h4⟩ := h2
    exact ⟨Gc', G2, v, h3, h2, h4.trans h1, fun z => absurd z hv⟩
  -- the layout
  obtain ⟨C1, M1, a1, a2, a3, a4⟩ := zh_both (k := 2) (by omega) hC hM hd h0
  rcases a4 with ⟨y, a4, a5, a6, a7, a8, a9⟩ | ⟨a5, a6, a7, a8, a9⟩
  rotate_left
  · have hx : zx_up M1 32 16 (0 : Int32) 32 10 = 7 := by rw [zp_uk (by omega)]; exact a9
    obtain ⟨G2, d1, d2⟩ := zh_e2 (hK.m (Gm' := zx_up M1 32 16 (0 : Int32)) (fun q hq => by rw [zp_ur hq]; exact a2 q hq) (fun q hq => by rw [zp_uk (by omega)]; exact a3 q (by omega) (by omega))) (a8.up (k := 16) (by omega) (by omega)) (by rw [hx]; decide)
    refine die 7 C1 _ (by decide) hx ⟨G2, ?_, d2⟩ ?_
    · unfold f_M_sequence
      rw [zp_bd (show f_M_number (2 : Int32) Gm = _ from a6), zp_lt, zp_us, zp_pos (by decide), zh_s22]
      exact d1
    · unfold f_H_readSequence
      rw [zp_bd (show f_U_nextBits_13 (2 : Int32) Gc = _ from a5), zp_lt, zp_neg (by decide)]
  have y4 : y < 4 := a4
  have hK1 : zh_K C1 (zx_up M1 32 16 (nI y)) := (hK.m (Gm' := zx_up M1 32 16 (nI y)) (fun q hq => by rw [zp_ur hq]; exact a2 q hq) (fun q hq => by rw [zp_uk (by omega)]; exact a3 q (by omega) (by omega))).keep (a1 1 (by omega)) (a1 4 (by omega)) (a1 8 (by omega)) rfl rfl rfl rfl rfl
  have hM1 : zh_M (p + 2) e (zx_up M1 32 16 (nI y)) := a8.up (by omega) (by omega)
  have h01 : zx_up M1 32 16 (nI y) 32 10 = 0 := by rw [zp_uk (by omega)]; exact a9
  have l1 : nI y ≤ (1 : Int32) ↔ y ≤ 1 := zp_lec (c := (1 : Int32)) 1 rfl (by omega) (by omega)
  by_cases cy : y ≤ 1
  rotate_left
  · have hx : zx_up (zx_up M1 32 16 (nI y)) 32 10 (5 : Int32) 32 10 = 5 := zp_us
    obtain ⟨G2, d1, d2⟩ := zh_e2 (hK1.m (Gm' := zx_up (zx_up M1 32 16 (nI y)) 32 10 (5 : Int32)) (fun q hq => zp_ur hq) (fun q hq => zp_uk (by omega))) (hM1.up (k := 10) (by omega) (by omega)) (by rw [hx]; decide)
    refine die 5 C1 _ (by decide) hx ⟨G2, ?_, d2⟩ ?_
    · unfold f_M_sequence
      rw [zp_bd (show f_M_number (2 : Int32) Gm = _ from a6), zp_lt, zp_us, zp_neg (fun z => cy (l1.mp z)), zp_bd (zb_fail1 h01 5), zh_s22]
      exact d1
    · unfold f_H_readSequence
      rw [zp_bd (show f_U_nextBits_13 (2 : Int32) Gc = _ from a5), zp_lt, zp_pos (nI_pos' (by omega)), zp_neg (fun z => cy (l1.mp z))]
  have s2 : f_M_sequence Gm = zh_s2 (zx_up M1 32 16 (nI y)) := by
    unfold f_M_sequence
    rw [zp_bd (show f_M_number (2 : Int32) Gm = _ from a6), zp_lt, zp_us, zp_pos (l1.mpr cy), zh_s22]
  have t2 : ∀ x2 C2, f_U_nextBits_13 (1 : Int32) C1 = some (x2, C2) → f_H_readSequence Gc = zx_bd (f_U_nextBits_13 (4 : Int32) C2) fun r_12 G_11 => zx_bd (f_U_nextBits_13 (4 : Int32) (zx_up G_11 11 7 (r_12 + (1 : Int32)))) fun r_16 G_15 => f_H_readSequence_62 2048 (nI y) x2 (0 : Int32) (zx_up G_15 11 8 (r_16 + (1 : Int32))) := by
    intro x2 C2 h2
    unfold f_H_readSequence
    rw [zp_bd (show f_U_nextBits_13 (2 : Int32) Gc = _ from a5), zp_lt, zp_pos (nI_pos' (by omega)), zp_pos (l1.mpr cy), zp_bd h2, zp_lt]
    rfl
  -- class at its end from the depth on
  have endC : ∀ (x2 : Int32) (C2 : zx_G), f_U_nextBits_13 (1 : Int32) C1 = some (x2, C2) → zh_C (8 * e) e C2 → ∃ C3, f_H_readSequence Gc = some (7, C3) := by
    intro x2 C2 h2 hC2
    obtain ⟨C3, b1, b2, b3⟩ := zh_end (k := 4) (by omega) (by omega) hC2
    obtain ⟨C4, b4, b5, b6⟩ := zh_end (k := 4) (by omega) (by omega) (b3.row (G' := zx_up C3 11 7 ((-1 : Int32) + (1 : Int32))) (zp_ur (by omega)))
    obtain ⟨C5, b7⟩ := zh_62e (n := 2047) (j := 0) (x1 := nI y) (x2 := x2) (b6.row (G' := zx_up C4 11 8 ((-1 : Int32) + (1 : Int32))) (zp_ur (by omega))) (by omega)
    refine ⟨C5, ?_⟩
    rw [t2 x2 C2 h2, zp_bd (show f_U_nextBits_13 (4 : Int32) _ = _ from b2), zp_bd (show f_U_nextBits_13 (4 : Int32) _ = _ from b5)]
    exact b7
  -- the depth
  have hd1 : ∀ j, j < e → C1 9 j = zx_up M1 32 16 (nI y) 39 j := fun j hj => by rw [zp_ur (by omega), a1 9 (by omega), a2 39 (by omega)]; exact hd j hj
  obtain ⟨C2, M2, b1, b2, b3, b4⟩ := zh_both (k := 1) (by omega) a7 hM1 hd1 h01
  rcases b4 with ⟨t, b4, b5, b6, b7, b8, b9⟩ | ⟨b5, b6, b7, b8, b9⟩
  rotate_left
  · have hx : zx_up M2 32 17 (0 : Int32) 32 10 = 7 := by rw [zp_uk (by omega)]; exact b9
    obtain ⟨G2, d1, d2⟩ := zh_e3 (hK1.m (Gm' := zx_up M2 32 17 (0 : Int32)) (fun q hq => by rw [zp_ur hq]; exact b2 q hq) (fun q hq => by rw [zp_uk (by omega)]; exact b3 q (by omega) (by omega))) (b8.up (k := 17) (by omega) (by omega)) (by rw [hx]; decide)
    obtain ⟨C3, c1⟩ := endC _ _ b5 b7
    refine die 7 C3 _ (by decide) hx ⟨G2, ?_, d2⟩ c1
    rw [s2]
    unfold zh_s2
    rw [zp_bd (show f_M_number (1 : Int32) _ = _ from b6)]
    exact d1
  have t2' : t ≤ 1 := by have : t < 2 ^ 1 := b4; omega
  have hK2 : zh_K C2 (zx_up M2 32 17 (nI t)) := (hK1.m (Gm' := zx_up M2 32 17 (nI t)) (fun q hq => by rw [zp_ur hq]; exact b2 q hq) (fun q hq => by rw [zp_uk (by omega)]; exact b3 q (by omega) (by omega))).keep (b1 1 (by omega)) (b1 4 (by omega)) (b1 8 (by omega)) rfl rfl rfl rfl rfl
  have s3 : f_M_sequence Gm = zh_s3 (zx_up M2 32 17 (nI t)) := by
    rw [s2]
    unfold zh_s2
    rw [zp_bd (show f_M_number (1 : Int32) _ = _ from b6)]
  -- the width
  have hd2 : ∀ j, j < e → C2 9 j = zx_up M2 32 17 (nI t) 39 j := fun j hj => by rw [zp_ur (by omega), b1 9 (by omega), b2 39 (by omega)]; exact hd1 j hj
  obtain ⟨C3, M3, c1, c2, c3, c4⟩ := zh_both (k := 4) (by omega) b7 (b8.up (k := 17) (v := nI t) (by omega) (by omega)) hd2 (by rw [zp_uk (by omega)]; exact b9)
  rcases c4 with ⟨w, c4, c5, c6, c7, c8, c9⟩ | ⟨c5, c6, c7, c8, c9⟩
  rotate_left
  · have hx : zx_up M3 32 18 ((0 : Int32) + (1 : Int32)) 32 10 = 7 := by rw [zp_uk (by omega)]; exact c9
    obtain ⟨G2, d1, d2⟩ := zh_e4 (hK2.m (Gm' := zx_up M3 32 18 ((0 : Int32) + (1 : Int32))) (fun q hq => by rw [zp_ur hq]; exact c2 q hq) (fun q hq => by rw [zp_uk (by omega)]; exact c3 q (by omega) (by omega))) (c8.up (k := 18) (by omega) (by omega)) (by rw [hx]; decide)
    obtain ⟨C4, f4, f5, f6⟩ := zh_end (k := 4) (by omega) (by omega) (c7.row (G' := zx_up C3 11 7 ((-1 : Int32) + (1 : Int32))) (zp_ur (by omega)))
    obtain ⟨C5, f7⟩ := zh_62e (n := 2047) (j := 0) (x1 := nI y) (x2 := nI t) (f6.row (G' := zx_up C4 11 8 ((-1 : Int32) + (1 : Int32))) (zp_ur (by omega))) (by omega)
    refine die 7 C5 _ (by decide) hx ⟨G2, ?_, d2⟩ ?_
    · rw [s3]
      unfold zh_s3
      rw [zp_bd (show f_M_number (4 : Int32) _ = _ from c6)]
      exact d1
    · rw [t2 _ _ b5, zp_bd (show f_U_nextBits_13 (4 : Int32) _ = _ from c5), zp_bd (show f_U_nextBits_13 (4 : Int32) _ = _ from f5)]
      exact f7
  have w16 : w < 16 := c4
  have hK3 : zh_K (zx_up C3 11 7 (nI (w + 1))) (zx_up M3 32 18 (nI (w + 1))) := (hK2.m (Gm' := zx_up M3 32 18 (nI (w + 1))) (fun q hq => by rw [zp_ur hq]; exact c2 q hq) (fun q hq => by rw [zp_uk (by omega)]; exact c3 q (by omega) (by omega))).keep (by rw [zp_ur (by omega)]; exact c1 1 (by omega)) (by rw [zp_ur (by omega)]; exact c1 4 (by omega)) (by rw [zp_ur (by omega)]; exact c1 8 (by omega)) rfl rfl rfl rfl rfl
  have s4 : f_M_sequence Gm = zh_s4 (zx_up M3 32 18 (nI (w + 1))) := by
    rw [s3]
    unfold zh_s3
    rw [zp_bd (show f_M_number (4 : Int32) _ = _ from c6), nI_1]
  -- the height
  have hd3 : ∀ j, j < e → zx_up C3 11 7 (nI (w + 1)) 9 j = zx_up M3 32 18 (nI (w + 1)) 39 j := fun j hj => by rw [zp_ur (by omega), zp_ur (by omega), c1 9 (by omega), c2 39 (by omega)]; exact hd2 j hj
  obtain ⟨C4, M4, e1, e2, e3, e4⟩ := zh_both (k := 4) (by omega) (c7.row (G' := zx_up C3 11 7 (nI (w + 1))) (zp_ur (by omega))) (c8.up (k := 18) (v := nI (w + 1)) (by omega) (by omega)) hd3 (by rw [zp_uk (by omega)]; exact c9)
  rcases e4 with ⟨h, e4, e5, e6, e7, e8, e9⟩ | ⟨e5, e6, e7, e8, e9⟩
  rotate_left
  · have hx : zx_up M4 32 19 ((0 : Int32) + (1 : Int32)) 32 10 = 7 := by rw [zp_uk (by omega)]; exact e9
    obtain ⟨G2, d1, d2⟩ := zh_e5 (hK3.m (Gm' := zx_up M4 32 19 ((0 : Int32) + (1 : Int32))) (fun q hq => by rw [zp_ur hq]; exact e2 q hq) (fun q hq => by rw [zp_uk (by omega)]; exact e3 q (by omega) (by omega))) (e8.up (k := 19) (by omega) (by omega)) (by rw [hx]; decide)
    obtain ⟨C5, f7⟩ := zh_62e (n := 2047) (j := 0) (x1 := nI y) (x2 := nI t) (e7.row (G' := zx_up C4 11 8 ((-1 : Int32) + (1 : Int32))) (zp_ur (by omega))) (by omega)
    refine die 7 C5 _ (by decide) hx ⟨G2, ?_, d2⟩ ?_
    · rw [s4]
      unfold zh_s4
      rw [zp_bd (show f_M_number (4 : Int32) _ = _ from e6)]
      exact d1
    · rw [t2 _ _ b5, zp_bd (show f_U_nextBits_13 (4 : Int32) _ = _ from c5), nI_1, zp_bd (show f_U_nextBits_13 (4 : Int32) _ = _ from e5)]
      exact f7
  have h16 : h < 16 := e4
  have hK4 : zh_K (zx_up C4 11 8 (nI (h + 1))) (zx_up M4 32 19 (nI (h + 1))) := (hK3.m (Gm' := zx_up M4 32 19 (nI (h + 1))) (fun q hq => by rw [zp_ur hq]; exact e2 q hq) (fun q hq => by rw [zp_uk (by omega)]; exact e3 q (by omega) (by omega))).keep (by rw [zp_ur (by omega)]; exact e1 1 (by omega)) (by rw [zp_ur (by omega)]; exact e1 4 (by omega)) (by rw [zp_ur (by omega)]; exact e1 8 (by omega)) rfl rfl rfl rfl rfl
  have s5 : f_M_sequence Gm = zh_s5 (zx_up M4 32 19 (nI (h + 1))) := by
    rw [s4]
    unfold zh_s4
    rw [zp_bd (show f_M_number (4 : Int32) _ = _ from e6), nI_1]
  have t5 : f_H_readSequence Gc = f_H_readSequence_62 (2047 + 1) (nI y) (nI t) (nI 0) (zx_up C4 11 8 (nI (h + 1))) := by
    rw [t2 _ _ b5, zp_bd (show f_U_nextBits_13 (4 : Int32) _ = _ from c5), nI_1, zp_bd (show f_U_nextBits_13 (4 : Int32) _ = _ from e5), nI_1]
    rfl
  -- two bits that are barred
  have hd4 : ∀ j, j < e → zx_up C4 11 8 (nI (h + 1)) 9 j = zx_up M4 32 19 (nI (h + 1)) 39 j := fun j hj => by rw [zp_ur (by omega), zp_ur (by omega), e1 9 (by omega), e2 39 (by omega)]; exact hd3 j hj
  obtain ⟨C5, M5, f1, f2, f3, f4, f5⟩ := zh_barred (k := 1) (by omega) (e7.row (G' := zx_up C4 11 8 (nI (h + 1))) (zp_ur (by omega))) (e8.up (k := 19) (v := nI (h + 1)) (by omega) (by omega)) hd4 (by rw [zp_uk (by omega)]; exact e9)
  have bar62 : ∀ (n j : Nat) (G G1 : zx_G) (x : Int32), j < 2 → f_U_nextBits_13 (1 : Int32) G = some (x, G1) → f_H_readSequence_62 (n + 1) (nI y) (nI t) (nI j) G = if x = 0 then f_H_readSequence_62 n (nI y) (nI t) (nI (j + 1)) G1 else some (if 0 ≤ x then 5 else 7, G1) := by
    intro n j G G1 x hj hx
    rw [f_H_readSequence_62, zp_neg (show ¬ (2 : Int32) ≤ nI j from nI_ge (b := 2) hj (by omega)), zp_bd hx, zp_lt, zp_lt, nI_1]
    unfold f_H_readSequence_93
    by_cases q1 : x = 0
    · rw [zp_pos q1, if_pos q1]
    · rw [zp_neg q1, if_neg q1]
      by_cases q2 : 0 ≤ x
      · rw [zp_pos q2, if_pos q2]
      · rw [zp_neg q2, if_neg q2]
  have s6 : f_M_sequence Gm = zh_s6 M5 := by
    rw [s5]
    unfold zh_s5
    rw [zp_bd (show f_M_barred (1 : Int32) _ = _ from f4)]
  have hK5 : zh_K C5 M5 := (hK4.m f2 (fun q hq => f3 q (by omega) (by omega))).keep (f1 1 (by omega)) (f1 4 (by omega)) (f1 8 (by omega)) rfl rfl rfl rfl rfl
  rcases f5 with ⟨f5, f6, f7, f8⟩ | ⟨x, p', f5, f6, f7, f8⟩
  rotate_left
  · have hx : ¬ M5 32 10 = 0 := by rw [f8]; split <;> decide
    obtain ⟨G2, d1, d2⟩ := zh_e6 hK5 f7 hx
    exact die (if 0 ≤ x then 5 else 7) C5 M5 (by split <;> decide) f8 ⟨G2, s6.trans d1, d2⟩ (by rw [t5, bar62 2047 0 _ C5 x (by omega) f5, if_neg f6])
  have hd5 : ∀ j, j < e → C5 9 j = M5 39 j := fun j hj => by rw [f1 9 (by omega), f2 39 (by omega)]; exact hd4 j hj
  obtain ⟨C6, M6, g1, g2, g3, g4, g5⟩ := zh_barred (k := 1) (by omega) f6 f7 hd5 f8
  have s7 : f_M_sequence Gm = zh_s7 M6 := by
    rw [s6]
    unfold zh_s6
    rw [zp_bd (show f_M_barred (1 : Int32) _ = _ from g4)]
  have hK6 : zh_K C6 M6 := (hK5.m g2 (fun q hq => g3 q (by omega) (by omega))).keep (g1 1 (by omega)) (g1 4 (by omega)) (g1 8 (by omega)) rfl rfl rfl rfl rfl
  have t6 : f_H_readSequence Gc = f_H_readSequence_62 (2046 + 1) (nI y) (nI t) (nI 1) C5 := by
    rw [t5, bar62 2047 0 _ C5 0 (by omega) f5, if_pos rfl]
  rcases g5 with ⟨g5, g6, g7, g8⟩ | ⟨x, p', g5, g6, g7, g8⟩
  rotate_left
  · have hx : ¬ M6 32 10 = 0 := by rw [g8]; split <;> decide
    obtain ⟨G2, d1, d2⟩ := zh_e7 hK6 g7 hx
    exact die (if 0 ≤ x then 5 else 7) C6 M6 (by split <;> decide) g8 ⟨G2, s7.trans d1, d2⟩ (by rw [t6, bar62 2046 1 _ C6 x (by omega) g5, if_neg g6])
  have t7 : f_H_readSequence Gc = f_H_readSequence_62 (2045 + 1) (nI y) (nI t) (nI 2) C6 := by
    rw [t6, bar62 2046 1 _ C6 0 (by omega) g5, if_pos rfl]
  -- soft
  have hd6 : ∀ j, j < e → C6 9 j = M6 39 j := fun j hj => by rw [g1 9 (by omega), g2 39 (by omega)]; exact hd5 j hj
  obtain ⟨C7, M7, i1, i2, i3, i4⟩ := zh_both (k := 1) (by omega) g6 g7 hd6 g8
  rcases i4 with ⟨so, i4, i5, i6, i7, i8, i9⟩ | ⟨i5, i6, i7, i8, i9⟩
  rotate_left
  · have hx : zx_up M7 32 20 (0 : Int32) 32 10 = 7 := by rw [zp_uk (by omega)]; exact i9
    obtain ⟨G2, d1, d2⟩ := zh_e8 (hK6.m (Gm' := zx_up M7 32 20 (0 : Int32)) (fun q hq => by rw [zp_ur hq]; exact i2 q hq) (fun q hq => by rw [zp_uk (by omega)]; exact i3 q (by omega) (by omega))) (by rw [hx]; decide)
    refine die 7 C7 _ (by decide) hx ⟨G2, ?_, d2⟩ ?_
    · rw [s7]
      unfold zh_s7
      rw [zp_bd (show f_M_number (1 : Int32) _ = _ from i6)]
      exact d1
    · rw [t7, f_H_readSequence_62, zp_pos (show (2 : Int32) ≤ nI 2 by decide), zp_bd (show f_U_nextBits_13 (1 : Int32) _ = _ from i5), zp_lt, zp_neg (by decide)]
  have so1 : so ≤ 1 := by have : so < 2 ^ 1 := i4; omega
  have s8 : f_M_sequence Gm = zh_t (zx_up M7 32 20 (nI so)) := by
    rw [s7]
    unfold zh_s7
    rw [zp_bd (show f_M_number (1 : Int32) _ = _ from i6)]
  -- all is read: the class's fields
  obtain ⟨C8, hC8⟩ : ∃ C8, C8 = zx_up (zx_up (zx_up (zx_up C7 11 5 (nI so)) 11 6 (nI (1 + 2 * y))) 11 9 (nI (8 + 2 * t))) 11 3 (1 : Int32) := ⟨_, rfl⟩
  obtain ⟨M8, hM8⟩ : ∃ M8, M8 = zx_up M7 32 20 (nI so) := ⟨_, rfl⟩
  have so01 : zx_01 (nI so) = true := by
    have hh : so = 0 ∨ so = 1 := by omega
    rcases hh with rfl | rfl <;> decide
  have C7r : ∀ q, q ≠ 11 → q ≠ 13 → C7 q = Gc q := fun q a b => by rw [i1 q b, g1 q b, f1 q b, zp_ur a, e1 q b, zp_ur a, c1 q b, b1 q b, a1 q b]
  have C711 : ∀ q, q ≠ 7 → q ≠ 8 → C7 11 q = Gc 11 q := fun q a b => by rw [i1 11 (by omega), g1 11 (by omega), f1 11 (by omega), zp_uk b, e1 11 (by omega), zp_uk a, c1 11 (by omega), b1 11 (by omega), a1 11 (by omega)]
  have C77 : C7 11 7 = nI (w + 1) := by rw [i1 11 (by omega), g1 11 (by omega), f1 11 (by omega), zp_uk (by omega), e1 11 (by omega), zp_us]
  have C78 : C7 11 8 = nI (h + 1) := by rw [i1 11 (by omega), g1 11 (by omega), f1 11 (by omega), zp_us]
  have M8r : ∀ q, q ≠ 32 → M8 q = Gm q := fun q a => by rw [hM8, zp_ur a, i2 q a, g2 q a, f2 q a, zp_ur a, e2 q a, zp_ur a, c2 q a, zp_ur a, b2 q a, zp_ur a, a2 q a]
  have M8k : ∀ q, q < 10 ∨ (11 < q ∧ q < 16) ∨ 20 < q → M8 32 q = Gm 32 q := fun q a => by rw [hM8, zp_uk (by omega), i3 q (by omega) (by omega), g3 q (by omega) (by omega), f3 q (by omega) (by omega), zp_uk (by omega), e3 q (by omega) (by omega), zp_uk (by omega), c3 q (by omega) (by omega), zp_uk (by omega), b3 q (by omega) (by omega), zp_uk (by omega), a3 q (by omega) (by omega)]
  have m16 : M8 32 16 = nI y := by rw [hM8, zp_uk (by omega), i3 16 (by omega) (by omega), g3 16 (by omega) (by omega), f3 16 (by omega) (by omega), zp_uk (by omega), e3 16 (by omega) (by omega), zp_uk (by omega), c3 16 (by omega) (by omega), zp_uk (by omega), b3 16 (by omega) (by omega), zp_us]
  have m17 : M8 32 17 = nI t := by rw [hM8, zp_uk (by omega), i3 17 (by omega) (by omega), g3 17 (by omega) (by omega), f3 17 (by omega) (by omega), zp_uk (by omega), e3 17 (by omega) (by omega), zp_uk (by omega), c3 17 (by omega) (by omega), zp_us]
  have m18 : M8 32 18 = nI (w + 1) := by rw [hM8, zp_uk (by omega), i3 18 (by omega) (by omega), g3 18 (by omega) (by omega), f3 18 (by omega) (by omega), zp_uk (by omega), e3 18 (by omega) (by omega), zp_us]
  have m19 : M8 32 19 = nI (h + 1) := by rw [hM8, zp_uk (by omega), i3 19 (by omega) (by omega), g3 19 (by omega) (by omega), f3 19 (by omega) (by omega), zp_us]
  have m20 : M8 32 20 = nI so := by rw [hM8, zp_us]
  have m10 : M8 32 10 = 0 := by rw [hM8, zp_uk (by omega)]; exact i9
  have hK8 : zh_K C8 M8 := (hK6.m (Gm' := M8) (fun q hq => by rw [hM8, zp_ur hq]; exact i2 q hq) (fun q hq => by rw [hM8, zp_uk (by omega)]; exact i3 q (by omega) (by omega))).keep (by rw [hC8, zp_ur (by omega), zp_ur (by omega), zp_ur (by omega), zp_ur (by omega)]; exact i1 1 (by omega)) (by rw [hC8, zp_ur (by omega), zp_ur (by omega), zp_ur (by omega), zp_ur (by omega)]; exact i1 4 (by omega)) (by rw [hC8, zp_ur (by omega), zp_ur (by omega), zp_ur (by omega), zp_ur (by omega)]; exact i1 8 (by omega)) rfl rfl rfl rfl rfl
  have x3 : C8 11 3 = 1 := by rw [hC8, zp_us]
  have x9 : C8 11 9 = nI (8 + 2 * t) := by rw [hC8, zp_uk (by omega), zp_us]
  have x6 : C8 11 6 = nI (1 + 2 * y) := by rw [hC8, zp_uk (by omega), zp_uk (by omega), zp_us]
  have x5 : C8 11 5 = nI so := by rw [hC8, zp_uk (by omega), zp_uk (by omega), zp_uk (by omega), zp_us]
  have x7 : C8 11 7 = nI (w + 1) := by rw [hC8, zp_uk (by omega), zp_uk (by omega), zp_uk (by omega), zp_uk (by omega)]; exact C77
  have x8 : C8 11 8 = nI (h + 1) := by rw [hC8, zp_uk (by omega), zp_uk (by omega), zp_uk (by omega), zp_uk (by omega)]; exact C78
  -- the class up to the comparison
  obtain ⟨r, r1, r2, r3⟩ := zh_agrees hK8 (nI (w + 1)) (nI (h + 1)) (nI y + ((4 : Int32) * nI t)) (nI (1 + 2 * y)) (nI (8 + 2 * t))
  have t8 : f_H_readSequence Gc = zx_if (r = 0) (some ((6 : Int32), C8)) (some ((0 : Int32), C8)) := by
    have e127 : f_H_readSequence Gc = f_H_readSequence_127 (nI y) (nI t) (nI so) C7 := by
      rw [t7, f_H_readSequence_62, zp_pos (show (2 : Int32) ≤ nI 2 by decide), zp_bd (show f_U_nextBits_13 (1 : Int32) _ = _ from i5), zp_lt, zp_pos (nI_pos' (by omega))]
      have hh : so = 0 ∨ so = 1 := by omega
      rcases hh with rfl | rfl
      · rw [zp_pos (show ¬ nI 0 = (1 : Int32) by decide)]; rfl
      · rw [zp_neg (show ¬ ¬ nI 1 = (1 : Int32) from fun z => z rfl)]; rfl
    have e140 : f_H_readSequence_127 (nI y) (nI t) (nI so) C7 = f_H_readSequence_140 (nI y) (nI t) (nI (1 + 2 * y)) (zx_up C7 11 5 (nI so)) := by
      unfold f_H_readSequence_127
      rw [zp_gd so01, zp_lt]
      have hh : y = 0 ∨ y = 1 := by omega
      rcases hh with rfl | rfl
      · rw [zp_neg (show ¬ ¬ nI 0 = 0 from fun z => z rfl)]; rfl
      · rw [zp_pos (show ¬ nI 1 = 0 by decide)]; rfl
    have e156 : f_H_readSequence_140 (nI y) (nI t) (nI (1 + 2 * y)) (zx_up C7 11 5 (nI so)) = f_H_readSequence_156 (nI y) (nI t) (nI (8 + 2 * t)) (zx_up (zx_up C7 11 5 (nI so)) 11 6 (nI (1 + 2 * y))) := by
      unfold f_H_readSequence_140
      rw [zp_lt]
      have hh : t = 0 ∨ t = 1 := by omega
      rcases hh with rfl | rfl
      · rw [zp_pos (show ¬ nI 0 = (1 : Int32) by decide)]; rfl
      · rw [zp_neg (show ¬ ¬ nI 1 = (1 : Int32) from fun z => z rfl)]; rfl
    rw [e127, e140, e156]
    unfold f_H_readSequence_156 f_H_readSequence_201
    rw [zp_lt, zp_gd (by decide), zp_lt, ← hC8, x7, x8, x6, x9, zp_bd r2]
  obtain ⟨fl, fl1, fl2, fl3⟩ := zh_tail hK8
  have s9 : f_M_sequence Gm = some (0, if fl = 1 then M8 else zx_up M8 32 10 (6 : Int32)) := by
    rw [s8, ← hM8, fl2, zh_239 M8 fl1]
    unfold zh_code
    rw [if_pos m10]
  have same : fl = 1 ↔ r = 1 := by
    have ep : (1 : Int32) + ((2 : Int32) * nI y) = nI (1 + 2 * y) := by rw [show (2 : Int32) * nI y = nI (2 * y) from pk_mul 2 y]; exact nI_add 1 _
    have ed : (8 : Int32) + ((2 : Int32) * nI t) = nI (8 + 2 * t) := by rw [show (2 : Int32) * nI t = nI (2 * t) from pk_mul 2 t]; exact nI_add 8 _
    rw [fl3, r3, m16, m17, m18, m19, ep, ed]
  rcases r1 with rfl | rfl
  · have nf : ¬ fl = 1 := fun z => absurd (same.mp z) (by decide)
    exact ⟨C8, zx_up M8 32 10 (6 : Int32), 6, by rw [t8, zp_pos rfl], by rw [s9, if_neg nf], zp_us, fun z => absurd z (by decide)⟩
  · have yf : fl = 1 := same.mpr rfl
    refine ⟨C8, M8, 0, by rw [t8, zp_neg (by decide)], by rw [s9, if_pos yf], m10, fun _ => ⟨fun q a b => by rw [hC8, zp_ur a, zp_ur a, zp_ur a, zp_ur a]; exact C7r q a b, fun q a => by rw [hC8, zp_uk (by omega), zp_uk (by omega), zp_uk (by omega), zp_uk (by omega)]; exact C711 q (by omega) (by omega), M8r, M8k, y, t, w + 1, h + 1, so, cy, t2', by omega, by omega, by omega, by omega, so1, x3, x5, x6, x7, x8, x9, m16, m17, m18, m19, m20⟩⟩
