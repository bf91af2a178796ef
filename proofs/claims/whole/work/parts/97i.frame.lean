/-! the frame's head, on both sides -/
def zh_f5 (G : zx_G) : Option (Int32 × zx_G) := zx_if (¬ (G 32 20) = (1 : Int32)) (f_M_frame_56 (0 : Int32) G) (zx_bd (f_M_number (2 : Int32) G) fun r G1 => f_M_frame_56 r G1)
def zh_f4 (G : zx_G) : Option (Int32 × zx_G) := zx_bd (f_M_number (3 : Int32) G) fun r G1 => zh_f5 (zx_up G1 32 23 r)
def zh_f3 (G : zx_G) : Option (Int32 × zx_G) := zx_bd (f_M_number (1 : Int32) G) fun r G1 => zh_f4 (zx_up G1 32 22 r)
def zh_f2 (G : zx_G) : Option (Int32 × zx_G) := zx_bd (f_M_number (6 : Int32) G) fun r G1 => zh_f3 (zx_up G1 32 21 r)
def zh_f1 (G : zx_G) : Option (Int32 × zx_G) := zx_bd (f_M_barred (1 : Int32) G) fun _ G1 => zh_f2 G1
theorem zh_f0 (G : zx_G) : f_M_frame G = zx_bd (f_M_barred (2 : Int32) G) fun _ G1 => zh_f1 G1 := rfl
theorem zh_56 {e p : Nat} {s : Int32} {G : zx_G} (hM : zh_M p e G) : f_M_frame_56 s G = some (0, zx_up (zx_up (zx_up G 32 24 s) 32 25 (nI (8 * ((p + 7) / 8)))) 32 26 (nI (8 * e))) := by
  obtain ⟨m1, m2, m3, m4⟩ := hM
  unfold f_M_frame_56
  rw [zp_lt, zp_gd (by decide), zp_uk (by omega), m3, show nI p + (7 : Int32) = nI (p + 7) from nI_add p 7, show zx_div (nI (p + 7)) (8 : Int32) = nI ((p + 7) / 8) from pk_div (d := 8) (by omega) (by omega) (by omega), show (8 : Int32) * nI ((p + 7) / 8) = nI (8 * ((p + 7) / 8)) from pk_mul 8 _, zp_lt, zp_lt, zp_uk (by omega), zp_uk (by omega), m4]
theorem zh_M.up {p e k : Nat} {v : Int32} {G : zx_G} (h : zh_M p e G) (a : 11 ≠ k) (b : 12 ≠ k) : zh_M p e (zx_up G 32 k v) := ⟨h.1, h.2.1, by rw [zp_uk a]; exact h.2.2.1, by rw [zp_uk b]; exact h.2.2.2⟩
theorem zh_d5 {e p : Nat} {G : zx_G} (hM : zh_M p e G) (h : ¬ G 32 10 = 0) : ∃ G', zh_f5 G = some (0, G') ∧ G' 32 10 = G 32 10 := by
  unfold zh_f5
  by_cases c : G 32 20 = (1 : Int32)
  · obtain ⟨G1, r, p', a1, a2, a3, a4⟩ := zh_dead (k := 2) (by omega) hM h
    rw [zp_neg (fun z => z c), zp_bd (show f_M_number (2 : Int32) G = _ from a1), zh_56 a4]
    exact ⟨_, rfl, by rw [zp_uk (by omega), zp_uk (by omega), zp_uk (by omega)]; exact a3 10 (by omega)⟩
  · rw [zp_pos c, zh_56 hM]
    exact ⟨_, rfl, by rw [zp_uk (by omega), zp_uk (by omega), zp_uk (by omega)]⟩
theorem zh_d4 {e p : Nat} {G : zx_G} (hM : zh_M p e G) (h : ¬ G 32 10 = 0) : ∃ G', zh_f4 G = some (0, G') ∧ G' 32 10 = G 32 10 := by
  obtain ⟨G1, r, p', a1, a2, a3, a4⟩ := zh_dead (k := 3) (by omega) hM h
  have h1 : zx_up G1 32 23 r 32 10 = G 32 10 := by rw [zp_uk (by omega)]; exact a3 10 (by omega)
  obtain ⟨G2, b1, b2⟩ := zh_d5 (a4.up (k := 23) (v := r) (by omega) (by omega)) (by rw [h1]; exact h)
  unfold zh_f4
  rw [zp_bd (show f_M_number (3 : Int32) G = _ from a1)]
  exact ⟨G2, b1, b2.trans h1⟩
theorem zh_d3 {e p : Nat} {G : zx_G} (hM : zh_M p e G) (h : ¬ G 32 10 = 0) : ∃ G', zh_f3 G = some (0, G') ∧ G' 32 10 = G 32 10 := by
  obtain ⟨G1, r, p', a1, a2, a3, a4⟩ := zh_dead (k := 1) (by omega) hM h
  have h1 : zx_up G1 32 22 r 32 10 = G 32 10 := by rw [zp_uk (by omega)]; exact a3 10 (by omega)
  obtain ⟨G2, b1, b2⟩ := zh_d4 (a4.up (k := 22) (v := r) (by omega) (by omega)) (by rw [h1]; exact h)
  unfold zh_f3
  rw [zp_bd (show f_M_number (1 : Int32) G = _ from a1)]
  exact ⟨G2, b1, b2.trans h1⟩
theorem zh_d2 {e p : Nat} {G : zx_G} (hM : zh_M p e G) (h : ¬ G 32 10 = 0) : ∃ G', zh_f2 G = some (0, G') ∧ G' 32 10 = G 32 10 := by
  obtain ⟨G1, r, p', a1, a2, a3, a4⟩ := zh_dead (k := 6) (by omega) hM h
  have h1 : zx_up G1 32 21 r 32 10 = G 32 10 := by rw [zp_uk (by omega)]; exact a3 10 (by omega)
  obtain ⟨G2, b1, b2⟩ := zh_d3 (a4.up (k := 21) (v := r) (by omega) (by omega)) (by rw [h1]; exact h)
  unfold zh_f2
  rw [zp_bd (show f_M_number (6 : Int32) G = _ from a1)]
  exact ⟨G2, b1, b2.trans h1⟩
theorem zh_d1 {e p : Nat} {G : zx_G} (hM : zh_M p e G) (h : ¬ G 32 10 = 0) : ∃ G', zh_f1 G = some (0, G') ∧ G' 32 10 = G 32 10 := by
  obtain ⟨G1, p', a1, a2, a3, a4⟩ := zh_deadB (k := 1) (by omega) hM h
  have h1 : G1 32 10 = G 32 10 := a3 10 (by omega)
  obtain ⟨G2, b1, b2⟩ := zh_d2 a4 (by rw [h1]; exact h)
  unfold zh_f1
  rw [zp_bd (show f_M_barred (1 : Int32) G = _ from a1)]
  exact ⟨G2, b1, b2.trans h1⟩
theorem zh_d0 {e p : Nat} {G : zx_G} (hM : zh_M p e G) (h : ¬ G 32 10 = 0) : ∃ G', f_M_frame G = some (0, G') ∧ G' 32 10 = G 32 10 := by
  obtain ⟨G1, p', a1, a2, a3, a4⟩ := zh_deadB (k := 2) (by omega) hM h
  have h1 : G1 32 10 = G 32 10 := a3 10 (by omega)
  obtain ⟨G2, b1, b2⟩ := zh_d1 a4 (by rw [h1]; exact h)
  rw [zh_f0, zp_bd (show f_M_barred (2 : Int32) G = _ from a1)]
  exact ⟨G2, b1, b2.trans h1⟩
/-- the class at the end of its bits -/
theorem zh_C.row {p e : Nat} {G G' : zx_G} (h : zh_C p e G) (e13 : G' 13 = G 13) : zh_C p e G' := by
  unfold zh_C
  rw [e13]
  exact h
theorem zh_114 {s : Int32} {G : zx_G} (h : G 11 12 < 0 ∨ s < 0 ∨ G 11 10 < 0) : ∃ G', f_H_readFrame_114 s G = some (7, G') := by
  unfold f_H_readFrame_114 f_H_readFrame_138
  rw [zp_lt, zp_uk (by omega), zp_uk (by omega), zp_us]
  by_cases c1 : G 11 10 < 0
  · exact ⟨_, by rw [zp_pos c1]⟩
  · rw [zp_neg c1]
    by_cases c2 : G 11 12 < 0
    · exact ⟨_, by rw [zp_pos c2]⟩
    · rw [zp_neg c2]
      have c3 : s < 0 := by rcases h with z | z | z; exact absurd z c2; exact z; exact absurd z c1
      exact ⟨_, by rw [zp_neg (fun z => by have := Int32.not_lt.mpr z; exact this c3)]⟩
theorem zh_79e {e : Nat} {s : Int32} {G : zx_G} (hs : zx_01 s = true) (hC : zh_C (8 * e) e G) : ∃ G', f_H_readFrame_79 s G = some (7, G') := by
  obtain ⟨G1, a1, a2, a3⟩ := zh_end (k := 3) (by omega) (by omega) (hC.row (G' := zx_up G 11 11 s) (zp_ur (by omega)))
  obtain ⟨G2, b1, b2, b3⟩ := zh_end (k := 2) (by omega) (by omega) (a3.row (G' := zx_up G1 11 12 (-1 : Int32)) (zp_ur (by omega)))
  unfold f_H_readFrame_79
  rw [zp_gd hs, zp_lt, zp_bd (show f_U_nextBits_13 (3 : Int32) _ = _ from a2), zp_lt]
  by_cases c : zx_up G1 11 12 (-1 : Int32) 11 5 = 0
  · rw [zp_pos c]
    exact zh_114 (Or.inl (by rw [zp_us]; decide))
  · rw [zp_neg c, zp_bd (show f_U_nextBits_13 (2 : Int32) _ = _ from b2)]
    exact zh_114 (Or.inr (Or.inl (by decide)))
theorem zh_79f {e : Nat} {G : zx_G} (hC : zh_C (8 * e) e G) : ∃ G', zx_if ((zx_up G 11 12 (-1 : Int32)) 11 5 = 0) (f_H_readFrame_114 (0 : Int32) (zx_up G 11 12 (-1 : Int32))) (zx_bd (f_U_nextBits_13 (2 : Int32) (zx_up G 11 12 (-1 : Int32))) fun r_9 G_8 => f_H_readFrame_114 r_9 G_8) = some (7, G') := by
  obtain ⟨G2, b1, b2, b3⟩ := zh_end (k := 2) (by omega) (by omega) (hC.row (G' := zx_up G 11 12 (-1 : Int32)) (zp_ur (by omega)))
  by_cases c : zx_up G 11 12 (-1 : Int32) 11 5 = 0
  · rw [zp_pos c]
    exact zh_114 (Or.inl (by rw [zp_us]; decide))
  · rw [zp_neg c, zp_bd (show f_U_nextBits_13 (2 : Int32) _ = _ from b2)]
    exact zh_114 (Or.inr (Or.inl (by decide)))
/-- the class's frame at its end -/
theorem zh_fin {p e q lv sg : Nat} {G : zx_G} (hC : zh_C p e G) (h10 : G 11 10 = nI q) (h12 : G 11 12 = nI lv) (hq : q ≤ 63) (hlv : lv ≤ 7) (hsg : sg ≤ 3) : ∃ G', f_H_readFrame_114 (nI sg) G = some (0, G') ∧ (∀ r, r ≠ 11 → r ≠ 13 → G' r = G r) ∧ (∀ r, r ≠ 4 → r < 13 → G' 11 r = G 11 r) ∧ G' 11 13 = nI sg ∧ G' 11 14 = nI ((p + 7) / 8) ∧ G' 11 15 = nI e ∧ G' 11 4 = 1 := by
  obtain ⟨c1, c2, c3, c4, c5⟩ := hC
  obtain ⟨H, k1, k2, k3, k4⟩ : ∃ H, f_U_skipRestOfByte_13 (zx_up G 11 13 (nI sg)) = some (0, H) ∧ (∀ r, r ≠ 13 → H r = zx_up G 11 13 (nI sg) r) ∧ H 13 1 = nI ((p + 7) / 8) ∧ H 13 2 = nI e := by
    unfold f_U_skipRestOfByte_13 f_U_skipRestOfByte_13_22
    rw [zp_ur (by omega), c5]
    by_cases c : p % 8 = 0
    · refine ⟨zx_up G 11 13 (nI sg), by rw [c, zp_pos (show nI 0 = 0 from rfl)], fun _ _ => rfl, ?_, ?_⟩
      · rw [zp_ur (by omega), c3]; congr 1; omega
      · rw [zp_ur (by omega)]; exact c4
    · refine ⟨zx_up (zx_up (zx_up G 11 13 (nI sg)) 13 3 (0 : Int32)) 13 1 (nI (p / 8 + 1)), ?_, fun r hr => by rw [zp_ur hr, zp_ur hr], ?_, ?_⟩
      · rw [zp_neg (nI_ne0 (by omega) (by omega)), zp_lt, zp_lt, zp_uk (by omega), zp_ur (by omega), c3, nI_1]
      · rw [zp_us]; congr 1; omega
      · rw [zp_uk (by omega), zp_uk (by omega), zp_ur (by omega)]; exact c4
  refine ⟨zx_up (zx_up (zx_up H 11 14 (nI ((p + 7) / 8))) 11 15 (nI e)) 11 4 (1 : Int32), ?_, fun r a b => by rw [zp_ur a, zp_ur a, zp_ur a, k2 r b, zp_ur a], fun r a b => by rw [zp_uk a, zp_uk (by omega), zp_uk (by omega), k2 11 (by omega), zp_uk (by omega)], ?_, ?_, ?_, zp_us⟩
  · unfold f_H_readFrame_114
    rw [zp_lt, zp_uk (by omega), zp_uk (by omega), zp_us, h10, h12, zp_neg (nI_pos (by omega)), zp_neg (nI_pos (by omega)), zp_pos (nI_pos' (by omega)), zp_bd k1, k3, zp_lt, zp_ur (by omega), k4, zp_lt, zp_gd (by decide), zp_lt]
  · rw [zp_uk (by omega), zp_uk (by omega), zp_uk (by omega), k2 11 (by omega), zp_us]
  · rw [zp_uk (by omega), zp_uk (by omega), zp_us]
  · rw [zp_uk (by omega), zp_us]
theorem zh_barred {e k p : Nat} {Gc Gm : zx_G} (hk : k ≤ 8) (hC : zh_C p e Gc) (hM : zh_M p e Gm) (hd : ∀ j, j < e → Gc 9 j = Gm 39 j) (h0 : Gm 32 10 = 0) : ∃ Gc' Gm', (∀ q, q ≠ 13 → Gc' q = Gc q) ∧ (∀ q, q ≠ 32 → Gm' q = Gm q) ∧ (∀ q, q ≠ 10 → q ≠ 11 → Gm' 32 q = Gm 32 q) ∧ f_M_barred (nI k) Gm = some (0, Gm') ∧ ((f_U_nextBits_13 (nI k) Gc = some (0, Gc') ∧ zh_C (p + k) e Gc' ∧ zh_M (p + k) e Gm' ∧ Gm' 32 10 = 0) ∨ (∃ x : Int32, ∃ p', f_U_nextBits_13 (nI k) Gc = some (x, Gc') ∧ ¬ x = 0 ∧ zh_M p' e Gm' ∧ Gm' 32 10 = if 0 ≤ x then 5 else 7)) := by
  obtain ⟨Gc', Gm', a1, a2, a3, a4⟩ := zh_both hk hC hM hd h0
  rcases a4 with ⟨v, b0, b1, b2, b3, b4, b5⟩ | ⟨b1, b2, b3, b4, b5⟩
  · have v256 : v < 2 ^ 31 := by
      have : 2 ^ k ≤ 2 ^ 8 := Nat.pow_le_pow_right (by omega) hk
      omega
    by_cases c : v = 0
    · refine ⟨Gc', Gm', a1, a2, a3, ?_, Or.inl ⟨by rw [b1, c]; rfl, b3, b4, b5⟩⟩
      unfold f_M_barred f_M_barred_13
      rw [zp_bd b2, c, zp_pos (show nI 0 = 0 from rfl)]
    · have cn : ¬ nI v = 0 := nI_ne0 (by omega) v256
      refine ⟨Gc', zx_up Gm' 32 10 (5 : Int32), a1, fun q hq => by rw [zp_ur hq]; exact a2 q hq, fun q x y => by rw [zp_uk x]; exact a3 q x y, ?_, Or.inr ⟨nI v, p + k, b1, cn, b4.up (by omega) (by omega), by rw [zp_us, if_pos (nI_pos' v256)]⟩⟩
      unfold f_M_barred f_M_barred_13
      rw [zp_bd b2, zp_neg cn, zp_bd (zb_fail1 b5 5)]
  · refine ⟨Gc', Gm', a1, a2, a3, ?_, Or.inr ⟨-1, 8 * e, b1, by decide, b4, by rw [b5]; decide⟩⟩
    unfold f_M_barred f_M_barred_13
    rw [zp_bd b2, zp_pos (show (0 : Int32) = 0 from rfl)]
/-- what a frame's head leaves -/
def zh_Fr (e : Nat) (Bc Bm Gc Gm : zx_G) : Prop := (∀ q, q ≠ 11 → q ≠ 13 → Gc q = Bc q) ∧ (∀ q, q < 4 ∨ (4 < q ∧ q < 10) → Gc 11 q = Bc 11 q) ∧ (∀ q, q ≠ 32 → Gm q = Bm q) ∧ (∀ q, q < 10 ∨ (11 < q ∧ q < 21) ∨ 26 < q → Gm 32 q = Bm 32 q) ∧ ∃ q s lv sg fr : Nat, q ≤ 63 ∧ s ≤ 1 ∧ lv ≤ 7 ∧ sg ≤ 3 ∧ fr ≤ 201 ∧ Gc 11 10 = nI q ∧ Gm 32 21 = nI q ∧ Gc 11 11 = nI s ∧ Gm 32 22 = nI s ∧ Gc 11 12 = nI lv ∧ Gm 32 23 = nI lv ∧ Gc 11 13 = nI sg ∧ Gm 32 24 = nI sg ∧ Gc 11 14 = nI fr ∧ Gm 32 25 = nI (8 * fr) ∧ Gc 11 15 = nI e ∧ Gm 32 26 = nI (8 * e) ∧ Gc 11 4 = 1
theorem zh_frame {e p so : Nat} {Gc Gm : zx_G} (hC : zh_C p e Gc) (hM : zh_M p e Gm) (hd : ∀ j, j < e → Gc 9 j = Gm 39 j) (h0 : Gm 32 10 = 0) (hso : so ≤ 1) (c5 : Gc 11 5 = nI so) (m20 : Gm 32 20 = nI so) : ∃ (Gc' Gm' : zx_G) (v : Int32), f_H_readFrame Gc = some (v, Gc') ∧ f_M_frame Gm = some (0, Gm') ∧ Gm' 32 10 = v ∧ (v = 0 → zh_Fr e Gc Gm Gc' Gm') := by
  have die : ∀ (v : Int32) (Gc' G1 : zx_G), ¬ v = 0 → G1 32 10 = v → (∃ G2, f_M_frame Gm = some (0, G2) ∧ G2 32 10 = G1 32 10) → f_H_readFrame Gc = some (v, Gc') → ∃ (Gc' Gm' : zx_G) (v : Int32), f_H_readFrame Gc = some (v, Gc') ∧ f_M_frame Gm = some (0, Gm') ∧ Gm' 32 10 = v ∧ (v = 0 → zh_Fr e Gc Gm Gc' Gm') := by
    intro v Gc' G1 hv h1 h2 h3
    obtain ⟨G2, h2, h4⟩ := h2
    exact ⟨Gc', G2, v, h3, h2, h4.trans h1, fun z => absurd z hv⟩
  -- the kind
  obtain ⟨C1, M1, a1, a2, a3, a4, a5⟩ := zh_barred (k := 2) (by omega) hC hM hd h0
  have s1 : f_M_frame Gm = zh_f1 M1 := by rw [zh_f0, zp_bd (show f_M_barred (2 : Int32) Gm = _ from a4)]
  rcases a5 with ⟨a5, a6, a7, a8⟩ | ⟨x, p', a5, a6, a7, a8⟩
  rotate_left
  · have hx : ¬ M1 32 10 = 0 := by rw [a8]; split <;> decide
    obtain ⟨G2, d1, d2⟩ := zh_d1 a7 hx
    refine die (if 0 ≤ x then 5 else 7) C1 M1 (by split <;> decide) a8 ⟨G2, s1.trans d1, d2⟩ ?_
    unfold f_H_readFrame f_H_readFrame_23
    rw [zp_bd (show f_U_nextBits_13 (2 : Int32) Gc = _ from a5), zp_lt, zp_neg a6]
    by_cases c : 0 ≤ x
    · rw [zp_pos c, if_pos c]
    · rw [zp_neg c, if_neg c]
  -- shown
  have hd1 : ∀ j, j < e → C1 9 j = M1 39 j := fun j hj => by rw [a1 9 (by omega), a2 39 (by omega)]; exact hd j hj
  obtain ⟨C2, M2, b1, b2, b3, b4, b5⟩ := zh_barred (k := 1) (by omega) a6 a7 hd1 a8
  have s2 : f_M_frame Gm = zh_f2 M2 := by
    rw [s1]
    unfold zh_f1
    rw [zp_bd (show f_M_barred (1 : Int32) M1 = _ from b4)]
  have t1 : f_H_readFrame Gc = zx_bd (f_U_nextBits_13 (1 : Int32) C1) fun r_7 G_6 => zx_lt r_7 fun x2_9 => zx_if (x2_9 = 0) (zx_bd (f_U_nextBits_13 (6 : Int32) G_6) fun r_12 G_11 => zx_lt (zx_up G_11 11 10 r_12) fun G_14 => zx_bd (f_U_nextBits_13 (1 : Int32) G_14) fun r_16 G_15 => zx_if (¬ r_16 = (1 : Int32)) (f_H_readFrame_79 (0 : Int32) G_15) (f_H_readFrame_79 (1 : Int32) G_15)) (zx_if (0 ≤ x2_9) (f_H_readFrame_47 (5 : Int32) G_6) (f_H_readFrame_47 (7 : Int32) G_6)) := by
    unfold f_H_readFrame
    rw [zp_bd (show f_U_nextBits_13 (2 : Int32) Gc = _ from a5), zp_lt, zp_pos rfl]
  rcases b5 with ⟨b5, b6, b7, b8⟩ | ⟨x, p', b5, b6, b7, b8⟩
  rotate_left
  · have hx : ¬ M2 32 10 = 0 := by rw [b8]; split <;> decide
    obtain ⟨G2, d1, d2⟩ := zh_d2 b7 hx
    refine die (if 0 ≤ x then 5 else 7) C2 M2 (by split <;> decide) b8 ⟨G2, s2.trans d1, d2⟩ ?_
    unfold f_H_readFrame_47 at t1
    rw [t1, zp_bd (show f_U_nextBits_13 (1 : Int32) C1 = _ from b5), zp_lt, zp_neg b6]
    by_cases c : 0 ≤ x
    · rw [zp_pos c, if_pos c]
    · rw [zp_neg c, if_neg c]
  -- the quality
  have hd2 : ∀ j, j < e → C2 9 j = M2 39 j := fun j hj => by rw [b1 9 (by omega), b2 39 (by omega)]; exact hd1 j hj
  obtain ⟨C3, M3, c1, c2, c3, c4⟩ := zh_both (k := 6) (by omega) b6 b7 hd2 b8
  have t2 : ∀ r C3, f_U_nextBits_13 (6 : Int32) C2 = some (r, C3) → f_H_readFrame Gc = zx_bd (f_U_nextBits_13 (1 : Int32) (zx_up C3 11 10 r)) fun r_16 G_15 => zx_if (¬ r_16 = (1 : Int32)) (f_H_readFrame_79 (0 : Int32) G_15) (f_H_readFrame_79 (1 : Int32) G_15) := by
    intro r C3 hr
    rw [t1, zp_bd (show f_U_nextBits_13 (1 : Int32) C1 = _ from b5), zp_lt, zp_pos rfl, zp_bd hr, zp_lt]
  have n01 : ¬ (-1 : Int32) = (1 : Int32) := by decide
  rcases c4 with ⟨q, q0, q1, q2, q3, q4, q5⟩ | ⟨q1, q2, q3, q4, q5⟩
  rotate_left
  · obtain ⟨C4, e1, e2, e3⟩ := zh_end (k := 1) (by omega) (by omega) (q3.row (G' := zx_up C3 11 10 (-1 : Int32)) (zp_ur (by omega)))
    obtain ⟨C5, e4⟩ := zh_79e (s := 0) (by decide) e3
    have hx : zx_up M3 32 21 (0 : Int32) 32 10 = 7 := by rw [zp_uk (by omega)]; exact q5
    obtain ⟨G2, d1, d2⟩ := zh_d3 (q4.up (k := 21) (v := (0 : Int32)) (by omega) (by omega)) (by rw [hx]; decide)
    refine die 7 C5 _ (by decide) hx ⟨G2, ?_, d2⟩ ?_
    · rw [s2]
      unfold zh_f2
      rw [zp_bd (show f_M_number (6 : Int32) M2 = _ from q2)]
      exact d1
    · rw [t2 _ _ q1, zp_bd (show f_U_nextBits_13 (1 : Int32) _ = _ from e2), zp_pos n01]
      exact e4
  have q64 : q ≤ 63 := by have : q < 2 ^ 6 := q0; omega
  have s3 : f_M_frame Gm = zh_f3 (zx_up M3 32 21 (nI q)) := by
    rw [s2]
    unfold zh_f2
    rw [zp_bd (show f_M_number (6 : Int32) M2 = _ from q2)]
  -- still
  have hd3 : ∀ j, j < e → zx_up C3 11 10 (nI q) 9 j = zx_up M3 32 21 (nI q) 39 j := fun j hj => by rw [zp_ur (by omega), zp_ur (by omega), c1 9 (by omega), c2 39 (by omega)]; exact hd2 j hj
  obtain ⟨C4, M4, e1, e2, e3, e4⟩ := zh_both (k := 1) (by omega) (q3.row (G' := zx_up C3 11 10 (nI q)) (zp_ur (by omega))) (q4.up (k := 21) (v := nI q) (by omega) (by omega)) hd3 (by rw [zp_uk (by omega)]; exact q5)
  rcases e4 with ⟨s, f0, f1, f2, f3, f4, f5⟩ | ⟨f1, f2, f3, f4, f5⟩
  rotate_left
  · obtain ⟨C5, g1⟩ := zh_79e (s := 0) (by decide) f3
    have hx : zx_up M4 32 22 (0 : Int32) 32 10 = 7 := by rw [zp_uk (by omega)]; exact f5
    obtain ⟨G2, d1, d2⟩ := zh_d4 (f4.up (k := 22) (v := (0 : Int32)) (by omega) (by omega)) (by rw [hx]; decide)
    refine die 7 C5 _ (by decide) hx ⟨G2, ?_, d2⟩ ?_
    · rw [s3]
      unfold zh_f3
      rw [zp_bd (show f_M_number (1 : Int32) _ = _ from f2)]
      exact d1
    · rw [t2 _ _ q1, zp_bd (show f_U_nextBits_13 (1 : Int32) _ = _ from f1), zp_pos n01]
      exact g1
  have s1' : s ≤ 1 := by have : s < 2 ^ 1 := f0; omega
  have s01 : zx_01 (nI s) = true := by
    have hh : s = 0 ∨ s = 1 := by omega
    rcases hh with rfl | rfl <;> decide
  have t3 : f_H_readFrame Gc = f_H_readFrame_79 (nI s) C4 := by
    rw [t2 _ _ q1, zp_bd (show f_U_nextBits_13 (1 : Int32) _ = _ from f1)]
    have hh : s = 0 ∨ s = 1 := by omega
    rcases hh with rfl | rfl
    · rw [zp_pos (show ¬ nI 0 = (1 : Int32) by decide)]; rfl
    · rw [zp_neg (show ¬ ¬ nI 1 = (1 : Int32) from fun z => z rfl)]; rfl
  have s4 : f_M_frame Gm = zh_f4 (zx_up M4 32 22 (nI s)) := by
    rw [s3]
    unfold zh_f3
    rw [zp_bd (show f_M_number (1 : Int32) _ = _ from f2)]
  -- the level
  have hd4 : ∀ j, j < e → zx_up C4 11 11 (nI s) 9 j = zx_up M4 32 22 (nI s) 39 j := fun j hj => by rw [zp_ur (by omega), zp_ur (by omega), e1 9 (by omega), e2 39 (by omega)]; exact hd3 j hj
  obtain ⟨C5, M5, g1, g2, g3, g4⟩ := zh_both (k := 3) (by omega) (f3.row (G' := zx_up C4 11 11 (nI s)) (zp_ur (by omega))) (f4.up (k := 22) (v := nI s) (by omega) (by omega)) hd4 (by rw [zp_uk (by omega)]; exact f5)
  rcases g4 with ⟨lv, h1, h2, h3, h4, h5, h6⟩ | ⟨h2, h3, h4, h5, h6⟩
  rotate_left
  · obtain ⟨C6, k1⟩ := zh_79f h4
    have hx : zx_up M5 32 23 (0 : Int32) 32 10 = 7 := by rw [zp_uk (by omega)]; exact h6
    obtain ⟨G2, d1, d2⟩ := zh_d5 (h5.up (k := 23) (v := (0 : Int32)) (by omega) (by omega)) (by rw [hx]; decide)
    refine die 7 C6 _ (by decide) hx ⟨G2, ?_, d2⟩ ?_
    · rw [s4]
      unfold zh_f4
      rw [zp_bd (show f_M_number (3 : Int32) _ = _ from h3)]
      exact d1
    · rw [t3]
      unfold f_H_readFrame_79
      rw [zp_gd s01, zp_lt, zp_bd (show f_U_nextBits_13 (3 : Int32) _ = _ from h2), zp_lt]
      exact k1
  have lv8 : lv ≤ 7 := by have : lv < 2 ^ 3 := h1; omega
  have s5 : f_M_frame Gm = zh_f5 (zx_up M5 32 23 (nI lv)) := by
    rw [s4]
    unfold zh_f4
    rw [zp_bd (show f_M_number (3 : Int32) _ = _ from h3)]
  have e11 : zx_up C5 11 12 (nI lv) 11 5 = nI so := by
    rw [zp_uk (by omega), g1 11 (by omega), zp_uk (by omega), e1 11 (by omega), zp_uk (by omega), c1 11 (by omega), b1 11 (by omega), a1 11 (by omega)]
    exact c5
  have e20 : zx_up M5 32 23 (nI lv) 32 20 = nI so := by
    rw [zp_uk (by omega), g3 20 (by omega) (by omega), zp_uk (by omega), e3 20 (by omega) (by omega), zp_uk (by omega), c3 20 (by omega) (by omega), b3 20 (by omega) (by omega), a3 20 (by omega) (by omega)]
    exact m20
  have t4 : f_H_readFrame Gc = zx_if (nI so = 0) (f_H_readFrame_114 (0 : Int32) (zx_up C5 11 12 (nI lv))) (zx_bd (f_U_nextBits_13 (2 : Int32) (zx_up C5 11 12 (nI lv))) fun r_9 G_8 => f_H_readFrame_114 r_9 G_8) := by
    rw [t3]
    unfold f_H_readFrame_79
    rw [zp_gd s01, zp_lt, zp_bd (show f_U_nextBits_13 (3 : Int32) _ = _ from h2), zp_lt, e11]
  have hC6 : zh_C (p + 2 + 1 + 6 + 1 + 3) e (zx_up C5 11 12 (nI lv)) := h4.row (zp_ur (by omega))
  have hM6 : zh_M (p + 2 + 1 + 6 + 1 + 3) e (zx_up M5 32 23 (nI lv)) := h5.up (by omega) (by omega)
  have h06 : zx_up M5 32 23 (nI lv) 32 10 = 0 := by rw [zp_uk (by omega)]; exact h6
  -- rows before the end
  have cr : ∀ r, r ≠ 11 → r ≠ 13 → zx_up C5 11 12 (nI lv) r = Gc r := fun r x y => by rw [zp_ur x, g1 r y, zp_ur x, e1 r y, zp_ur x, c1 r y, b1 r y, a1 r y]
  have cu : ∀ r, r < 10 → zx_up C5 11 12 (nI lv) 11 r = Gc 11 r := fun r x => by rw [zp_uk (by omega), g1 11 (by omega), zp_uk (by omega), e1 11 (by omega), zp_uk (by omega), c1 11 (by omega), b1 11 (by omega), a1 11 (by omega)]
  have mr : ∀ r, r ≠ 32 → zx_up M5 32 23 (nI lv) r = Gm r := fun r x => by rw [zp_ur x, g2 r x, zp_ur x, e2 r x, zp_ur x, c2 r x, b2 r x, a2 r x]
  have mu : ∀ r, r < 10 ∨ (11 < r ∧ r < 21) ∨ 26 < r → zx_up M5 32 23 (nI lv) 32 r = Gm 32 r := fun r x => by rw [zp_uk (by omega), g3 r (by omega) (by omega), zp_uk (by omega), e3 r (by omega) (by omega), zp_uk (by omega), c3 r (by omega) (by omega), b3 r (by omega) (by omega), a3 r (by omega) (by omega)]
  have x10 : zx_up C5 11 12 (nI lv) 11 10 = nI q := by rw [zp_uk (by omega), g1 11 (by omega), zp_uk (by omega), e1 11 (by omega), zp_us]
  have x11 : zx_up C5 11 12 (nI lv) 11 11 = nI s := by rw [zp_uk (by omega), g1 11 (by omega), zp_us]
  have x12 : zx_up C5 11 12 (nI lv) 11 12 = nI lv := zp_us
  have y21 : zx_up M5 32 23 (nI lv) 32 21 = nI q := by rw [zp_uk (by omega), g3 21 (by omega) (by omega), zp_uk (by omega), e3 21 (by omega) (by omega), zp_us]
  have y22 : zx_up M5 32 23 (nI lv) 32 22 = nI s := by rw [zp_uk (by omega), g3 22 (by omega) (by omega), zp_us]
  have y23 : zx_up M5 32 23 (nI lv) 32 23 = nI lv := zp_us
  -- the end, out of states that differ in the cursors alone
  have last : ∀ (sg p' : Nat) (C6 M6 : zx_G), sg ≤ 3 → zh_C p' e C6 → zh_M p' e M6 → M6 32 10 = 0 → (∀ r, r ≠ 13 → C6 r = zx_up C5 11 12 (nI lv) r) → (∀ r, r ≠ 32 → M6 r = zx_up M5 32 23 (nI lv) r) → (∀ r, r ≠ 10 → r ≠ 11 → M6 32 r = zx_up M5 32 23 (nI lv) 32 r) → f_H_readFrame Gc = f_H_readFrame_114 (nI sg) C6 → f_M_frame Gm = f_M_frame_56 (nI sg) M6 → ∃ (Gc' Gm' : zx_G) (v : Int32), f_H_readFrame Gc = some (v, Gc') ∧ f_M_frame Gm = some (0, Gm') ∧ Gm' 32 10 = v ∧ (v = 0 → zh_Fr e Gc Gm Gc' Gm') := by
    intro sg p' C6 M6 hsg hC' hM' h0' r1 r2 r3 u1 u2
    obtain ⟨G7, z1, z2, z3, z4, z5, z6, z7⟩ := zh_fin hC' (by rw [r1 11 (by omega)]; exact x10) (by rw [r1 11 (by omega)]; exact x12) q64 lv8 hsg
    have hp' := hC'.1
    have he := hC'.2.1
    refine ⟨G7, _, 0, u1.trans z1, u2.trans (zh_56 hM'), by rw [zp_uk (by omega), zp_uk (by omega), zp_uk (by omega)]; exact h0', fun _ => ⟨fun r x y => by rw [z2 r x y, r1 r y]; exact cr r x y, fun r x => by rw [z3 r (by omega) (by omega), r1 11 (by omega)]; exact cu r (by omega), fun r x => by rw [zp_ur x, zp_ur x, zp_ur x, r2 r x]; exact mr r x, fun r x => by rw [zp_uk (by omega), zp_uk (by omega), zp_uk (by omega), r3 r (by omega) (by omega)]; exact mu r x, q, s, lv, sg, (p' + 7) / 8, q64, s1', lv8, hsg, by omega, ?_, ?_, ?_, ?_, ?_, ?_, z4, ?_, z5, ?_, z6, zp_us, z7⟩⟩
    · rw [z3 10 (by omega) (by omega), r1 11 (by omega)]; exact x10
    · rw [zp_uk (by omega), zp_uk (by omega), zp_uk (by omega), r3 21 (by omega) (by omega)]; exact y21
    · rw [z3 11 (by omega) (by omega), r1 11 (by omega)]; exact x11
    · rw [zp_uk (by omega), zp_uk (by omega), zp_uk (by omega), r3 22 (by omega) (by omega)]; exact y22
    · rw [z3 12 (by omega) (by omega), r1 11 (by omega)]; exact x12
    · rw [zp_uk (by omega), zp_uk (by omega), zp_uk (by omega), r3 23 (by omega) (by omega)]; exact y23
    · rw [zp_uk (by omega), zp_uk (by omega), zp_us]
    · rw [zp_uk (by omega), zp_us]
  have hh : so = 0 ∨ so = 1 := by omega
  rcases hh with rfl | rfl
  · refine last 0 _ _ _ (by omega) hC6 hM6 h06 (fun _ _ => rfl) (fun _ _ => rfl) (fun _ _ _ => rfl) ?_ ?_
    · rw [t4, zp_pos (show nI 0 = 0 from rfl)]; rfl
    · rw [s5]
      unfold zh_f5
      rw [e20, zp_pos (show ¬ nI 0 = (1 : Int32) by decide)]; rfl
  · have hd6 : ∀ j, j < e → zx_up C5 11 12 (nI lv) 9 j = zx_up M5 32 23 (nI lv) 39 j := fun j hj => by rw [cr 9 (by omega) (by omega), mr 39 (by omega)]; exact hd j hj
    obtain ⟨C6, M6, k1, k2, k3, k4⟩ := zh_both (k := 2) (by omega) hC6 hM6 hd6 h06
    rcases k4 with ⟨sg, l0, l1, l2, l3, l4, l5⟩ | ⟨l1, l2, l3, l4, l5⟩
    · refine last sg _ C6 M6 (by have : sg < 2 ^ 2 := l0; omega) l3 l4 l5 k1 k2 k3 ?_ ?_
      · rw [t4, zp_neg (show ¬ nI 1 = 0 by decide), zp_bd (show f_U_nextBits_13 (2 : Int32) _ = _ from l1)]
      · rw [s5]
        unfold zh_f5
        rw [e20, zp_neg (show ¬ ¬ nI 1 = (1 : Int32) from fun z => z rfl), zp_bd (show f_M_number (2 : Int32) _ = _ from l2)]
    · obtain ⟨C7, w1⟩ := zh_114 (s := (-1 : Int32)) (G := C6) (Or.inr (Or.inl (by decide)))
      refine die 7 C7 M6 (by decide) l5 ⟨zx_up (zx_up (zx_up M6 32 24 (0 : Int32)) 32 25 (nI (8 * ((8 * e + 7) / 8)))) 32 26 (nI (8 * e)), ?_, ?_⟩ ?_
      · rw [s5]
        unfold zh_f5
        rw [e20, zp_neg (show ¬ ¬ nI 1 = (1 : Int32) from fun z => z rfl), zp_bd (show f_M_number (2 : Int32) _ = _ from l2)]
        exact zh_56 l4
      · rw [zp_uk (by omega), zp_uk (by omega), zp_uk (by omega)]
      · rw [t4, zp_neg (show ¬ nI 1 = 0 by decide), zp_bd (show f_U_nextBits_13 (2 : Int32) _ = _ from l1)]
        exact w1
