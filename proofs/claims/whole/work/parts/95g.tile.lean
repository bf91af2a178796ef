/-! the tile: quadrants, the whole -/
theorem zt_171 {k46 : Int32 → Int32 → zx_G → Option (Int32 × zx_G)} (m i : Nat) (G : zx_G) : f_T_read_171 k46 (nI m) (nI i) G = k46 (nI m) (nI (i + 1)) G := by
  unfold f_T_read_171
  rw [zp_lt, nI_1]
set_option maxRecDepth 100000 in
/-- a quadrant whose corner lies in the picture -/
theorem zt_quad {fr to s q t y w h k nA nB bt n : Nat} {Gc Gm : zx_G} (hk : k < 4) (hnA : 17 ≤ nA + 4 * k + 1) (hbt : bt + 2700000 < 2 ^ 26) (hx : 4 * zt_ux (4 * k) < w) (hy : 4 * zt_uy (4 * k) < h) (hY : zt_Y fr to s q t y w h (4 * k) bt n Gc Gm) :
    ∃ (Gc' Gm' : zx_G) (bt' : Nat), bt' ≤ bt + 1300000 ∧ f_M_readTile_133 (nB + 1) (nI k) Gm = f_M_readTile_133 nB (nI (k + 1)) Gm' ∧ ((∃ nA' m' n', zx_bd (f_T_readSide_18 (nI (4 * k)) Gc) (fun r G => zt_body (f_T_read_46 nA) (4 * k) r G) = f_T_read_46 nA' (nI m') (nI (4 * k + 4)) Gc' ∧ m' ≤ 4 * k + 4 ∧ 17 ≤ nA' + 4 * k + 4 ∧ zt_Y fr to s q t y w h (4 * k + 4) bt' n' Gc' Gm') ∨ (zx_bd (f_T_readSide_18 (nI (4 * k)) Gc) (fun r G => zt_body (f_T_read_46 nA) (4 * k) r G) = some (8, Gc') ∧ zt_g w h Gm')) := by
  obtain ⟨⟨hq, ht, hy1, hw1, hw2, hh1, hh2⟩, ⟨e10, e6, e7, e8, e4⟩, ⟨m16, m17, m18, m19, m21⟩, -⟩ := hY.H
  have h0 : Gm 32 10 = 0 := hY.2.1
  obtain ⟨G1, M1, bt1, x, a0, a1, a2, a3, a4⟩ := hY.sym (tb := 1) (by omega) (by omega)
  have hx2 : x < 2 := by have : zx_cnt 1 = 2 := rfl; omega
  obtain ⟨p1, p2⟩ := zt_133place hk
  have preM : f_M_readTile_133 (nB + 1) (nI k) Gm = zx_if (¬ nI x = 0) (f_M_readTile_187 (f_M_readTile_133 nB) (nI k) (nI (4 * zt_ux (4 * k))) (nI (4 * zt_uy (4 * k))) M1) (f_M_readTile_188 (f_M_readTile_133 nB) (nI k) (nI (4 * zt_ux (4 * k))) (nI (4 * zt_uy (4 * k))) (1 : Int32) M1) := by
    rw [f_M_readTile_133, zp_neg (zd_c4 hk), zp_gd (by decide), zp_lt, zp_gd (by decide), zp_lt, p1, p2, m18, m19, zp_neg (nI_ge hx (by omega)), zp_neg (nI_ge hy (by omega)), zp_neg (fun z => z h0), zp_bd (show f_M_symbol (1 : Int32) Gm = _ from a2)]
  have preC : ∀ b : Nat, b = (if x = 0 then 2 else 1) → f_T_readSide_18 (nI (4 * k)) Gc = some (nI (4 * b), G1) := by
    intro b hb
    unfold f_T_readSide_18
    rw [show nI (4 * k) &&& (3 : Int32) = nI (4 * k % 4) from pk_andN (by omega) 2 rfl, show 4 * k % 4 = 0 by omega, zp_neg (show ¬ ¬ nI 0 = 0 from fun z => z rfl), zp_bd (show f_C_readSymbol (1 : Int32) Gc = _ from a1)]
    by_cases c : x = 0
    · rw [hb, c, if_pos rfl, zp_neg (show ¬ ¬ nI 0 = 0 from fun z => z rfl)]
      rfl
    · rw [hb, if_neg c, zp_pos (nI_ne0 (by omega) (by omega))]
      rfl
  have ha : 4 * k % (2 * 2) = 0 := by omega
  by_cases c : x = 0
  · -- a block of side 8
    obtain ⟨G2, M2, bt2, b1, b2, b3⟩ := zt_one (k46 := f_T_read_46 nA) (x1 := nI (4 * k + 2 * 2)) (x2 := nI (4 * k)) a4 (by omega) (Or.inr (Or.inl rfl)) ha hx hy (by omega)
    have eM : f_M_readTile_133 (nB + 1) (nI k) Gm = f_M_readTile_133 nB (nI (k + 1)) M2 := by
      rw [preM, c, zp_neg (show ¬ ¬ nI 0 = 0 from fun z => z rfl)]
      unfold f_M_readTile_188 f_M_readTile_203
      rw [zp_lt, zp_neg (show ¬ (1 : Int32) = 0 by decide), zp_bd (show f_M_readBlock (nI (4 * zt_ux (4 * k))) (nI (4 * zt_uy (4 * k))) (8 : Int32) M1 = _ from b2), zp_lt]
      show f_M_readTile_206 (f_M_readTile_133 nB) (2047 + 1) (nI k) _ _ (1 : Int32) (nI 0) M2 = _
      rw [f_M_readTile_206, zp_neg (by decide), zp_pos (by decide)]
      unfold f_M_readTile_244
      rw [zp_lt, nI_1]
    have eC : zx_bd (f_T_readSide_18 (nI (4 * k)) Gc) (fun r G => zt_body (f_T_read_46 nA) (4 * k) r G) = zt_body (f_T_read_46 nA) (4 * k) (nI (4 * 2)) G1 := by rw [zp_bd (preC 2 (by rw [if_pos c]))]
    refine ⟨G2, M2, bt2, by omega, eM, ?_⟩
    rw [eC, zt_bodyE (Or.inr (Or.inl rfl))]
    rcases b3 with ⟨b3, b4⟩ | ⟨b3, b4⟩
    · left
      refine ⟨nA - 3, 4 * k + 4, n + 1, ?_, by omega, by omega, b4⟩
      rw [b3, zt_171]
      have e := zt_46S (m := 4 * k + 4) (by omega) (G := G2) 3 (4 * k + 1) (nA - 3) (by omega)
      rw [show nA - 3 + 3 = nA by omega] at e
      exact e
    · exact Or.inr ⟨b3, b4.g a4.H⟩
  · -- four of side 4
    obtain ⟨G2, M2, bt2, b1, b2, b3⟩ := zt_one (k46 := f_T_read_46 nA) (x1 := nI (4 * k + 1 * 1)) (x2 := nI (4 * k)) a4 (by omega) (Or.inl rfl) (Nat.mod_one _) hx hy (by omega)
    have eM : f_M_readTile_133 (nB + 1) (nI k) Gm = f_M_readTile_206 (f_M_readTile_133 nB) 2047 (nI k) (nI (4 * zt_ux (4 * k))) (nI (4 * zt_uy (4 * k))) (0 : Int32) (nI 1) M2 := by
      rw [preM, zp_pos (nI_ne0 (by omega) (by omega)), zt_187]
      show f_M_readTile_206 (f_M_readTile_133 nB) (2047 + 1) (nI k) _ _ (0 : Int32) (nI 0) M1 = _
      rw [zt_206 (w := w) (h := h) hk (by omega), zp_bd (show f_M_readBlock (nI (4 * zt_ux (4 * k + 0))) (nI (4 * zt_uy (4 * k + 0))) (nI (4 * 1)) M1 = _ from b2)]
    have eC : zx_bd (f_T_readSide_18 (nI (4 * k)) Gc) (fun r G => zt_body (f_T_read_46 nA) (4 * k) r G) = zt_body (f_T_read_46 nA) (4 * k) (nI (4 * 1)) G1 := by rw [zp_bd (preC 1 (by rw [if_neg c]))]
    rw [eM, eC, zt_bodyE (Or.inl rfl)]
    rcases b3 with ⟨b3, b4⟩ | ⟨b3, b4⟩
    · obtain ⟨G3, M3, bt3, c1, c2, c3⟩ := zt_subs hk (f_M_readTile_133 nB) 3 1 nA 2047 bt2 (n + 1) (4 * k + 1) G2 M2 (by omega) (by omega) (by omega) (by omega) (by omega) (by omega) b4
      refine ⟨G3, M3, bt3, by omega, c2, ?_⟩
      rw [b3, zt_171]
      exact c3
    · have hg := b4.g a4.H
      exact ⟨G2, M2, bt2, by omega, zt_206skip hk hw2 hh2 hg.2.1 hg.2.2 (by rw [hg.1]; decide) _ 3 1 2047 (by omega) (by omega), Or.inr ⟨b3, hg⟩⟩
set_option maxRecDepth 100000 in
theorem zt_quads {fr to s q t y w h : Nat} : ∀ (rem k nA nB bt n m : Nat) (Gc Gm : zx_G), 1 ≤ k → k + rem = 4 → m ≤ 4 * k → 17 ≤ nA + 4 * k → rem < nB → bt + 1300000 * rem + 3000000 < 2 ^ 26 → zt_Y fr to s q t y w h (4 * k) bt n Gc Gm →
    ∃ (Gc' Gm' : zx_G), f_M_readTile_133 nB (nI k) Gm = some (0, Gm') ∧ ((∃ bt' n', f_T_read_46 nA (nI m) (nI (4 * k)) Gc = some (0, Gc') ∧ zt_Y fr to s q t y w h 16 bt' n' Gc' Gm') ∨ (f_T_read_46 nA (nI m) (nI (4 * k)) Gc = some (8, Gc') ∧ Gm' 32 10 = 8)) := by
  intro rem
  induction rem with
  | zero =>
    intro k nA nB bt n m Gc Gm hk1 hk hm hnA hnB hbt hY
    obtain ⟨nB, rfl⟩ : ∃ k, nB = k + 1 := ⟨nB - 1, by omega⟩
    obtain ⟨nA, rfl⟩ : ∃ k, nA = k + 1 := ⟨nA - 1, by omega⟩
    have : k = 4 := by omega
    subst this
    exact ⟨Gc, Gm, by rw [f_M_readTile_133, zp_pos (by decide)], Or.inl ⟨bt, n, by rw [f_T_read_46, zp_pos (by decide)], hY⟩⟩
  | succ rem ih =>
    intro k nA nB bt n m Gc Gm hk1 hk hm hnA hnB hbt hY
    obtain ⟨nB, rfl⟩ : ∃ k, nB = k + 1 := ⟨nB - 1, by omega⟩
    obtain ⟨nA, rfl⟩ : ∃ k, nA = k + 1 := ⟨nA - 1, by omega⟩
    obtain ⟨⟨hq, ht, hy1, hw1, hw2, hh1, hh2⟩, ⟨e10, e6, e7, e8, e4⟩, ⟨m16, m17, m18, m19, m21⟩, -⟩ := hY.H
    have hb0 : bt + 1300000 + 1300000 * rem + 3000000 < 2 ^ 26 := by rw [Nat.mul_succ] at hbt; omega
    obtain ⟨G1, M1, bt1, a1, a2, a3⟩ : ∃ (G1 M1 : zx_G) (bt1 : Nat), bt1 ≤ bt + 1300000 ∧ f_M_readTile_133 (nB + 1) (nI k) Gm = f_M_readTile_133 nB (nI (k + 1)) M1 ∧ ((∃ nA' m' n', f_T_read_46 (nA + 1) (nI m) (nI (4 * k)) Gc = f_T_read_46 nA' (nI m') (nI (4 * k + 4)) G1 ∧ m' ≤ 4 * k + 4 ∧ 17 ≤ nA' + 4 * k + 4 ∧ zt_Y fr to s q t y w h (4 * k + 4) bt1 n' G1 M1) ∨ (f_T_read_46 (nA + 1) (nI m) (nI (4 * k)) Gc = some (8, G1) ∧ zt_g w h M1)) := by
      by_cases c : 4 * zt_ux (4 * k) < w ∧ 4 * zt_uy (4 * k) < h
      · have q1 := zt_quad (nA := nA) (nB := nB) (show k < 4 by omega) (by omega) (by omega) c.1 c.2 hY
        have eC : f_T_read_46 (nA + 1) (nI m) (nI (4 * k)) Gc = zx_bd (f_T_readSide_18 (nI (4 * k)) Gc) (fun r G => zt_body (f_T_read_46 nA) (4 * k) r G) := by
          rw [zt_46i (by omega) hm e7 e8 hw2 hh2 c.1 c.2]
          unfold f_T_readSide
          rw [zp_pos (nI_ne0 (by omega) (by omega))]
        rw [eC]
        exact q1
      · obtain ⟨G1, M1, bt1, b1, b2, b3⟩ := zt_subs (show k < 4 by omega) (f_M_readTile_133 nB) 4 0 (nA + 1) 2048 bt n m Gc Gm (by omega) hm (fun _ => c) (by omega) (by omega) (by omega) hY
        refine ⟨G1, M1, bt1, by omega, ?_, b3⟩
        obtain ⟨p1, p2⟩ := zt_133place (show k < 4 by omega)
        have e187 : f_M_readTile_187 (f_M_readTile_133 nB) (nI k) (nI (4 * zt_ux (4 * k))) (nI (4 * zt_uy (4 * k))) Gm = f_M_readTile_133 nB (nI (k + 1)) M1 := (zt_187 _ _ _ _).trans b2
        obtain ⟨-, u1, u2⟩ := zt_zi (4 * k) (by omega)
        rw [f_M_readTile_133, zp_neg (zd_c4 (by omega)), zp_gd (by decide), zp_lt, zp_gd (by decide), zp_lt, p1, p2, m18, m19]
        by_cases c1 : w ≤ 4 * zt_ux (4 * k)
        · rw [zp_pos (nI_le c1 (by omega)), e187]
        · rw [zp_neg (nI_ge (by omega) (by omega)), zp_pos (nI_le (by omega) (by omega)), e187]
    rw [a2]
    rcases a3 with ⟨nA', m', n', a3, a4, a5, a6⟩ | ⟨a3, a4⟩
    · rw [a3]
      exact ih (k + 1) nA' nB bt1 n' m' G1 M1 (by omega) (by omega) (by omega) (by omega) (by omega) (by omega) a6
    · exact ⟨G1, M1, zt_133skip hw2 hh2 a4.2.1 a4.2.2 (by rw [a4.1]; decide) rem (k + 1) nB (by omega) (by omega), Or.inr ⟨a3, a4.1⟩⟩
set_option maxRecDepth 100000 in
theorem zt_tile {fr to s q t y w h bt : Nat} {Gc Gm : zx_G} (hbt : bt + 9000000 < 2 ^ 26) (hY : zt_Y fr to s q t y w h 0 bt 0 Gc Gm) :
    ∃ (Gc' Gm' : zx_G), (zx_bd (f_M_symbol (0 : Int32) Gm) fun r_3 G_2 => zx_if (¬ r_3 = 0) (zx_lt (0 : Int32) fun x1_6 => f_M_readTile_133 2048 x1_6 G_2) (zx_bd (f_M_readBlock (0 : Int32) (0 : Int32) (16 : Int32) G_2) fun r_8 G_7 => some ((0 : Int32), G_7))) = some (0, Gm') ∧ ((∃ bt' n', f_T_read_46 2048 (0 : Int32) (0 : Int32) Gc = some (0, Gc') ∧ zt_Y fr to s q t y w h 16 bt' n' Gc' Gm') ∨ (f_T_read_46 2048 (0 : Int32) (0 : Int32) Gc = some (8, Gc') ∧ Gm' 32 10 = 8)) := by
  obtain ⟨⟨hq, ht, hy1, hw1, hw2, hh1, hh2⟩, ⟨e10, e6, e7, e8, e4⟩, ⟨m16, m17, m18, m19, m21⟩, -⟩ := hY.H
  obtain ⟨G1, M1, bt1, x, a0, a1, a2, a3, a4⟩ := hY.sym (tb := 0) (by omega) (by omega)
  have hx2 : x < 2 := by have : zx_cnt 0 = 2 := rfl; omega
  have x0 : 4 * zt_ux (4 * 0) < w := by show 0 < w; omega
  have y0 : 4 * zt_uy (4 * 0) < h := by show 0 < h; omega
  have eC : f_T_read_46 2048 (0 : Int32) (0 : Int32) Gc = zx_bd (f_T_readSide (nI 0) Gc) fun r_8 G_7 => zt_body (f_T_read_46 2047) 0 r_8 G_7 := zt_46i (m := 0) (i := 0) (n := 2047) (by omega) (by omega) e7 e8 hw2 hh2 x0 y0
  have eS : f_T_readSide (nI 0) Gc = zx_if (¬ nI x = 0) (f_T_readSide_18 (nI 0) G1) (some ((16 : Int32), G1)) := by
    unfold f_T_readSide
    rw [zp_neg (show ¬ ¬ nI 0 = 0 from fun z => z rfl), zp_bd (show f_C_readSymbol (0 : Int32) Gc = _ from a1)]
  rw [eC, eS, zp_bd (show f_M_symbol (0 : Int32) Gm = _ from a2)]
  by_cases c : x = 0
  · obtain ⟨G2, M2, bt2, b1, b2, b3⟩ := zt_one (k46 := f_T_read_46 2047) (x1 := nI (0 + 4 * 4)) (x2 := nI 0) a4 (by omega) (Or.inr (Or.inr rfl)) (by omega) x0 y0 (by omega)
    rw [c, zp_neg (show ¬ ¬ nI 0 = 0 from fun z => z rfl), zp_neg (show ¬ ¬ nI 0 = 0 from fun z => z rfl), zp_bd (show f_M_readBlock (0 : Int32) (0 : Int32) (16 : Int32) M1 = some (0, M2) from b2), zp_bd (show (some ((16 : Int32), G1) : Option (Int32 × zx_G)) = some (nI (4 * 4), G1) from rfl), zt_bodyE (Or.inr (Or.inr rfl))]
    refine ⟨G2, M2, rfl, ?_⟩
    rcases b3 with ⟨b3, b4⟩ | ⟨b3, b4⟩
    · left
      refine ⟨bt2, 1, ?_, b4⟩
      rw [b3, zt_171]
      have e := zt_46S (m := 16) (by omega) (G := G2) 15 1 2032 (by omega)
      have e2 : f_T_read_46 2047 (nI 16) (nI 1) G2 = f_T_read_46 (2031 + 1) (nI 16) (nI 16) G2 := e
      rw [show nI (0 + 4 * 4) = nI 16 from rfl, show nI (0 + 1) = nI 1 from rfl, e2, f_T_read_46, zp_pos (by decide)]
    · exact Or.inr ⟨b3, b4.1⟩
  · rw [zp_pos (nI_ne0 (by omega) (by omega)), zp_pos (nI_ne0 (by omega) (by omega)), zp_lt]
    obtain ⟨G2, M2, bt2, b1, b2, b3⟩ := zt_quad (k := 0) (nA := 2047) (nB := 2047) (by omega) (by omega) (by omega) x0 y0 a4
    have b2' : f_M_readTile_133 2048 (0 : Int32) M1 = f_M_readTile_133 2047 (nI 1) M2 := b2
    rw [b2']
    rcases b3 with ⟨nA', m', n', b3, b4, b5, b6⟩ | ⟨b3, b4⟩
    · have b3' : zx_bd (f_T_readSide_18 (nI 0) G1) (fun r_8 G_7 => zt_body (f_T_read_46 2047) 0 r_8 G_7) = f_T_read_46 nA' (nI m') (nI (4 * 1)) G2 := b3
      rw [b3']
      exact zt_quads 3 1 nA' 2047 bt2 n' m' G2 M2 (by omega) (by omega) (by omega) (by omega) (by omega) (by omega) b6
    · exact ⟨G2, M2, zt_133skip hw2 hh2 b4.2.1 b4.2.2 (by rw [b4.1]; decide) 3 1 2047 (by omega) (by omega), Or.inr ⟨b3, b4.1⟩⟩
