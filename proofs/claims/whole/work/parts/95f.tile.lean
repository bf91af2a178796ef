/-! the tile: all blocks -/
def zt_g (w h : Nat) (Gm : zx_G) : Prop := Gm 32 10 = 8 ∧ Gm 32 18 = nI w ∧ Gm 32 19 = nI h
theorem zt_46s {m i n : Nat} {G : zx_G} (hi : i < m) (hm : m ≤ 16) : f_T_read_46 (n + 1) (nI m) (nI i) G = f_T_read_46 n (nI m) (nI (i + 1)) G := by
  rw [f_T_read_46, zp_neg (zd_c16 (by omega)), zp_lt, zp_lt, zp_pos (nI_lt hi (by omega))]
  unfold f_T_read_171
  rw [zp_lt, nI_1]
theorem zt_46S {m : Nat} (hm : m ≤ 16) {G : zx_G} : ∀ (rem i n : Nat), i + rem ≤ m → f_T_read_46 (n + rem) (nI m) (nI i) G = f_T_read_46 n (nI m) (nI (i + rem)) G := by
  intro rem
  induction rem with
  | zero => intro i n _; rfl
  | succ rem ih =>
    intro i n hi
    rw [show n + (rem + 1) = n + rem + 1 by omega, zt_46s (by omega) hm, ih (i + 1) n (by omega), show i + 1 + rem = i + (rem + 1) by omega]
theorem zt_46o {m i n w h : Nat} {G : zx_G} (hi : i < 16) (hm : m ≤ i) (h7 : G 11 7 = nI w) (h8 : G 11 8 = nI h) (hw : w ≤ 16) (hh : h ≤ 16) (ho : ¬ (4 * zt_ux i < w ∧ 4 * zt_uy i < h)) : f_T_read_46 (n + 1) (nI m) (nI i) G = f_T_read_46 n (nI m) (nI (i + 1)) G := by
  obtain ⟨x1, x2⟩ := zt_xy i hi
  obtain ⟨-, u1, u2⟩ := zt_zi i hi
  rw [f_T_read_46, zp_neg (zd_c16 (by omega)), zp_lt, zp_lt, zp_neg (nI_nlt hm (by omega)), x1, x2, h7, h8]
  have t171 : f_T_read_171 (f_T_read_46 n) (nI m) (nI i) G = f_T_read_46 n (nI m) (nI (i + 1)) G := by
    unfold f_T_read_171
    rw [zp_lt, nI_1]
  by_cases c : w ≤ 4 * zt_ux i
  · rw [zp_pos (nI_le c (by omega)), t171]
  · rw [zp_neg (nI_ge (by omega) (by omega)), zp_pos (nI_le (by omega) (by omega)), t171]
/-- what the class does once it has a block's side -/
def zt_bodyF (F : Int32 → Int32 → Int32 → zx_G → Option (Int32 × zx_G)) (i : Nat) (side : Int32) (G : zx_G) : Option (Int32 × zx_G) := zx_gd (zx_nz (16 : Int32)) <| zx_lt (nI i + (zx_div (side * side) (16 : Int32))) fun x1_12 => zx_bd (f_T_readBlock (nI (4 * zt_ux i)) (nI (4 * zt_uy i)) side G) fun r_14 G_13 => zx_lt r_14 fun x6_16 => zx_lt (0 : Int32) fun x7_17 => F x1_12 x6_16 x7_17 G_13
theorem zt_bodyFE {F : Int32 → Int32 → Int32 → zx_G → Option (Int32 × zx_G)} {i b : Nat} {G : zx_G} (hb : b = 1 ∨ b = 2 ∨ b = 4) : zt_bodyF F i (nI (4 * b)) G = zx_bd (f_T_readBlock (nI (4 * zt_ux i)) (nI (4 * zt_uy i)) (nI (4 * b)) G) (fun r G => F (nI (i + b * b)) r (0 : Int32) G) := by
  have e1 : zx_div (nI (4 * b) * nI (4 * b)) (16 : Int32) = nI (b * b) := by
    rw [pk_mul]
    show nI _ / nI 16 = _
    rw [pk_div (by rcases hb with rfl | rfl | rfl <;> omega) (by omega) (by omega)]
    congr 1
    rcases hb with rfl | rfl | rfl <;> omega
  unfold zt_bodyF
  rw [zp_gd (by decide), zp_lt, e1, nI_add]
  rfl
def zt_body (k46 : Int32 → Int32 → zx_G → Option (Int32 × zx_G)) (i : Nat) : Int32 → zx_G → Option (Int32 × zx_G) := zt_bodyF (fun x1 x6 x7 G => f_T_read_136 k46 2048 x1 (nI i) (nI (4 * zt_ux i)) (nI (4 * zt_uy i)) x6 x7 G) i
theorem zt_bodyE {k46 : Int32 → Int32 → zx_G → Option (Int32 × zx_G)} {i b : Nat} {G : zx_G} (hb : b = 1 ∨ b = 2 ∨ b = 4) : zt_body k46 i (nI (4 * b)) G = zx_bd (f_T_readBlock (nI (4 * zt_ux i)) (nI (4 * zt_uy i)) (nI (4 * b)) G) (fun r G => f_T_read_136 k46 2048 (nI (i + b * b)) (nI i) (nI (4 * zt_ux i)) (nI (4 * zt_uy i)) r (0 : Int32) G) := by
  unfold zt_body
  exact zt_bodyFE hb
theorem zt_46g (X : Option (Int32 × zx_G)) (F : Int32 → Int32 → Int32 → zx_G → Option (Int32 × zx_G)) (i : Nat) : (zx_bd X fun r_8 G_7 => zx_lt r_8 fun x5_10 => zx_gd (zx_nz (16 : Int32)) <| zx_lt (nI i + (zx_div (x5_10 * x5_10) (16 : Int32))) fun x1_12 => zx_bd (f_T_readBlock (nI (4 * zt_ux i)) (nI (4 * zt_uy i)) x5_10 G_7) fun r_14 G_13 => zx_lt r_14 fun x6_16 => zx_lt (0 : Int32) fun x7_17 => F x1_12 x6_16 x7_17 G_13) = zx_bd X fun r G => zt_bodyF F i r G := rfl
theorem zt_46i {m i n w h : Nat} {G : zx_G} (hi : i < 16) (hm : m ≤ i) (h7 : G 11 7 = nI w) (h8 : G 11 8 = nI h) (hw : w ≤ 16) (hh : h ≤ 16) (hx : 4 * zt_ux i < w) (hy : 4 * zt_uy i < h) : f_T_read_46 (n + 1) (nI m) (nI i) G = zx_bd (f_T_readSide (nI i) G) fun r_8 G_7 => zt_body (f_T_read_46 n) i r_8 G_7 := by
  obtain ⟨x1, x2⟩ := zt_xy i hi
  rw [f_T_read_46, zp_neg (zd_c16 (by omega)), zp_lt, zp_lt, zp_neg (nI_nlt hm (by omega)), x1, x2, h7, h8, zp_neg (nI_ge hx (by omega)), zp_neg (nI_ge hy (by omega))]
  unfold zt_body
  exact zt_46g _ (fun x1 x6 x7 H => f_T_read_136 (f_T_read_46 n) 2048 x1 (nI i) (nI (4 * zt_ux i)) (nI (4 * zt_uy i)) x6 x7 H) i
theorem zt_Y.skip {fr to s q t y w h i bt n : Nat} {Gc Gm : zx_G} (hY : zt_Y fr to s q t y w h i bt n Gc Gm) (ho : ¬ (4 * zt_ux i < w ∧ 4 * zt_uy i < h)) : zt_Y fr to s q t y w h (i + 1) bt n Gc Gm := by
  obtain ⟨h1, h2, h3, h4, ⟨h5, h6, h7⟩, h8, h9⟩ := hY
  obtain ⟨⟨hq, ht, hy1, hw1, hw2, hh1, hh2⟩, -⟩ := id h3
  have key : ∀ ux uy, 4 * ux < w → 4 * uy < h → zt_z ux uy < i + 1 → zt_z ux uy < i := fun ux uy a b c => by
    by_cases e : zt_z ux uy = i
    · obtain ⟨z1, z2, -⟩ := zt_zinv ux (by omega) uy (by omega)
      rw [e] at z1 z2
      exact absurd ⟨by rw [z1]; exact a, by rw [z2]; exact b⟩ ho
    · omega
  refine ⟨h1, h2, h3, h4.mono (fun p ux uy z => ?_) rfl rfl, ⟨by omega, h6, h7⟩, fun ux uy a b c => h8 ux uy a b (key ux uy a b c), h9⟩
  obtain ⟨z1, z2, z3, z4⟩ := z
  exact ⟨z1, z2, z3, key ux uy z2 z3 z4⟩
theorem zt_Y.sym {fr to s q t y w h m bt n tb : Nat} {Gc Gm : zx_G} (hY : zt_Y fr to s q t y w h m bt n Gc Gm) (ht : tb < 19) (hb : bt + 14 < 2 ^ 27) : ∃ (Gc' Gm' : zx_G) (bt' x : Nat), x < zx_cnt tb ∧ f_C_readSymbol (nI tb) Gc = some (nI x, Gc') ∧ f_M_symbol (nI tb) Gm = some (nI x, Gm') ∧ bt' ≤ bt + 14 ∧ zt_Y fr to s q t y w h m bt' n Gc' Gm' := by
  obtain ⟨h1, h2, h3, h4, ⟨h5, h6, h7⟩, h8, h9⟩ := hY
  obtain ⟨Gc', Gm', bt', x, a0, a1, a2, a3, a4, a5, a6, a7⟩ := zk_symF h1 ht hb
  have c17 := a5 17 (by omega) (by omega) (by omega)
  refine ⟨Gc', Gm', bt', x, a0, a1, a2, a4, a3, (a7 10 (by omega)).trans h2, h3.keep (a5 11 (by omega) (by omega) (by omega)) (by rw [c17]) (a7 16 (by omega)) (a7 17 (by omega)) (a7 18 (by omega)) (a7 19 (by omega)) (a7 21 (by omega)) (a6 51 (by omega) (by omega) (by omega)) (a6 52 (by omega) (by omega) (by omega)), h4.mono (fun _ _ _ z => z) (a5 18 (by omega) (by omega) (by omega)) (a6 42 (by omega) (by omega) (by omega)), ⟨h5, by rw [c17]; exact h6, (a7 37 (by omega)).trans h7⟩, ?_, ?_⟩
  · rw [a5 19 (by omega) (by omega) (by omega), a6 44 (by omega) (by omega) (by omega)]
    exact h8
  · rw [a5 20 (by omega) (by omega) (by omega), a6 45 (by omega) (by omega) (by omega)]
    exact h9
theorem zt_Y.H {fr to s q t y w h m bt n : Nat} {Gc Gm : zx_G} (hY : zt_Y fr to s q t y w h m bt n Gc Gm) : zt_Hd q t y w h Gc Gm := hY.2.2.1
theorem zt_f.g {q t y w h : Nat} {Gc Gm Gm' : zx_G} (hf : zt_f Gm Gm') (hH : zt_Hd q t y w h Gc Gm) : zt_g w h Gm' := by
  obtain ⟨-, -, ⟨m16, m17, m18, m19, m21⟩, -⟩ := hH
  exact ⟨hf.1, hf.2.2.1.trans m18, hf.2.2.2.trans m19⟩
/-- the reference's four sub-blocks from j on: index, place -/
theorem zt_206 {k j w h : Nat} (hk : k < 4) (hj : j < 4) (k133 : Int32 → zx_G → Option (Int32 × zx_G)) (n : Nat) (G : zx_G) : f_M_readTile_206 k133 (n + 1) (nI k) (nI (4 * zt_ux (4 * k))) (nI (4 * zt_uy (4 * k))) (0 : Int32) (nI j) G = zx_bd (f_M_readBlock (nI (4 * zt_ux (4 * k + j))) (nI (4 * zt_uy (4 * k + j))) (nI (4 * 1)) G) fun _ G' => f_M_readTile_206 k133 n (nI k) (nI (4 * zt_ux (4 * k))) (nI (4 * zt_uy (4 * k))) (0 : Int32) (nI (j + 1)) G' := by
  rw [f_M_readTile_206, zp_neg (zd_c4 hj), zp_neg (show ¬ ¬ (0 : Int32) = 0 from fun z => z rfl), zp_gd (by decide), zp_gd (by decide), show zx_div (nI j) (2 : Int32) = nI (j / 2) from pk_div (d := 2) (by omega) (by omega) (by omega), show zx_rem (nI j) (2 : Int32) = nI (j % 2) from pk_rem (d := 2) (by omega) (by omega) (by omega), show nI (j % 2) * (4 : Int32) = nI (j % 2 * 4) from pk_mul _ 4, show nI (j / 2) * (4 : Int32) = nI (j / 2 * 4) from pk_mul _ 4, nI_add, nI_add, show 4 * zt_ux (4 * k) + j % 2 * 4 = 4 * zt_ux (4 * k + j) by unfold zt_ux; omega, show 4 * zt_uy (4 * k) + j / 2 * 4 = 4 * zt_uy (4 * k + j) by unfold zt_uy; omega, nI_1]
  rfl
theorem zt_206e {k : Nat} (k133 : Int32 → zx_G → Option (Int32 × zx_G)) (n : Nat) (x2 x3 x4 : Int32) (G : zx_G) : f_M_readTile_206 k133 (n + 1) (nI k) x2 x3 x4 (nI 4) G = k133 (nI (k + 1)) G := by
  rw [f_M_readTile_206, zp_pos (by decide)]
  unfold f_M_readTile_244
  rw [zp_lt, nI_1]
theorem zt_206skip {k w h : Nat} (hk : k < 4) (hw : w ≤ 16) (hh : h ≤ 16) {G : zx_G} (h18 : G 32 18 = nI w) (h19 : G 32 19 = nI h) (h10 : ¬ G 32 10 = 0) (k133 : Int32 → zx_G → Option (Int32 × zx_G)) : ∀ (rem j n : Nat), j + rem = 4 → rem < n → f_M_readTile_206 k133 n (nI k) (nI (4 * zt_ux (4 * k))) (nI (4 * zt_uy (4 * k))) (0 : Int32) (nI j) G = k133 (nI (k + 1)) G := by
  intro rem
  induction rem with
  | zero =>
    intro j n hj hn
    obtain ⟨n, rfl⟩ : ∃ k, n = k + 1 := ⟨n - 1, by omega⟩
    have : j = 4 := by omega
    subst this
    exact zt_206e k133 n _ _ _ G
  | succ rem ih =>
    intro j n hj hn
    obtain ⟨n, rfl⟩ : ∃ k, n = k + 1 := ⟨n - 1, by omega⟩
    obtain ⟨-, u1, u2⟩ := zt_zi (4 * k + j) (by omega)
    rw [zt_206 (w := w) (h := h) hk (by omega) k133 n G, zp_bd (zt_outB h18 h19 hw hh (by omega) (by omega) (Or.inr (Or.inr h10)))]
    exact ih (j + 1) n (by omega) (by omega)
theorem zt_133place {k : Nat} (hk : k < 4) : (zx_rem (nI k) (2 : Int32)) * (8 : Int32) = nI (4 * zt_ux (4 * k)) ∧ (zx_div (nI k) (2 : Int32)) * (8 : Int32) = nI (4 * zt_uy (4 * k)) := by
  rw [show zx_div (nI k) (2 : Int32) = nI (k / 2) from pk_div (d := 2) (by omega) (by omega) (by omega), show zx_rem (nI k) (2 : Int32) = nI (k % 2) from pk_rem (d := 2) (by omega) (by omega) (by omega), show nI (k % 2) * (8 : Int32) = nI (k % 2 * 8) from pk_mul _ 8, show nI (k / 2) * (8 : Int32) = nI (k / 2 * 8) from pk_mul _ 8, show k % 2 * 8 = 4 * zt_ux (4 * k) by unfold zt_ux; omega, show k / 2 * 8 = 4 * zt_uy (4 * k) by unfold zt_uy; omega]
  exact ⟨rfl, rfl⟩
theorem zt_187 {k : Nat} (k133 : Int32 → zx_G → Option (Int32 × zx_G)) (x2 x3 : Int32) (G : zx_G) : f_M_readTile_187 k133 (nI k) x2 x3 G = f_M_readTile_206 k133 2048 (nI k) x2 x3 (0 : Int32) (nI 0) G := by
  unfold f_M_readTile_187 f_M_readTile_188 f_M_readTile_203
  rw [zp_lt, zp_pos rfl, zp_lt]
  rfl
theorem zt_133skip {w h : Nat} (hw : w ≤ 16) (hh : h ≤ 16) {G : zx_G} (h18 : G 32 18 = nI w) (h19 : G 32 19 = nI h) (h10 : ¬ G 32 10 = 0) : ∀ (rem k n : Nat), k + rem = 4 → rem < n → f_M_readTile_133 n (nI k) G = some (0, G) := by
  intro rem
  induction rem with
  | zero =>
    intro k n hk hn
    obtain ⟨n, rfl⟩ : ∃ k, n = k + 1 := ⟨n - 1, by omega⟩
    have : k = 4 := by omega
    subst this
    rw [f_M_readTile_133, zp_pos (by decide)]
  | succ rem ih =>
    intro k n hk hn
    obtain ⟨n, rfl⟩ : ∃ k, n = k + 1 := ⟨n - 1, by omega⟩
    have f : f_M_readTile_187 (f_M_readTile_133 n) (nI k) (nI (4 * zt_ux (4 * k))) (nI (4 * zt_uy (4 * k))) G = some (0, G) := by
      rw [zt_187, zt_206skip (by omega) hw hh h18 h19 h10 _ 4 0 2048 (by omega) (by omega)]
      exact ih (k + 1) n (by omega) (by omega)
    obtain ⟨p1, p2⟩ := zt_133place (show k < 4 by omega)
    rw [f_M_readTile_133, zp_neg (zd_c4 (by omega)), zp_gd (by decide), zp_lt, zp_gd (by decide), zp_lt, p1, p2]
    by_cases c1 : G 32 18 ≤ nI (4 * zt_ux (4 * k))
    · rw [zp_pos c1, f]
    · rw [zp_neg c1]
      by_cases c2 : G 32 19 ≤ nI (4 * zt_uy (4 * k))
      · rw [zp_pos c2, f]
      · rw [zp_neg c2, zp_pos h10, f]
set_option maxRecDepth 100000 in
theorem zt_subs {fr to s q t y w h k : Nat} (hk : k < 4) (k133 : Int32 → zx_G → Option (Int32 × zx_G)) : ∀ (rem j nA nB bt n m : Nat) (Gc Gm : zx_G), j + rem = 4 → m ≤ 4 * k + j → (j = 0 → ¬ (4 * zt_ux (4 * k) < w ∧ 4 * zt_uy (4 * k) < h)) → 17 ≤ nA + 4 * k + j → rem < nB → bt + 320000 * rem + 700000 < 2 ^ 26 → zt_Y fr to s q t y w h (4 * k + j) bt n Gc Gm →
    ∃ (Gc' Gm' : zx_G) (bt' : Nat), bt' ≤ bt + 320000 * rem ∧ f_M_readTile_206 k133 nB (nI k) (nI (4 * zt_ux (4 * k))) (nI (4 * zt_uy (4 * k))) (0 : Int32) (nI j) Gm = k133 (nI (k + 1)) Gm' ∧ ((∃ nA' m' n', f_T_read_46 nA (nI m) (nI (4 * k + j)) Gc = f_T_read_46 nA' (nI m') (nI (4 * k + 4)) Gc' ∧ m' ≤ 4 * k + 4 ∧ 17 ≤ nA' + 4 * k + 4 ∧ zt_Y fr to s q t y w h (4 * k + 4) bt' n' Gc' Gm') ∨ (f_T_read_46 nA (nI m) (nI (4 * k + j)) Gc = some (8, Gc') ∧ zt_g w h Gm')) := by
  intro rem
  induction rem with
  | zero =>
    intro j nA nB bt n m Gc Gm hj hm hj0 hnA hnB hbt hY
    obtain ⟨nB, rfl⟩ : ∃ k, nB = k + 1 := ⟨nB - 1, by omega⟩
    have : j = 4 := by omega
    subst this
    exact ⟨Gc, Gm, bt, by omega, zt_206e k133 nB _ _ _ Gm, Or.inl ⟨nA, m, n, rfl, hm, hnA, hY⟩⟩
  | succ rem ih =>
    intro j nA nB bt n m Gc Gm hj hm hj0 hnA hnB hbt hY
    obtain ⟨nB, rfl⟩ : ∃ k, nB = k + 1 := ⟨nB - 1, by omega⟩
    obtain ⟨nA, rfl⟩ : ∃ k, nA = k + 1 := ⟨nA - 1, by omega⟩
    obtain ⟨⟨hq, ht, hy1, hw1, hw2, hh1, hh2⟩, ⟨e10, e6, e7, e8, e4⟩, ⟨m16, m17, m18, m19, m21⟩, -⟩ := hY.H
    obtain ⟨-, u1, u2⟩ := zt_zi (4 * k + j) (by omega)
    rw [zt_206 (w := w) (h := h) hk (by omega) k133 nB Gm]
    by_cases c : 4 * zt_ux (4 * k + j) < w ∧ 4 * zt_uy (4 * k + j) < h
    · have j0 : j ≠ 0 := fun z => hj0 z (by subst z; exact c)
      have side : f_T_readSide (nI (4 * k + j)) Gc = some (nI (4 * 1), Gc) := by
        unfold f_T_readSide f_T_readSide_18
        rw [zp_pos (nI_ne0 (by omega) (by omega)), show nI (4 * k + j) &&& (3 : Int32) = nI ((4 * k + j) % 4) from pk_andN (by omega) 2 rfl, zp_pos (nI_ne0 (by omega) (by omega))]
        rfl
      obtain ⟨G1, M1, bt1, a1, a2, a3⟩ := zt_one (k46 := f_T_read_46 nA) (x1 := nI (4 * k + j + 1 * 1)) (x2 := nI (4 * k + j)) hY (by omega) (Or.inl rfl) (Nat.mod_one _) c.1 c.2 (by clear ih; omega)
      have hb1 : bt1 + 320000 * rem ≤ bt + 320000 * (rem + 1) := by rw [Nat.mul_succ]; omega
      rw [zp_bd a2, zt_46i (by omega) hm e7 e8 hw2 hh2 c.1 c.2, zp_bd side, zt_bodyE (Or.inl rfl)]
      rcases a3 with ⟨a3, a4⟩ | ⟨a3, a4⟩
      · obtain ⟨G2, M2, bt2, b1, b2, b3⟩ := ih (j + 1) nA nB bt1 (n + 1) (4 * k + j + 1) G1 M1 (by omega) (by omega) (by omega) (by omega) (by omega) (by omega) a4
        refine ⟨G2, M2, bt2, Nat.le_trans b1 hb1, b2, ?_⟩
        rw [a3]
        have t171 : f_T_read_171 (f_T_read_46 nA) (nI (4 * k + j + 1 * 1)) (nI (4 * k + j)) G1 = f_T_read_46 nA (nI (4 * k + j + 1)) (nI (4 * k + (j + 1))) G1 := by
          unfold f_T_read_171
          rw [zp_lt, nI_1]
          rfl
        rw [t171]
        exact b3
      · have hg := a4.g hY.H
        refine ⟨G1, M1, bt1, Nat.le_trans a1 (Nat.add_le_add_left (Nat.le_mul_of_pos_right _ (Nat.succ_pos _)) _), zt_206skip hk hw2 hh2 hg.2.1 hg.2.2 (by rw [hg.1]; decide) k133 rem (j + 1) nB (by omega) (by omega), Or.inr ⟨a3, hg⟩⟩
    · obtain ⟨G2, M2, bt2, b1, b2, b3⟩ := ih (j + 1) nA nB bt n m Gc Gm (by omega) (by omega) (by omega) (by omega) (by omega) (by rw [Nat.mul_succ] at hbt; omega) (hY.skip c)
      refine ⟨G2, M2, bt2, Nat.le_trans b1 (Nat.add_le_add_left (Nat.mul_le_mul_left _ (Nat.le_succ _)) _), ?_, ?_⟩
      · rw [zp_bd (zt_outB m18 m19 hw2 hh2 (by omega) (by omega) (by omega))]
        exact b2
      · rw [zt_46o (by omega) hm e7 e8 hw2 hh2 c]
        exact b3
