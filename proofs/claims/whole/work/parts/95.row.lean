/-! the units of a block: a row, a plane -/
theorem zt_ix {b r c : Nat} (hb : b = 1 ∨ b = 2 ∨ b = 4) (hc : c < b) : (r * b + c) % b = c ∧ (r * b + c) / b = r := by
  rcases hb with rfl | rfl | rfl <;> omega
theorem zt_ix2 {b r : Nat} (hb : b = 1 ∨ b = 2 ∨ b = 4) (hr : r < b) : (r + 1) * b = r * b + b ∧ r * b + b ≤ b * b ∧ b * b ≤ 16 := by
  rcases hb with rfl | rfl | rfl <;> omega
theorem zt_out {p x y w h : Nat} {G : zx_G} (h18 : G 32 18 = nI w) (h19 : G 32 19 = nI h) (hw : w ≤ 16) (hh : h ≤ 16) (hx : x < 100) (hy : y < 100) (ho : w ≤ x ∨ h ≤ y ∨ ¬ G 32 10 = 0) : f_M_piece (nI p) (nI x) (nI y) G = some (0, G) := by
  unfold f_M_piece
  rw [h18, h19]
  by_cases c1 : w ≤ x
  · rw [zp_pos (nI_le c1 (by omega))]; rfl
  · rw [zp_neg (nI_ge (by omega) (by omega))]
    by_cases c2 : h ≤ y
    · rw [zp_pos (nI_le c2 (by omega))]; rfl
    · rw [zp_neg (nI_ge (by omega) (by omega))]
      have c3 : ¬ G 32 10 = 0 := by rcases ho with q | q | q; exact absurd q c1; exact absurd q c2; exact q
      rw [zp_neg c3]
      rfl
theorem zt_316 {b i : Nat} (hb : b = 1 ∨ b = 2 ∨ b = 4) (K : Int32 → Int32 → Int32 → Int32 → zx_G → Option (Int32 × zx_G)) (n bx by_ p : Nat) (G : zx_G) (hi : i < b * b) : f_M_readBlock_316 K (n + 1) (nI (4 * bx)) (nI (4 * by_)) (nI (4 * b)) (nI p) (nI i) G = zx_bd (f_M_piece (nI p) (nI (4 * (bx + i % b))) (nI (4 * (by_ + i / b))) G) fun _ G' => f_M_readBlock_316 K n (nI (4 * bx)) (nI (4 * by_)) (nI (4 * b)) (nI p) (nI (i + 1)) G' := by
  have hbb : b * b ≤ 16 := by rcases hb with rfl | rfl | rfl <;> omega
  have hb4 : 1 ≤ b ∧ b ≤ 4 := by omega
  have e1 : zx_div (nI (4 * b) * nI (4 * b)) (16 : Int32) = nI (b * b) := by
    rw [pk_mul]
    show nI _ / nI 16 = _
    rw [pk_div (by rcases hb with rfl | rfl | rfl <;> omega) (by omega) (by omega)]
    congr 1
    rcases hb with rfl | rfl | rfl <;> omega
  have e2 : zx_div (nI (4 * b)) (4 : Int32) = nI b := by
    show nI _ / nI 4 = _
    rw [pk_div (by omega) (by omega) (by omega)]
    congr 1
    omega
  have e3 : zx_div (nI i) (nI b) = nI (i / b) := pk_div (by omega) (by omega) (by omega)
  have e4 : zx_rem (nI i) (nI b) = nI (i % b) := pk_rem (by omega) (by omega) (by omega)
  have nz : zx_nz (nI b) = true := decide_eq_true (nI_ne0 (by omega) (by omega))
  rw [f_M_readBlock_316, zp_gd (by decide), e1, zp_neg (nI_ge hi (by omega)), zp_gd (by decide), e2, zp_gd nz, zp_gd (by decide), zp_gd nz, e3, e4, show nI (i % b) * (4 : Int32) = nI (i % b * 4) from pk_mul _ 4, show nI (i / b) * (4 : Int32) = nI (i / b * 4) from pk_mul _ 4, nI_add, nI_add, show 4 * bx + i % b * 4 = 4 * (bx + i % b) by omega, show 4 * by_ + i / b * 4 = 4 * (by_ + i / b) by omega, nI_1]
  rfl
theorem zt_316e {b : Nat} (hb : b = 1 ∨ b = 2 ∨ b = 4) (K : Int32 → Int32 → Int32 → Int32 → zx_G → Option (Int32 × zx_G)) (n bx by_ p : Nat) (G : zx_G) : f_M_readBlock_316 K (n + 1) (nI (4 * bx)) (nI (4 * by_)) (nI (4 * b)) (nI p) (nI (b * b)) G = K (nI (4 * bx)) (nI (4 * by_)) (nI (4 * b)) (nI (p + 1)) G := by
  have e1 : zx_div (nI (4 * b) * nI (4 * b)) (16 : Int32) = nI (b * b) := by
    rw [pk_mul]
    show nI _ / nI 16 = _
    rw [pk_div (by rcases hb with rfl | rfl | rfl <;> omega) (by omega) (by omega)]
    congr 1
    rcases hb with rfl | rfl | rfl <;> omega
  rw [f_M_readBlock_316, zp_gd (by decide), e1, zp_pos (nI_le (Nat.le_refl _) (by rcases hb with rfl | rfl | rfl <;> omega)), zp_lt, nI_1]
/-- units outside, or after a failure, are passed over -/
theorem zt_skip {b e : Nat} (hb : b = 1 ∨ b = 2 ∨ b = 4) (he : e ≤ b * b) (K : Int32 → Int32 → Int32 → Int32 → zx_G → Option (Int32 × zx_G)) (bx by_ p : Nat) (G : zx_G) : ∀ (rem i n : Nat), i + rem = e → rem ≤ n → (∀ j, i ≤ j → j < e → f_M_piece (nI p) (nI (4 * (bx + j % b))) (nI (4 * (by_ + j / b))) G = some (0, G)) → f_M_readBlock_316 K n (nI (4 * bx)) (nI (4 * by_)) (nI (4 * b)) (nI p) (nI i) G = f_M_readBlock_316 K (n - rem) (nI (4 * bx)) (nI (4 * by_)) (nI (4 * b)) (nI p) (nI e) G := by
  intro rem
  induction rem with
  | zero =>
    intro i n hi _ _
    have : i = e := by omega
    subst this
    rfl
  | succ rem ih =>
    intro i n hi hn hj
    obtain ⟨n, rfl⟩ : ∃ k, n = k + 1 := ⟨n - 1, by omega⟩
    rw [zt_316 hb K n bx by_ p G (by omega), zp_bd (hj i (by omega) (by omega)), ih (i + 1) n (by omega) (by omega) (fun j h1 h2 => hj j (by omega) h2)]
    congr 1
    omega
/-- what the reading of units leaves -/
def zt_Fm (Gc0 Gm0 Gc Gm : zx_G) : Prop := (∀ r, r = 11 ∨ r = 17 ∨ r = 19 ∨ r = 20 ∨ r = 22 → Gc r = Gc0 r) ∧ (∀ r, r = 44 ∨ r = 45 ∨ r = 46 ∨ r = 51 ∨ r = 52 → Gm r = Gm0 r) ∧ (∀ k, k = 16 ∨ k = 17 ∨ k = 18 ∨ k = 19 ∨ k = 21 ∨ k = 37 → Gm 32 k = Gm0 32 k)
theorem zt_Fm.H {q t y w h : Nat} {Gc Gm Gc' Gm' : zx_G} (hF : zt_Fm Gc Gm Gc' Gm') (hH : zt_Hd q t y w h Gc Gm) : zt_Hd q t y w h Gc' Gm' := hH.keep (hF.1 11 (by omega)) (by rw [hF.1 17 (by omega)]) (hF.2.2 16 (by omega)) (hF.2.2 17 (by omega)) (hF.2.2 18 (by omega)) (hF.2.2 19 (by omega)) (hF.2.2 21 (by omega)) (hF.2.1 51 (by omega)) (hF.2.1 52 (by omega))
theorem zt_Fm.B {mb p ty md : Nat} {Gc Gm Gc' Gm' : zx_G} (hF : zt_Fm Gc Gm Gc' Gm') (hB : zt_Bk mb p ty md Gm) : zt_Bk mb p ty md Gm' := by
  unfold zt_Bk
  rw [hF.2.2 37 (by omega), hF.2.1 45 (by omega)]
  exact hB
theorem zt_Fm.piece {Gc0 Gm0 Gc Gm Gc' Gm' : zx_G} (hF : zt_Fm Gc0 Gm0 Gc Gm) {x1 x2 x3 r : Int32} (hp : f_M_piece x1 x2 x3 Gm = some (r, Gm')) (hc : ∀ r, r = 11 ∨ r = 17 ∨ r = 19 ∨ r = 20 ∨ r = 22 → Gc' r = Gc r) : zt_Fm Gc0 Gm0 Gc' Gm' := by
  have w := w_M_piece _ _ _ _ hp
  have v := v_M_piece _ _ _ _ hp
  refine ⟨fun r hr => (hc r hr).trans (hF.1 r hr), fun r hr => ?_, fun k hk => ?_⟩
  · rw [← hF.2.1 r hr]
    rcases hr with rfl | rfl | rfl | rfl | rfl
    · exact w 44 (by decide)
    · exact w 45 (by decide)
    · exact w 46 (by decide)
    · exact w 51 (by decide)
    · exact w 52 (by decide)
  · rw [← hF.2.2 k hk]
    rcases hk with rfl | rfl | rfl | rfl | rfl | rfl
    · exact v 32 16 (by decide) (by decide)
    · exact v 32 17 (by decide) (by decide)
    · exact v 32 18 (by decide) (by decide)
    · exact v 32 19 (by decide) (by decide)
    · exact v 32 21 (by decide) (by decide)
    · exact v 32 37 (by decide) (by decide)
def zt_z (ux uy : Nat) : Nat := ux % 2 + 2 * (uy % 2) + 4 * (ux / 2) + 8 * (uy / 2)
def zt_in (bx by_ b ux uy : Nat) : Prop := bx ≤ ux ∧ ux < bx + b ∧ by_ ≤ uy ∧ uy < by_ + b
/-- the units that are done: of the blocks before, and of this one -/
def zt_Dn (P w h m bx by_ b p0 r0 c0 : Nat) (p ux uy : Nat) : Prop := p < P ∧ 4 * ux < w ∧ 4 * uy < h ∧ (zt_z ux uy < m ∨ (zt_in bx by_ b ux uy ∧ (p < p0 ∨ (p = p0 ∧ (uy < by_ + r0 ∨ (uy = by_ + r0 ∧ ux < bx + c0))))))
/-- a block lies behind its neighbours -/
def zt_geo (m bx by_ b : Nat) : Prop := ∀ ux uy, zt_in bx by_ b ux uy → (0 < uy → zt_z ux (uy - 1) < m ∨ zt_in bx by_ b ux (uy - 1)) ∧ (0 < ux → zt_z (ux - 1) uy < m ∨ zt_in bx by_ b (ux - 1) uy) ∧ (0 < ux → 0 < uy → zt_z (ux - 1) (uy - 1) < m ∨ zt_in bx by_ b (ux - 1) (uy - 1))
theorem zt_geo.N {P w h m bx by_ b p r c : Nat} (hg : zt_geo m bx by_ b) (hp : p < P) (hr : r < b) (hc : c < b) (hx : 4 * (bx + c) < w) (hy : 4 * (by_ + r) < h) : zt_N (zt_Dn P w h m bx by_ b p r c) p (bx + c) (by_ + r) := by
  obtain ⟨g1, g2, g3⟩ := hg (bx + c) (by_ + r) ⟨by omega, by omega, by omega, by omega⟩
  refine ⟨fun h1 => ⟨hp, hx, by omega, ?_⟩, fun h1 => ⟨hp, by omega, hy, ?_⟩, fun h1 h2 => ⟨hp, by omega, by omega, ?_⟩⟩
  · rcases g1 h1 with z | z
    · exact Or.inl z
    · exact Or.inr ⟨z, Or.inr ⟨rfl, Or.inl (by omega)⟩⟩
  · rcases g2 h1 with z | z
    · exact Or.inl z
    · exact Or.inr ⟨z, Or.inr ⟨rfl, Or.inr ⟨rfl, by omega⟩⟩⟩
  · rcases g3 h1 h2 with z | z
    · exact Or.inl z
    · exact Or.inr ⟨z, Or.inr ⟨rfl, Or.inl (by omega)⟩⟩
/-- a failure, and what it leaves -/
def zt_f (Gm0 Gm : zx_G) : Prop := Gm 32 10 = 8 ∧ Gm 32 16 = Gm0 32 16 ∧ Gm 32 18 = Gm0 32 18 ∧ Gm 32 19 = Gm0 32 19
/-- both sides while the units of a block are read -/
def zt_X (fr to s t P w h m bx by_ b p r c bt : Nat) (Gc0 Gm0 Gc Gm : zx_G) : Prop := zk_R fr to s bt Gc Gm ∧ Gm 32 10 = 0 ∧ zt_Sm t (zt_Dn P w h m bx by_ b p r c) Gc Gm ∧ zt_Fm Gc0 Gm0 Gc Gm
theorem zt_X.mono {fr to s t P w h m bx by_ b p r c p' r' c' bt : Nat} {Gc0 Gm0 Gc Gm : zx_G} (hX : zt_X fr to s t P w h m bx by_ b p r c bt Gc0 Gm0 Gc Gm) (hD : ∀ ux uy k, 4 * ux < w → 4 * uy < h → zt_in bx by_ b ux uy → (k < p' ∨ (k = p' ∧ (uy < by_ + r' ∨ (uy = by_ + r' ∧ ux < bx + c')))) → (k < p ∨ (k = p ∧ (uy < by_ + r ∨ (uy = by_ + r ∧ ux < bx + c))))) : zt_X fr to s t P w h m bx by_ b p' r' c' bt Gc0 Gm0 Gc Gm := by
  obtain ⟨h1, h2, h3, h4⟩ := hX
  refine ⟨h1, h2, h3.mono (fun k ux uy z => ?_) rfl rfl, h4⟩
  obtain ⟨z1, z2, z3, z4⟩ := z
  refine ⟨z1, z2, z3, ?_⟩
  rcases z4 with z4 | ⟨z4, z5⟩
  · exact Or.inl z4
  · exact Or.inr ⟨z4, hD ux uy k z2 z3 z4 z5⟩
set_option maxRecDepth 100000 in
theorem zt_row {fr to s q t y w h m bx by_ b p ty md mb r : Nat} {Gc0 Gm0 : zx_G} {k47 : Int32 → Int32 → Int32 → Int32 → Int32 → Int32 → Int32 → zx_G → Option (Int32 × zx_G)} {K : Int32 → Int32 → Int32 → Int32 → zx_G → Option (Int32 × zx_G)} (hb : b = 1 ∨ b = 2 ∨ b = 4) (hbx : bx ≤ 3) (hby : by_ ≤ 3) (hg : zt_geo m bx by_ b) (hH : zt_Hd q t y w h Gc0 Gm0) (hB : zt_Bk mb p ty md Gm0) (h6 : md = 6 → 1 ≤ p ∧ Gm0 46 (p - 1) = Gc0 22 p) (hp : p < 1 + 2 * y) (hr : r < b) (hy : 4 * (by_ + r) < h) :
    ∀ (rem c n1 n2 bt : Nat) (Gc Gm : zx_G), c + rem = b → rem < n1 → b * b - (r * b + c) < n2 → bt + 6500 * rem + 10000 < 2 ^ 26 → zt_X fr to s t (1 + 2 * y) w h m bx by_ b p r c bt Gc0 Gm0 Gc Gm →
    ∃ (Gc' Gm' : zx_G) (bt' n2' : Nat), bt' ≤ bt + 6500 * rem ∧ ((f_T_readUnits_71 k47 n1 (nI p) (nI (4 * bx)) (nI (4 * by_)) (nI (4 * b)) (nI md) (nI ty) (nI (4 * (by_ + r))) (nI (4 * (bx + c))) Gc = f_T_readUnits_152 k47 (nI p) (nI (4 * bx)) (nI (4 * by_)) (nI (4 * b)) (nI md) (nI ty) (nI (4 * (by_ + r))) Gc' ∧ f_M_readBlock_316 K n2 (nI (4 * bx)) (nI (4 * by_)) (nI (4 * b)) (nI p) (nI (r * b + c)) Gm = f_M_readBlock_316 K n2' (nI (4 * bx)) (nI (4 * by_)) (nI (4 * b)) (nI p) (nI ((r + 1) * b)) Gm' ∧ b * b - (r + 1) * b < n2' ∧ zt_X fr to s t (1 + 2 * y) w h m bx by_ b p (r + 1) 0 bt' Gc0 Gm0 Gc' Gm') ∨
      (f_T_readUnits_71 k47 n1 (nI p) (nI (4 * bx)) (nI (4 * by_)) (nI (4 * b)) (nI md) (nI ty) (nI (4 * (by_ + r))) (nI (4 * (bx + c))) Gc = some (0, Gc') ∧ f_M_readBlock_316 K n2 (nI (4 * bx)) (nI (4 * by_)) (nI (4 * b)) (nI p) (nI (r * b + c)) Gm = K (nI (4 * bx)) (nI (4 * by_)) (nI (4 * b)) (nI (p + 1)) Gm' ∧ zt_f Gm0 Gm')) := by
  obtain ⟨⟨hq, ht, hy1, hw1, hw2, hh1, hh2⟩, -⟩ := id hH
  obtain ⟨i1, i2, i3⟩ := zt_ix2 hb hr
  intro rem
  induction rem with
  | zero =>
    intro c n1 n2 bt Gc Gm hc hn1 hn2 hbt hX
    obtain ⟨n1, rfl⟩ : ∃ k, n1 = k + 1 := ⟨n1 - 1, by omega⟩
    have : c = b := by omega
    subst this
    refine ⟨Gc, Gm, bt, n2, by omega, Or.inl ⟨?_, by rw [i1], by omega, hX.mono (fun ux uy k h1 h2 h3 h4 => by obtain ⟨h5, h6, h7, h8⟩ := h3; omega)⟩⟩
    rw [f_T_readUnits_71, zp_pos (by rw [nI_add]; exact nI_le (by omega) (by omega))]
  | succ rem ih =>
    intro c n1 n2 bt Gc Gm hc hn1 hn2 hbt hX
    obtain ⟨n1, rfl⟩ : ∃ k, n1 = k + 1 := ⟨n1 - 1, by omega⟩
    obtain ⟨n2, rfl⟩ : ∃ k, n2 = k + 1 := ⟨n2 - 1, by omega⟩
    obtain ⟨j1, j2⟩ := zt_ix (r := r) hb (show c < b by omega)
    obtain ⟨x1, x2, x3, x4⟩ := id hX
    have hH1 := x4.H hH
    obtain ⟨-, ⟨e10, e6, e7, e8, e4⟩, ⟨m16, m17, m18, m19, m21⟩, -⟩ := id hH1
    rw [f_T_readUnits_71, zp_neg (by rw [nI_add]; exact nI_ge (by omega) (by omega)), e7]
    by_cases cw : w ≤ 4 * (bx + c)
    · refine ⟨Gc, Gm, bt, n2 + 1 - (b - c), by omega, Or.inl ⟨by rw [zp_pos (nI_le cw (by omega))], ?_, by omega, hX.mono (fun ux uy k h1 h2 h3 h4 => by obtain ⟨h5, h6, h7, h8⟩ := h3; omega)⟩⟩
      rw [i1]
      refine zt_skip hb i2 K bx by_ p Gm (b - c) (r * b + c) (n2 + 1) (by omega) (by omega) (fun j h1 h2 => ?_)
      obtain ⟨c', rfl⟩ : ∃ c', j = r * b + c' := ⟨j - r * b, by omega⟩
      obtain ⟨l1, l2⟩ := zt_ix (r := r) hb (show c' < b by omega)
      rw [l1, l2]
      exact zt_out m18 m19 hw2 hh2 (by omega) (by omega) (Or.inl (by omega))
    · obtain ⟨G1, M1, bt1, u1, u2, u3⟩ := zt_unit (q := q) (y := y) (mb := mb) (ty := ty) (md := md) x1 hH1 x2 (x4.B hB) (fun z => ⟨(h6 z).1, by rw [x4.2.1 46 (by omega), x4.1 22 (by omega)]; exact (h6 z).2, ⟨by omega, by omega, hy, Or.inr ⟨⟨by omega, by omega, by omega, by omega⟩, Or.inl (by have := (h6 z).1; omega)⟩⟩⟩) x3 (hg.N hp hr (show c < b by omega) (by omega) hy) (by omega) hy (by omega) (by omega)
      rw [zp_neg (nI_ge (by omega) (by omega)), e10, zt_316 hb K n2 bx by_ p Gm (by omega), j1, j2, zp_bd u2]
      rcases u3 with ⟨u3, u4⟩ | ⟨G2, G3, u3, u4, u5, u6, u7, u8, u9, u10⟩
      · refine ⟨G1, M1, bt1, 0, by omega, Or.inr ⟨by rw [zp_bd u3, zp_neg (fun z => z rfl)]; rfl, ?_, ⟨u4, ?_, ?_, ?_⟩⟩⟩
        rotate_left
        · rw [v_M_piece _ _ _ _ u2 32 16 (by decide) (by decide)]; exact x4.2.2 16 (by omega)
        · rw [v_M_piece _ _ _ _ u2 32 18 (by decide) (by decide)]; exact x4.2.2 18 (by omega)
        · rw [v_M_piece _ _ _ _ u2 32 19 (by decide) (by decide)]; exact x4.2.2 19 (by omega)
        have v := v_M_piece _ _ _ _ u2
        have hn : ¬ M1 32 10 = 0 := by rw [u4]; decide
        rw [zt_skip hb (Nat.le_refl _) K bx by_ p M1 (b * b - (r * b + c + 1)) (r * b + c + 1) n2 (by omega) (by omega) (fun j h1 h2 => zt_out ((v 32 18 (by decide) (by decide)).trans m18) ((v 32 19 (by decide) (by decide)).trans m19) hw2 hh2 (by have := Nat.mod_lt j (show b > 0 by omega); omega) (by have : j / b ≤ j := Nat.div_le_self j b; omega) (Or.inr (Or.inr hn)))]
        obtain ⟨n3, h3⟩ : ∃ k, n2 - (b * b - (r * b + c + 1)) = k + 1 := ⟨n2 - (b * b - (r * b + c + 1)) - 1, by omega⟩
        rw [h3, zt_316e hb]
      · have hF3 := x4.piece u2 u10
        have hX3 : zt_X fr to s t (1 + 2 * y) w h m bx by_ b p r (c + 1) bt1 Gc0 Gm0 G3 M1 := by
          refine ⟨u7, u8, u9.mono (fun k ux uy z => ?_) rfl rfl, hF3⟩
          obtain ⟨z1, z2, z3, z4⟩ := z
          rcases z4 with z4 | ⟨z4, z5⟩
          · exact Or.inl ⟨z1, z2, z3, Or.inl z4⟩
          · by_cases ce : k = p ∧ ux = bx + c ∧ uy = by_ + r
            · exact Or.inr ce
            · exact Or.inl ⟨z1, z2, z3, Or.inr ⟨z4, by omega⟩⟩
        obtain ⟨Gc', Gm', bt', n2', v1, v2⟩ := ih (c + 1) n1 n2 bt1 G3 M1 (by omega) (by omega) (by omega) (by omega) hX3
        refine ⟨Gc', Gm', bt', n2', by omega, ?_⟩
        have ec : zx_bd (f_D_read (nI p) (nI q) (nI ty) Gc) (fun r_4 G_3 => zx_if (¬ r_4 = 0) (zx_gd (zx_in (nI p) 3) <| zx_bd (f_E_make (nI p) (nI (4 * (bx + c))) (nI (4 * (by_ + r))) (nI md) (G_3 22 (Int32.toNatClampNeg (nI p))) G_3) fun r_9 G_8 => zx_bd (f_P_placeOf (nI p) (nI (4 * (bx + c))) (nI (4 * (by_ + r))) G_8) fun r_12 G_11 => zx_bd (f_T_mend r_12 G_11) fun r_15 G_14 => zx_lt (nI (4 * (bx + c)) + (4 : Int32)) fun x9_17 => f_T_readUnits_71 k47 n1 (nI p) (nI (4 * bx)) (nI (4 * by_)) (nI (4 * b)) (nI md) (nI ty) (nI (4 * (by_ + r))) x9_17 G_14) (zx_gd (zx_01 (0 : Int32)) <| some ((0 : Int32), G_3))) = f_T_readUnits_71 k47 n1 (nI p) (nI (4 * bx)) (nI (4 * by_)) (nI (4 * b)) (nI md) (nI ty) (nI (4 * (by_ + r))) (nI (4 * (bx + (c + 1)))) G3 := by
          rw [zp_bd u3, zp_pos (by decide), zp_gd (zp_in (by omega) (by omega)), zp_cl (by omega), u4, zp_bd u5, zp_bd (zt_place p (4 * (bx + c)) (4 * (by_ + r)) G2), zp_bd u6, zp_lt, show nI (4 * (bx + c)) + (4 : Int32) = nI (4 * (bx + c) + 4) from nI_add _ 4, show 4 * (bx + c) + 4 = 4 * (bx + (c + 1)) by omega]
        rw [ec]
        exact v2
