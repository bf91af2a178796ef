/-! a block's head, whole -/
def zt_D0 (y w h m : Nat) (p ux uy : Nat) : Prop := p < 1 + 2 * y ∧ 4 * ux < w ∧ 4 * uy < h ∧ zt_z ux uy < m
/-- owners and words of n blocks -/
def zt_O (w h m n : Nat) (Gc Gm : zx_G) : Prop := (∀ ux uy, 4 * ux < w → 4 * uy < h → zt_z ux uy < m → ∃ o, o < n ∧ Gc 19 (4 * uy + ux) = nI o ∧ Gm 44 (4 * uy + ux) = nI (o + 1)) ∧ (∀ o, o < n → ∀ v, v < 4 → Gc 20 (4 * o + v) = Gm 45 (4 * (o + 1) + v))
/-- both sides between two blocks: the units below m are done, n blocks -/
def zt_Y (fr to s q t y w h m bt n : Nat) (Gc Gm : zx_G) : Prop := zk_R fr to s bt Gc Gm ∧ Gm 32 10 = 0 ∧ zt_Hd q t y w h Gc Gm ∧ zt_Sm t (zt_D0 y w h m) Gc Gm ∧ (n ≤ m ∧ Gc 17 3 = nI n ∧ Gm 32 37 = nI n) ∧ zt_O w h m n Gc Gm
/-- what the neighbour at a place tells of its luma -/
theorem zt_told {w h m n ux uy : Nat} {Gc Gm : zx_G} (hO : zt_O w h m n Gc Gm) (hn : n ≤ 15) (hx : 4 * ux < w) (hy : 4 * uy < h) (hw : w ≤ 16) (hh : h ≤ 16) (hz : zt_z ux uy < m) : ∃ o, o < 15 ∧ Gc 19 (4 * uy + ux) = nI o ∧ Gm 44 (4 * uy + ux) = nI (o + 1) ∧ Gc 20 (4 * o + 1) = Gm 45 (4 * (o + 1) + 1) := by
  obtain ⟨o, h1, h2, h3⟩ := hO.1 ux uy hx hy hz
  exact ⟨o, by omega, h2, h3, hO.2 o h1 1 (by omega)⟩
theorem zt_ownerC {x y : Nat} {G : zx_G} (hx : x < 16) (hy : y < 16) : f_P_ownerAt (nI x) (nI y) G = some (G 19 (4 * (y / 4) + x / 4), G) := by
  unfold f_P_ownerAt
  rw [show nI x >>> ((2 : Int32) &&& 31) = nI (x / 4) from pk_shrN (by omega) _ 2 (by decide), show nI y >>> ((2 : Int32) &&& 31) = nI (y / 4) from pk_shrN (by omega) _ 2 (by decide), show nI (y / 4) * (4 : Int32) = nI (y / 4 * 4) from pk_mul _ 4, nI_add, zp_gd (zp_in (by omega) (by omega)), zp_cl (by omega), Nat.mul_comm (y / 4) 4]
theorem zt_ctx {fr to s q t y w h bt n bx by_ b : Nat} {Gc Gm : zx_G} (hY : zt_Y fr to s q t y w h (zt_z bx by_) bt n Gc Gm) (hz : zt_z bx by_ ≤ 15) (hb : b = 1 ∨ b = 2 ∨ b = 4) (hx : bx + b ≤ 4) (hy : by_ + b ≤ 4) (hg : zt_geo (zt_z bx by_) bx by_ b) (hxw : 4 * bx < w) (hyh : 4 * by_ < h) :
    ∃ a l : Nat, a ≤ 1 ∧ l ≤ 1 ∧ f_T_readBlock (nI (4 * bx)) (nI (4 * by_)) (nI (4 * b)) Gc = f_T_readBlock_64 (nI (4 * bx)) (nI (4 * by_)) (nI (4 * b)) (nI a) (nI l) Gc ∧ f_M_readBlock (nI (4 * bx)) (nI (4 * by_)) (nI (4 * b)) Gm = f_M_readBlock_93 (nI (4 * bx)) (nI (4 * by_)) (nI (4 * b)) (nI (4 * by_ + bx)) (nI a) (nI (2 * l)) Gm := by
  obtain ⟨hR, h0, hH, hS, ⟨n1, n2, n3⟩, hO⟩ := hY
  obtain ⟨⟨hq, ht, hy1, hw1, hw2, hh1, hh2⟩, ⟨e10, e6, e7, e8, e4⟩, ⟨m16, m17, m18, m19, m21⟩, -⟩ := id hH
  obtain ⟨g1, g2, -⟩ := hg bx by_ ⟨by omega, by omega, by omega, by omega⟩
  have i45 : ∀ o : Nat, ((4 : Int32) * nI (o + 1)) + (1 : Int32) = nI (4 * (o + 1) + 1) := fun o => zt_i45 (v := 1)
  -- above
  obtain ⟨a, ha, a1, a2⟩ : ∃ a : Nat, a ≤ 1 ∧ f_T_readBlock (nI (4 * bx)) (nI (4 * by_)) (nI (4 * b)) Gc = f_T_readBlock_31 (nI (4 * bx)) (nI (4 * by_)) (nI (4 * b)) (nI a) Gc ∧ f_M_readBlock (nI (4 * bx)) (nI (4 * by_)) (nI (4 * b)) Gm = f_M_readBlock_61 (nI (4 * bx)) (nI (4 * by_)) (nI (4 * b)) (nI (4 * by_ + bx)) (nI a) Gm := by
    have pre : f_M_readBlock (nI (4 * bx)) (nI (4 * by_)) (nI (4 * b)) Gm = zx_if (nI (4 * by_) ≤ 0) (f_M_readBlock_60 (nI (4 * bx)) (nI (4 * by_)) (nI (4 * b)) (nI (4 * by_ + bx)) Gm) (zx_gd (zx_in (nI (4 * by_ + bx) - (4 : Int32)) 16) <| zx_gd (zx_in (((4 : Int32) * (Gm 44 (Int32.toNatClampNeg (nI (4 * by_ + bx) - (4 : Int32))))) + (1 : Int32)) 68) <| zx_if ((Gm 45 (Int32.toNatClampNeg (((4 : Int32) * (Gm 44 (Int32.toNatClampNeg (nI (4 * by_ + bx) - (4 : Int32))))) + (1 : Int32)))) = 0) (f_M_readBlock_60 (nI (4 * bx)) (nI (4 * by_)) (nI (4 * b)) (nI (4 * by_ + bx)) Gm) (f_M_readBlock_61 (nI (4 * bx)) (nI (4 * by_)) (nI (4 * b)) (nI (4 * by_ + bx)) (1 : Int32) Gm)) := by
      unfold f_M_readBlock
      rw [m18, m19, zp_neg (nI_ge hxw (by omega)), zp_neg (nI_ge hyh (by omega)), zp_pos h0, zp_gd (by decide), zp_lt, show zx_div (nI (4 * bx)) (4 : Int32) = nI (4 * bx / 4) from pk_div (d := 4) (by omega) (by omega) (by omega), show 4 * bx / 4 = bx by omega, nI_add]
    by_cases c : by_ = 0
    · have hc : nI (4 * by_) ≤ 0 := by rw [c]; decide
      refine ⟨0, by omega, ?_, ?_⟩
      · unfold f_T_readBlock
        rw [zp_pos hc]
        rfl
      · rw [pre, zp_pos hc]
        rfl
    · have hc : ¬ nI (4 * by_) ≤ 0 := nI_ge (a := 0) (by omega) (by omega)
      obtain ⟨o, o1, o2, o3, o4⟩ := zt_told (ux := bx) (uy := by_ - 1) hO (by omega) hxw (by omega) hw2 hh2 (by rcases g1 (by omega) with z | z; exact z; exact absurd z.2.2.1 (by omega))
      have oc : f_P_ownerAt (nI (4 * bx)) (nI (4 * by_) - (1 : Int32)) Gc = some (nI o, Gc) := by
        rw [show nI (4 * by_) - (1 : Int32) = nI (4 * by_ - 1) from pk_sub (b := 1) (by omega), zt_ownerC (by omega) (by omega), show 4 * ((4 * by_ - 1) / 4) + 4 * bx / 4 = 4 * (by_ - 1) + bx by omega, o2]
      have im : nI (4 * by_ + bx) - (4 : Int32) = nI (4 * (by_ - 1) + bx) := by rw [show nI (4 * by_ + bx) - (4 : Int32) = nI (4 * by_ + bx - 4) from pk_sub (b := 4) (by omega)]; congr 1; omega
      have preC : f_T_readBlock (nI (4 * bx)) (nI (4 * by_)) (nI (4 * b)) Gc = zx_if (Gc 20 (4 * o + 1) = 0) (f_T_readBlock_30 (nI (4 * bx)) (nI (4 * by_)) (nI (4 * b)) Gc) (f_T_readBlock_31 (nI (4 * bx)) (nI (4 * by_)) (nI (4 * b)) (1 : Int32) Gc) := by
        unfold f_T_readBlock
        rw [zp_neg hc, zp_bd oc, zp_bd (show f_P_tellOf (nI o) (1 : Int32) Gc = _ from zt_tellOf (v := 1) (by omega) (by omega) Gc)]
      rw [pre, zp_neg hc, im, zp_gd (zp_in (by omega) (by omega)), zp_cl (by omega), o3, i45, zp_gd (zp_in (by omega) (by omega)), zp_cl (by omega), preC, o4]
      by_cases cz : Gm 45 (4 * (o + 1) + 1) = 0
      · exact ⟨0, by omega, by rw [zp_pos cz]; rfl, by rw [zp_pos cz]; rfl⟩
      · exact ⟨1, by omega, by rw [zp_neg cz]; rfl, by rw [zp_neg cz]; rfl⟩
  -- left
  obtain ⟨l, hl, l1, l2⟩ : ∃ l : Nat, l ≤ 1 ∧ f_T_readBlock_31 (nI (4 * bx)) (nI (4 * by_)) (nI (4 * b)) (nI a) Gc = f_T_readBlock_64 (nI (4 * bx)) (nI (4 * by_)) (nI (4 * b)) (nI a) (nI l) Gc ∧ f_M_readBlock_61 (nI (4 * bx)) (nI (4 * by_)) (nI (4 * b)) (nI (4 * by_ + bx)) (nI a) Gm = f_M_readBlock_93 (nI (4 * bx)) (nI (4 * by_)) (nI (4 * b)) (nI (4 * by_ + bx)) (nI a) (nI (2 * l)) Gm := by
    unfold f_T_readBlock_31 f_M_readBlock_61
    rw [zp_lt, zp_lt]
    by_cases c : bx = 0
    · have hc : nI (4 * bx) ≤ 0 := by rw [c]; decide
      exact ⟨0, by omega, by rw [zp_pos hc]; rfl, by rw [zp_pos hc]; rfl⟩
    · have hc : ¬ nI (4 * bx) ≤ 0 := nI_ge (a := 0) (by omega) (by omega)
      obtain ⟨o, o1, o2, o3, o4⟩ := zt_told (ux := bx - 1) (uy := by_) hO (by omega) (by omega) hyh hw2 hh2 (by rcases g2 (by omega) with z | z; exact z; exact absurd z.1 (by omega))
      have oc : f_P_ownerAt (nI (4 * bx) - (1 : Int32)) (nI (4 * by_)) Gc = some (nI o, Gc) := by
        rw [show nI (4 * bx) - (1 : Int32) = nI (4 * bx - 1) from pk_sub (b := 1) (by omega), zt_ownerC (by omega) (by omega), show 4 * (4 * by_ / 4) + (4 * bx - 1) / 4 = 4 * by_ + (bx - 1) by omega, o2]
      have im : nI (4 * by_ + bx) - (1 : Int32) = nI (4 * by_ + (bx - 1)) := by rw [show nI (4 * by_ + bx) - (1 : Int32) = nI (4 * by_ + bx - 1) from pk_sub (b := 1) (by omega)]; congr 1; omega
      rw [zp_neg hc, zp_neg hc, zp_bd oc, zp_bd (show f_P_tellOf (nI o) (1 : Int32) Gc = _ from zt_tellOf (v := 1) (by omega) (by omega) Gc), im, zp_gd (zp_in (by omega) (by omega)), zp_cl (by omega), o3, i45, zp_gd (zp_in (by omega) (by omega)), zp_cl (by omega), o4]
      by_cases cz : Gm 45 (4 * (o + 1) + 1) = 0
      · exact ⟨0, by omega, by rw [zp_pos cz]; rfl, by rw [zp_pos cz]; rfl⟩
      · exact ⟨1, by omega, by rw [zp_neg cz]; rfl, by rw [zp_neg cz]; rfl⟩
  exact ⟨a, l, ha, hl, a1.trans l1, a2.trans l2⟩
theorem zx_cnt_6 : ∀ t, 2 ≤ t → t < 6 → zx_cnt t = 6 := fun t h1 h2 => by
  have h : t = 2 ∨ t = 3 ∨ t = 4 ∨ t = 5 := by omega
  rcases h with rfl | rfl | rfl | rfl <;> rfl
theorem zt_head {fr to s q t y w h bt n bx by_ b : Nat} {Gc Gm : zx_G} (hY : zt_Y fr to s q t y w h (zt_z bx by_) bt n Gc Gm) (hz : zt_z bx by_ ≤ 15) (hb : b = 1 ∨ b = 2 ∨ b = 4) (hx : bx + b ≤ 4) (hy : by_ + b ≤ 4) (hg : zt_geo (zt_z bx by_) bx by_ b) (hxw : 4 * bx < w) (hyh : 4 * by_ < h) (hbt : bt + 200 < 2 ^ 27) :
    ∃ (Gc' Gm' : zx_G) (bt' md0 md1 ty : Nat), bt' ≤ bt + 100 ∧ f_T_readBlock (nI (4 * bx)) (nI (4 * by_)) (nI (4 * b)) Gc = some (nI n, Gc') ∧ f_M_readBlock (nI (4 * bx)) (nI (4 * by_)) (nI (4 * b)) Gm = f_M_readBlock_300 2048 (nI (4 * bx)) (nI (4 * by_)) (nI (4 * b)) (0 : Int32) Gm' ∧ zk_R fr to s bt' Gc' Gm' ∧ Gm' 32 10 = 0 ∧ zt_Hd q t y w h Gc' Gm' ∧ zt_Sm t (zt_D0 y w h (zt_z bx by_)) Gc' Gm' ∧ zt_Tl b (n + 1) md0 md1 ty Gc' Gm' ∧ Gc' 17 3 = nI (n + 1) ∧
      (∀ ux uy, 4 * ux < w → 4 * uy < h → zt_z ux uy < zt_z bx by_ ∨ zt_in bx by_ b ux uy → ∃ o, o < n + 1 ∧ Gc' 19 (4 * uy + ux) = nI o ∧ Gm' 44 (4 * uy + ux) = nI (o + 1)) ∧ (∀ o, o < n + 1 → ∀ v, v < 4 → Gc' 20 (4 * o + v) = Gm' 45 (4 * (o + 1) + v)) := by
  obtain ⟨a, l, ha, hl, a1, a2⟩ := zt_ctx hY hz hb hx hy hg hxw hyh
  obtain ⟨hR, h0, hH, hS, ⟨n1, n2, n3⟩, hO⟩ := hY
  obtain ⟨⟨hq, ht, hy1, hw1, hw2, hh1, hh2⟩, ⟨e10, e6, e7, e8, e4⟩, ⟨m16, m17, m18, m19, m21⟩, -⟩ := id hH
  -- the block is added
  obtain ⟨B, b1, b2, b3, b4, b5, b6⟩ := zt_add hb hx hy n2
  have hn : n < 16 := by omega
  -- base states
  have hQ0 : zt_Q fr to s bt n 0 (fun _ => 0) B (zx_up Gm 32 37 (nI (n + 1))) B (zx_up Gm 32 37 (nI (n + 1))) := by
    refine ⟨hR.keep2 (b3 14 (by omega) (by omega)) (b3 9 (by omega) (by omega)) (b3 15 (by omega) (by omega)) (b3 16 (by omega) (by omega)) (zp_uk (by omega)) (zp_uk (by omega)) (zp_uk (by omega)) (zp_uk (by omega)) (zp_uk (by omega)) (zp_uk (by omega)) (zp_uk (by omega)) (zp_ur (by omega)) (zp_ur (by omega)) (zp_ur (by omega)), fun _ _ _ _ _ _ => rfl, fun _ _ _ _ _ _ => rfl, fun _ _ => rfl, fun _ _ => rfl, fun _ _ => rfl, fun v hv => absurd hv (by omega)⟩
  have hQ1 := hQ0.tell (4 * b)
  obtain ⟨C1, D1, bt1, md0, c1, c2, c3, c4, c5, -, -⟩ := hQ1.sym (t := 2 + a + 2 * l) (by omega) (by omega)
  have hmd0 : md0 ≤ 5 := by have := zx_cnt_6 (2 + a + 2 * l) (by omega) (by omega); omega
  have hQ2 := c5.tell md0
  -- the colour's word
  obtain ⟨C2, D2, bt2, md1, d0, d1, d2, d3, d4⟩ : ∃ (C2 D2 : zx_G) (bt2 md1 : Nat), md1 ≤ 6 ∧ bt2 ≤ bt1 + 14 ∧ zt_Q fr to s bt2 n 3 (fun v => if v = 2 then md1 else if v = 1 then md0 else if v = 0 then 4 * b else 0) B (zx_up Gm 32 37 (nI (n + 1))) C2 D2 ∧ zx_if (¬ nI (1 + 2 * y) = (3 : Int32)) (f_T_readBlock_139 (nI n) (0 : Int32) (zx_up C1 20 (4 * n + 1) (nI md0))) (zx_bd (f_C_readSymbol (6 : Int32) (zx_up C1 20 (4 * n + 1) (nI md0))) fun r_17 G_16 => f_T_readBlock_139 (nI n) r_17 G_16) = f_T_readBlock_156 2048 (nI n) (nI md1) (1 : Int32) C2 ∧ zx_if (¬ nI y = (1 : Int32)) (f_M_readBlock_171 (nI (4 * bx)) (nI (4 * by_)) (nI (4 * b)) (nI (4 * by_ + bx)) (nI (4 * (n + 1) + 2)) (0 : Int32) (zx_up D1 45 (4 * (n + 1) + 1) (nI md0))) (zx_bd (f_M_symbol (6 : Int32) (zx_up D1 45 (4 * (n + 1) + 1) (nI md0))) fun r_12 G_11 => f_M_readBlock_171 (nI (4 * bx)) (nI (4 * by_)) (nI (4 * b)) (nI (4 * by_ + bx)) (nI (4 * (n + 1) + 2)) r_12 G_11) = f_M_readBlock_175 2048 (nI (4 * bx)) (nI (4 * by_)) (nI (4 * b)) (nI (4 * by_ + bx)) (0 : Int32) D2 := by
    have t139 : ∀ (x : Nat) (G : zx_G), f_T_readBlock_139 (nI n) (nI x) G = f_T_readBlock_156 2048 (nI n) (nI x) (1 : Int32) (zx_up G 20 (4 * n + 2) (nI x)) := fun x G => by
      unfold f_T_readBlock_139
      rw [zp_lt, zp_bd (show f_P_tell (nI n) (2 : Int32) (nI x) G = _ from zt_tell (v := 2) hn (by omega) (nI x) G), zp_lt]
    have t171 : ∀ (x : Nat) (G : zx_G), f_M_readBlock_171 (nI (4 * bx)) (nI (4 * by_)) (nI (4 * b)) (nI (4 * by_ + bx)) (nI (4 * (n + 1) + 2)) (nI x) G = f_M_readBlock_175 2048 (nI (4 * bx)) (nI (4 * by_)) (nI (4 * b)) (nI (4 * by_ + bx)) (0 : Int32) (zx_up G 45 (4 * (n + 1) + 2) (nI x)) := fun x G => by
      unfold f_M_readBlock_171
      rw [zp_gd (zp_in (by omega) (by omega)), zp_lt, zp_lt, zp_cl (by omega)]
    by_cases c : y = 1
    · obtain ⟨C2, D2, bt2, md1, f1, f2, f3, f4, f5, -, -⟩ := hQ2.sym (t := 6) (by omega) (by omega)
      have hmd1 : md1 ≤ 6 := by have : zx_cnt 6 = 7 := rfl; omega
      refine ⟨zx_up C2 20 (4 * n + 2) (nI md1), zx_up D2 45 (4 * (n + 1) + 2) (nI md1), bt2, md1, hmd1, f4, f5.tell md1, ?_, ?_⟩
      · rw [c, zp_neg (show ¬ ¬ nI (1 + 2 * 1) = (3 : Int32) from fun z => z rfl), zp_bd (show f_C_readSymbol (6 : Int32) _ = _ from f2), t139]
      · rw [c, zp_neg (show ¬ ¬ nI 1 = (1 : Int32) from fun z => z rfl), zp_bd (show f_M_symbol (6 : Int32) _ = _ from f3), t171]
    · have y0 : y = 0 := by omega
      refine ⟨zx_up (zx_up C1 20 (4 * n + 1) (nI md0)) 20 (4 * n + 2) (nI 0), zx_up (zx_up D1 45 (4 * (n + 1) + 1) (nI md0)) 45 (4 * (n + 1) + 2) (nI 0), bt1, 0, by omega, by omega, hQ2.tell 0, ?_, ?_⟩
      · rw [y0, zp_pos (show ¬ nI (1 + 2 * 0) = (3 : Int32) by decide)]
        exact t139 0 _
      · rw [y0, zp_pos (show ¬ nI 0 = (1 : Int32) by decide)]
        exact t171 0 _
  have bc11 : B 11 10 = nI q := by rw [b3 11 (by omega) (by omega)]; exact e10
  have bm21 : zx_up Gm 32 37 (nI (n + 1)) 32 21 = nI q := by rw [zp_uk (by omega)]; exact m21
  obtain ⟨C3, D3, bt3, ty, g1, g2, g3, g4, g5, g6⟩ := zt_last (bx := bx) (by_ := by_) (b := b) (md1 := md1) d2 rfl hn d0 hq bc11 bm21 zp_us (by omega) hb hx hy
  obtain ⟨k1, k2, k3, k4, k5, k6, k7⟩ := g5
  have m37 : D3 32 37 = nI (n + 1) := by rw [k4 37 (by omega), zp_us]
  obtain ⟨D4, l1, l2, l3, l4⟩ := zt_253 hb hx hy m37
  have w0 := k7 0 (by omega)
  have w1 := k7 1 (by omega)
  have w2 := k7 2 (by omega)
  have w3 := k7 3 (by omega)
  have b32 : ∀ k, k ≠ 37 → (k < 27 ∨ 30 < k) → D4 32 k = Gm 32 k := fun k h1 h2 => by rw [l3 32 (by omega), k4 k h2, zp_uk h1]
  have c17 : C3 17 = B 17 := k2 17 (by omega) (by omega) (by omega) (by omega) (by omega)
  refine ⟨C3, D4, bt3, md0, md1, ty, by omega, ?_, ?_, k1.keep rfl rfl rfl rfl (l3 32 (by omega)) (l3 39 (by omega)) (l3 40 (by omega)) (l3 41 (by omega)), ?_, ?_, ?_, ?_, ?_, ?_, ?_⟩
  · rw [a1]
    unfold f_T_readBlock_64
    have e11 : zx_up C1 20 (4 * n + 1) (nI md0) 11 6 = nI (1 + 2 * y) := by
      rw [zp_ur (by omega), c5.2.1 11 (by omega) (by omega) (by omega) (by omega) (by omega), b3 11 (by omega) (by omega)]
      exact e6
    rw [zp_lt, zp_bd b1, zp_lt, zp_bd (show f_P_tell (nI n) (0 : Int32) (nI (4 * b)) B = _ from zt_tell (v := 0) hn (by omega) _ B), show ((2 : Int32) + nI a) + ((2 : Int32) * nI l) = nI (2 + a + 2 * l) by rw [show (2 : Int32) * nI l = nI (2 * l) from pk_mul 2 l, show (2 : Int32) + nI a = nI (2 + a) from nI_add 2 a, nI_add], zp_bd c2, zp_bd (show f_P_tell (nI n) (1 : Int32) (nI md0) C1 = _ from zt_tell (v := 1) hn (by omega) _ C1), e11, d3]
    exact g3
  · rw [a2]
    unfold f_M_readBlock_93
    have u37 : D1 32 37 = nI (n + 1) := by rw [c5.2.2.2.1 37 (by omega), zp_us]
    have u16 : D1 32 16 = nI y := by rw [c5.2.2.2.1 16 (by omega), zp_uk (by omega)]; exact m16
    rw [zp_lt, zp_lt, n3, nI_1, zp_us, show (4 : Int32) * nI (n + 1) = nI (4 * (n + 1)) from pk_mul 4 _, zp_gd (zp_in (by omega) (by omega)), zp_lt, zp_cl (by omega), show ((2 : Int32) + nI a) + nI (2 * l) = nI (2 + a + 2 * l) by rw [show (2 : Int32) + nI a = nI (2 + a) from nI_add 2 a, nI_add], zp_bd (show f_M_symbol (nI (2 + a + 2 * l)) (zx_up (zx_up Gm 32 37 (nI (n + 1))) 45 (4 * (n + 1)) (nI (4 * b))) = _ from c3), zp_ur (by omega), zp_us, show (4 : Int32) * nI (n + 1) = nI (4 * (n + 1)) from pk_mul 4 _, show nI (4 * (n + 1)) + (1 : Int32) = nI (4 * (n + 1) + 1) from nI_1 _, zp_gd (zp_in (by omega) (by omega)), zp_lt, zp_cl (by omega), zp_ur (by omega), u16, u37, show (4 : Int32) * nI (n + 1) = nI (4 * (n + 1)) from pk_mul 4 _, show nI (4 * (n + 1)) + (2 : Int32) = nI (4 * (n + 1) + 2) from nI_add _ 2, d4, g4]
    exact l1
  · rw [b32 10 (by omega) (by omega)]
    exact h0
  · exact hH.keep (by rw [k2 11 (by omega) (by omega) (by omega) (by omega) (by omega), b3 11 (by omega) (by omega)]) (by rw [c17]; exact b6 4 (by omega)) (b32 16 (by omega) (by omega)) (b32 17 (by omega) (by omega)) (b32 18 (by omega) (by omega)) (b32 19 (by omega) (by omega)) (b32 21 (by omega) (by omega)) (by rw [l3 51 (by omega), k3 51 (by omega) (by omega) (by omega) (by omega) (by omega), zp_ur (by omega)]) (by rw [l3 52 (by omega), k3 52 (by omega) (by omega) (by omega) (by omega) (by omega), zp_ur (by omega)])
  · exact hS.mono (fun _ _ _ z => z) (by rw [k2 18 (by omega) (by omega) (by omega) (by omega) (by omega), b3 18 (by omega) (by omega)]) (by rw [l3 42 (by omega), k3 42 (by omega) (by omega) (by omega) (by omega) (by omega), zp_ur (by omega)])
  · refine ⟨⟨by omega, by omega, hmd0, d0, g1, by rw [l3 32 (by omega)]; exact m37⟩, ?_, ?_, ?_⟩
    · rw [Nat.add_sub_cancel]
      exact ⟨w0.1, w1.1, w2.1, w3.1⟩
    · rw [l3 45 (by omega)]
      exact ⟨w0.2, w1.2, w2.2, w3.2⟩
    · rw [l3 46 (by omega)]
      exact g6
  · rw [c17]
    exact b5
  · intro ux uy hx1 hy1 hu
    have e19 : C3 19 = B 19 := k2 19 (by omega) (by omega) (by omega) (by omega) (by omega)
    have e44 : D3 44 = Gm 44 := by rw [k3 44 (by omega) (by omega) (by omega) (by omega) (by omega), zp_ur (by omega)]
    by_cases c : zt_in bx by_ b ux uy
    · exact ⟨n, by omega, by rw [e19]; exact b2 ux uy c, l2 ux uy c⟩
    · have hu' : zt_z ux uy < zt_z bx by_ := hu.elim id (fun z => absurd z c)
      obtain ⟨o, o1, o2, o3⟩ := hO.1 ux uy hx1 hy1 hu'
      have nn : ∀ ux' uy', zt_in bx by_ b ux' uy' → 4 * uy + ux ≠ 4 * uy' + ux' := fun ux' uy' h1 h2 => by
        apply c
        have h3 : ux = ux' ∧ uy = uy' := by
          obtain ⟨h4, h5, h6, h7⟩ := h1
          omega
        rw [h3.1, h3.2]
        exact h1
      exact ⟨o, by omega, by rw [e19, b4 _ nn]; exact o2, by rw [l4 _ nn, e44]; exact o3⟩
  · intro o ho v hv
    rw [l3 45 (by omega)]
    by_cases c : o = n
    · subst c
      rw [(k7 v (by omega)).1, (k7 v (by omega)).2]
    · rw [k5 _ (by omega), k6 _ (by omega), b3 20 (by omega) (by omega), zp_ur (by omega)]
      exact hO.2 o (by omega) v hv
