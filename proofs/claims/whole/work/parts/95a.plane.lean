/-! the units of a block: the planes -/
set_option maxRecDepth 100000 in
theorem zt_plane {fr to s q t y w h m bx by_ b p ty md mb : Nat} {Gc0 Gm0 : zx_G} {K : Int32 → Int32 → Int32 → Int32 → zx_G → Option (Int32 × zx_G)} (hb : b = 1 ∨ b = 2 ∨ b = 4) (hbx : bx ≤ 3) (hby : by_ ≤ 3) (hg : zt_geo m bx by_ b) (hH : zt_Hd q t y w h Gc0 Gm0) (hB : zt_Bk mb p ty md Gm0) (h6 : md = 6 → 1 ≤ p ∧ Gm0 46 (p - 1) = Gc0 22 p) (hp : p < 1 + 2 * y) :
    ∀ (rem r n1 n2 bt : Nat) (Gc Gm : zx_G), r + rem = b → rem < n1 → b * b - r * b < n2 → bt + 26000 * rem + 10000 < 2 ^ 26 → zt_X fr to s t (1 + 2 * y) w h m bx by_ b p r 0 bt Gc0 Gm0 Gc Gm →
    ∃ (Gc' Gm' : zx_G) (bt' : Nat), bt' ≤ bt + 26000 * rem ∧ f_M_readBlock_316 K n2 (nI (4 * bx)) (nI (4 * by_)) (nI (4 * b)) (nI p) (nI (r * b)) Gm = K (nI (4 * bx)) (nI (4 * by_)) (nI (4 * b)) (nI (p + 1)) Gm' ∧ ((f_T_readUnits_47 n1 (nI p) (nI (4 * bx)) (nI (4 * by_)) (nI (4 * b)) (nI md) (nI ty) (nI (4 * (by_ + r))) Gc = some (1, Gc') ∧ zt_X fr to s t (1 + 2 * y) w h m bx by_ b (p + 1) 0 0 bt' Gc0 Gm0 Gc' Gm') ∨
      (f_T_readUnits_47 n1 (nI p) (nI (4 * bx)) (nI (4 * by_)) (nI (4 * b)) (nI md) (nI ty) (nI (4 * (by_ + r))) Gc = some (0, Gc') ∧ zt_f Gm0 Gm')) := by
  obtain ⟨⟨hq, ht, hy1, hw1, hw2, hh1, hh2⟩, -⟩ := id hH
  intro rem
  induction rem with
  | zero =>
    intro r n1 n2 bt Gc Gm hr hn1 hn2 hbt hX
    obtain ⟨n1, rfl⟩ : ∃ k, n1 = k + 1 := ⟨n1 - 1, by omega⟩
    have : r = b := by omega
    subst this
    obtain ⟨n2, rfl⟩ : ∃ k, n2 = k + 1 := ⟨n2 - 1, by omega⟩
    refine ⟨Gc, Gm, bt, by omega, zt_316e hb K n2 bx by_ p Gm, Or.inl ⟨?_, hX.mono (fun ux uy k h1 h2 h3 h4 => by obtain ⟨h5, h6, h7, h8⟩ := h3; omega)⟩⟩
    rw [f_T_readUnits_47, zp_pos (by rw [nI_add]; exact nI_le (by omega) (by omega))]
    rfl
  | succ rem ih =>
    intro r n1 n2 bt Gc Gm hr hn1 hn2 hbt hX
    obtain ⟨n1, rfl⟩ : ∃ k, n1 = k + 1 := ⟨n1 - 1, by omega⟩
    obtain ⟨i1, i2, i3⟩ := zt_ix2 hb (show r < b by omega)
    obtain ⟨x1, x2, x3, x4⟩ := id hX
    have hH1 := x4.H hH
    obtain ⟨-, ⟨e10, e6, e7, e8, e4⟩, ⟨m16, m17, m18, m19, m21⟩, -⟩ := id hH1
    rw [f_T_readUnits_47, zp_neg (by rw [nI_add]; exact nI_ge (by omega) (by omega)), e8]
    by_cases ch : h ≤ 4 * (by_ + r)
    · refine ⟨Gc, Gm, bt, by omega, ?_, Or.inl ⟨by rw [zp_pos (nI_le ch (by omega))]; rfl, hX.mono (fun ux uy k h1 h2 h3 h4 => by obtain ⟨h5, h6, h7, h8⟩ := h3; omega)⟩⟩
      rw [zt_skip hb (Nat.le_refl _) K bx by_ p Gm (b * b - r * b) (r * b) n2 (by omega) (by omega) (fun j h1 h2 => ?_)]
      · obtain ⟨n3, h3⟩ : ∃ k, n2 - (b * b - r * b) = k + 1 := ⟨n2 - (b * b - r * b) - 1, by omega⟩
        rw [h3, zt_316e hb]
      · have hd : r ≤ j / b := by rw [Nat.le_div_iff_mul_le (by omega)]; exact h1
        exact zt_out m18 m19 hw2 hh2 (by have := Nat.mod_lt j (show b > 0 by omega); omega) (by have : j / b ≤ j := Nat.div_le_self j b; omega) (Or.inr (Or.inl (by omega)))
    · rw [zp_neg (nI_ge (by omega) (by omega)), zp_lt]
      obtain ⟨G1, M1, bt1, n3, u1, u2⟩ := zt_row (k47 := f_T_readUnits_47 n1) (K := K) hb hbx hby hg hH hB h6 hp (show r < b by omega) (by omega) b 0 2048 n2 bt Gc Gm (by omega) (by omega) (by omega) (by omega) hX
      rcases u2 with ⟨u2, u3, u4, u5⟩ | ⟨u2, u3, u4⟩
      · obtain ⟨G2, M2, bt2, v1, v2, v3⟩ := ih (r + 1) n1 n3 bt1 G1 M1 (by omega) (by omega) u4 (by omega) u5
        refine ⟨G2, M2, bt2, by omega, ?_, ?_⟩
        · rw [show r * b = r * b + 0 from rfl, u3]
          exact v2
        · have eq : f_T_readUnits_71 (f_T_readUnits_47 n1) 2048 (nI p) (nI (4 * bx)) (nI (4 * by_)) (nI (4 * b)) (nI md) (nI ty) (nI (4 * (by_ + r))) (nI (4 * bx)) Gc = f_T_readUnits_47 n1 (nI p) (nI (4 * bx)) (nI (4 * by_)) (nI (4 * b)) (nI md) (nI ty) (nI (4 * (by_ + (r + 1)))) G1 := by
            rw [Nat.add_zero] at u2
            rw [u2]
            unfold f_T_readUnits_152
            rw [zp_lt, show nI (4 * (by_ + r)) + (4 : Int32) = nI (4 * (by_ + r) + 4) from nI_add _ 4, show 4 * (by_ + r) + 4 = 4 * (by_ + (r + 1)) by omega]
          rw [eq]
          exact v3
      · exact ⟨G1, M1, bt1, by omega, u3, Or.inr ⟨u2, u4⟩⟩
/-- what a block tells, on both sides -/
def zt_Tl (b mb md0 md1 ty : Nat) (Gc Gm : zx_G) : Prop := (1 ≤ mb ∧ mb ≤ 16 ∧ md0 ≤ 5 ∧ md1 ≤ 6 ∧ ty ≤ 3 ∧ Gm 32 37 = nI mb) ∧ (Gc 20 (4 * (mb - 1)) = nI (4 * b) ∧ Gc 20 (4 * (mb - 1) + 1) = nI md0 ∧ Gc 20 (4 * (mb - 1) + 2) = nI md1 ∧ Gc 20 (4 * (mb - 1) + 3) = nI ty) ∧ (Gm 45 (4 * mb) = nI (4 * b) ∧ Gm 45 (4 * mb + 1) = nI md0 ∧ Gm 45 (4 * mb + 2) = nI md1 ∧ Gm 45 (4 * mb + 3) = nI ty) ∧ (md1 = 6 → Gm 46 0 = Gc 22 1 ∧ Gm 46 1 = Gc 22 2)
theorem zt_tellOf {o v : Nat} (ho : o < 16) (hv : v < 4) (G : zx_G) : f_P_tellOf (nI o) (nI v) G = some (G 20 (4 * o + v), G) := by
  unfold f_P_tellOf
  rw [show nI o * (4 : Int32) = nI (o * 4) from pk_mul o 4, nI_add, zp_gd (zp_in (by omega) (by omega)), zp_cl (by omega), Nat.mul_comm o 4]
theorem zt_units {fr to s q t y w h m bx by_ b p ty md0 md1 mb bt : Nat} {Gc0 Gm0 Gc Gm : zx_G} {K : Int32 → Int32 → Int32 → Int32 → zx_G → Option (Int32 × zx_G)} (hb : b = 1 ∨ b = 2 ∨ b = 4) (hbx : bx ≤ 3) (hby : by_ ≤ 3) (hg : zt_geo m bx by_ b) (hH : zt_Hd q t y w h Gc0 Gm0) (hT : zt_Tl b mb md0 md1 ty Gc0 Gm0) (hp : p < 1 + 2 * y) (hbt : bt + 200000 < 2 ^ 26) (hX : zt_X fr to s t (1 + 2 * y) w h m bx by_ b p 0 0 bt Gc0 Gm0 Gc Gm) :
    ∃ (Gc' Gm' : zx_G) (bt' : Nat), bt' ≤ bt + 104000 ∧ f_M_readBlock_316 K 2048 (nI (4 * bx)) (nI (4 * by_)) (nI (4 * b)) (nI p) (0 : Int32) Gm = K (nI (4 * bx)) (nI (4 * by_)) (nI (4 * b)) (nI (p + 1)) Gm' ∧ ((f_T_readUnits (nI p) (nI (4 * bx)) (nI (4 * by_)) (nI (mb - 1)) Gc = some (1, Gc') ∧ zt_X fr to s t (1 + 2 * y) w h m bx by_ b (p + 1) 0 0 bt' Gc0 Gm0 Gc' Gm') ∨
      (f_T_readUnits (nI p) (nI (4 * bx)) (nI (4 * by_)) (nI (mb - 1)) Gc = some (0, Gc') ∧ zt_f Gm0 Gm')) := by
  obtain ⟨⟨t1, t2, t3, t4, t5, t6⟩, ⟨s0, s1, s2, s3⟩, ⟨r0, r1, r2, r3⟩, t7⟩ := hT
  obtain ⟨⟨hq, ht, hy1, hw1, hw2, hh1, hh2⟩, -⟩ := id hH
  have hbb : b * b ≤ 16 := by rcases hb with rfl | rfl | rfl <;> omega
  have h20 : Gc 20 = Gc0 20 := hX.2.2.2.1 20 (by omega)
  obtain ⟨md, hmd, g1, g2, g3, g4⟩ : ∃ md, md ≤ 6 ∧ Gm0 45 (4 * mb + (if p = 0 then 1 else 2)) = nI md ∧ (md = 6 → 1 ≤ p ∧ Gm0 46 (p - 1) = Gc0 22 p) ∧ Gc0 20 (4 * (mb - 1) + (if p = 0 then 1 else 2)) = nI md ∧ f_T_readUnits (nI p) (nI (4 * bx)) (nI (4 * by_)) (nI (mb - 1)) Gc = f_T_readUnits_47 2048 (nI p) (nI (4 * bx)) (nI (4 * by_)) (nI (4 * b)) (nI md) (nI ty) (nI (4 * by_)) Gc := by
    have t27 : ∀ v : Nat, v = 1 ∨ v = 2 → f_T_readUnits_27 (nI p) (nI (4 * bx)) (nI (4 * by_)) (nI (mb - 1)) (nI (4 * b)) (nI (mb - 1)) (nI v) Gc = f_T_readUnits_47 2048 (nI p) (nI (4 * bx)) (nI (4 * by_)) (nI (4 * b)) (Gc0 20 (4 * (mb - 1) + v)) (nI ty) (nI (4 * by_)) Gc := by
      intro v hv
      unfold f_T_readUnits_27
      rw [zp_bd (zt_tellOf (by omega) (by omega) Gc), zp_lt, zp_bd (show f_P_tellOf (nI (mb - 1)) (3 : Int32) Gc = _ from zt_tellOf (v := 3) (by omega) (by omega) Gc), zp_lt, zp_lt, h20, s3]
    have hpre : f_T_readUnits (nI p) (nI (4 * bx)) (nI (4 * by_)) (nI (mb - 1)) Gc = zx_if (¬ nI p = 0) (f_T_readUnits_27 (nI p) (nI (4 * bx)) (nI (4 * by_)) (nI (mb - 1)) (nI (4 * b)) (nI (mb - 1)) (2 : Int32) Gc) (f_T_readUnits_27 (nI p) (nI (4 * bx)) (nI (4 * by_)) (nI (mb - 1)) (nI (4 * b)) (nI (mb - 1)) (1 : Int32) Gc) := by
      unfold f_T_readUnits
      rw [zp_bd (show f_P_tellOf (nI (mb - 1)) (0 : Int32) Gc = _ from zt_tellOf (v := 0) (by omega) (by omega) Gc), zp_lt, h20, Nat.add_zero, s0]
    by_cases c : p = 0
    · refine ⟨md0, by omega, by rw [if_pos c]; exact r1, fun z => by omega, by rw [if_pos c]; exact s1, ?_⟩
      rw [hpre, c, zp_neg (fun z => z rfl), ← c, ← s1]
      exact t27 1 (Or.inl rfl)
    · refine ⟨md1, by omega, by rw [if_neg c]; exact r2, fun z => ⟨by omega, ?_⟩, by rw [if_neg c]; exact s2, ?_⟩
      · have h12 : p = 1 ∨ p = 2 := by omega
        rcases h12 with rfl | rfl
        · exact (t7 z).1
        · exact (t7 z).2
      · rw [hpre, zp_pos (nI_ne0 (by omega) (by omega)), ← s2]
        exact t27 2 (Or.inr rfl)
  obtain ⟨G1, M1, bt1, u1, u2, u3⟩ := zt_plane (K := K) (md := md) (ty := ty) (mb := mb) hb hbx hby hg hH ⟨t2, t6, r3, g1, t5, hmd⟩ g2 hp b 0 2048 2048 bt Gc Gm (by omega) (by omega) (by omega) (by omega) hX
  refine ⟨G1, M1, bt1, by omega, ?_, ?_⟩
  · rw [Nat.zero_mul] at u2
    exact u2
  · rw [g4]
    exact u3
theorem zt_300skip {bx by_ b w h y : Nat} (hb : b = 1 ∨ b = 2 ∨ b = 4) (hbx : bx ≤ 3) (hby : by_ ≤ 3) (hw : w ≤ 16) (hh : h ≤ 16) (hy : y ≤ 1) {G : zx_G} (h16 : G 32 16 = nI y) (h18 : G 32 18 = nI w) (h19 : G 32 19 = nI h) (h10 : ¬ G 32 10 = 0) : ∀ (rem p n : Nat), p + rem = 1 + 2 * y → rem < n → f_M_readBlock_300 n (nI (4 * bx)) (nI (4 * by_)) (nI (4 * b)) (nI p) G = some (0, G) := by
  have e : (1 : Int32) + ((2 : Int32) * nI y) = nI (1 + 2 * y) := by rw [show (2 : Int32) * nI y = nI (2 * y) from pk_mul 2 y]; exact nI_add 1 _
  have hbb : b * b ≤ 16 := by rcases hb with rfl | rfl | rfl <;> omega
  intro rem
  induction rem with
  | zero =>
    intro p n hp hn
    obtain ⟨n, rfl⟩ : ∃ k, n = k + 1 := ⟨n - 1, by omega⟩
    rw [f_M_readBlock_300, h16, e, zp_pos (nI_le (by omega) (by omega))]
  | succ rem ih =>
    intro p n hp hn
    obtain ⟨n, rfl⟩ : ∃ k, n = k + 1 := ⟨n - 1, by omega⟩
    rw [f_M_readBlock_300, h16, e, zp_neg (nI_ge (by omega) (by omega)), zp_lt]
    have sk := zt_skip hb (Nat.le_refl _) (f_M_readBlock_300 n) bx by_ p G (b * b) 0 2048 (by omega) (by omega) (fun j h1 h2 => zt_out h18 h19 hw hh (by have := Nat.mod_lt j (show b > 0 by omega); omega) (by have : j / b ≤ j := Nat.div_le_self j b; omega) (Or.inr (Or.inr h10)))
    obtain ⟨n3, h3⟩ : ∃ k, 2048 - b * b = k + 1 := ⟨2048 - b * b - 1, by omega⟩
    rw [h3, zt_316e hb] at sk
    exact sk.trans (ih (p + 1) n (by omega) (by omega))
set_option maxRecDepth 100000 in
theorem zt_planes {fr to s q t y w h m bx by_ b ty md0 md1 mb : Nat} {x1 x2 : Int32} {Gc0 Gm0 : zx_G} {k46 : Int32 → Int32 → zx_G → Option (Int32 × zx_G)} (hb : b = 1 ∨ b = 2 ∨ b = 4) (hbx : bx ≤ 3) (hby : by_ ≤ 3) (hg : zt_geo m bx by_ b) (hH : zt_Hd q t y w h Gc0 Gm0) (hT : zt_Tl b mb md0 md1 ty Gc0 Gm0) :
    ∀ (rem p n1 n2 bt : Nat) (Gc Gm : zx_G), p + rem = 1 + 2 * y → rem < n1 → rem < n2 → bt + 104000 * rem + 200000 < 2 ^ 26 → zt_X fr to s t (1 + 2 * y) w h m bx by_ b p 0 0 bt Gc0 Gm0 Gc Gm →
    ∃ (Gc' Gm' : zx_G) (bt' : Nat), bt' ≤ bt + 104000 * rem ∧ f_M_readBlock_300 n2 (nI (4 * bx)) (nI (4 * by_)) (nI (4 * b)) (nI p) Gm = some (0, Gm') ∧ ((f_T_read_136 k46 n1 x1 x2 (nI (4 * bx)) (nI (4 * by_)) (nI (mb - 1)) (nI p) Gc = f_T_read_171 k46 x1 x2 Gc' ∧ zt_X fr to s t (1 + 2 * y) w h m bx by_ b (1 + 2 * y) 0 0 bt' Gc0 Gm0 Gc' Gm') ∨
      (f_T_read_136 k46 n1 x1 x2 (nI (4 * bx)) (nI (4 * by_)) (nI (mb - 1)) (nI p) Gc = some (8, Gc') ∧ zt_f Gm0 Gm')) := by
  obtain ⟨⟨hq, ht, hy1, hw1, hw2, hh1, hh2⟩, -⟩ := id hH
  have e : (1 : Int32) + ((2 : Int32) * nI y) = nI (1 + 2 * y) := by rw [show (2 : Int32) * nI y = nI (2 * y) from pk_mul 2 y]; exact nI_add 1 _
  intro rem
  induction rem with
  | zero =>
    intro p n1 n2 bt Gc Gm hp hn1 hn2 hbt hX
    obtain ⟨n1, rfl⟩ : ∃ k, n1 = k + 1 := ⟨n1 - 1, by omega⟩
    obtain ⟨n2, rfl⟩ : ∃ k, n2 = k + 1 := ⟨n2 - 1, by omega⟩
    obtain ⟨-, ⟨e10, e6, e7, e8, e4⟩, ⟨m16, m17, m18, m19, m21⟩, -⟩ := hX.2.2.2.H hH
    have : p = 1 + 2 * y := by omega
    subst this
    refine ⟨Gc, Gm, bt, by omega, ?_, Or.inl ⟨?_, hX⟩⟩
    · rw [f_M_readBlock_300, m16, e, zp_pos (nI_le (by omega) (by omega))]
    · rw [f_T_read_136, e6, zp_pos (nI_le (by omega) (by omega))]
  | succ rem ih =>
    intro p n1 n2 bt Gc Gm hp hn1 hn2 hbt hX
    obtain ⟨n1, rfl⟩ : ∃ k, n1 = k + 1 := ⟨n1 - 1, by omega⟩
    obtain ⟨n2, rfl⟩ : ∃ k, n2 = k + 1 := ⟨n2 - 1, by omega⟩
    obtain ⟨-, ⟨e10, e6, e7, e8, e4⟩, ⟨m16, m17, m18, m19, m21⟩, -⟩ := hX.2.2.2.H hH
    obtain ⟨G1, M1, bt1, u1, u2, u3⟩ := zt_units (K := f_M_readBlock_300 n2) hb hbx hby hg hH hT (by omega) (by omega) hX
    rw [f_M_readBlock_300, m16, e, zp_neg (nI_ge (by omega) (by omega)), zp_lt, u2, f_T_read_136, e6, zp_neg (nI_ge (by omega) (by omega))]
    rcases u3 with ⟨u3, u4⟩ | ⟨u3, u4⟩
    · obtain ⟨G2, M2, bt2, v1, v2, v3⟩ := ih (p + 1) n1 n2 bt1 G1 M1 (by omega) (by omega) (by omega) (by omega) u4
      refine ⟨G2, M2, bt2, by omega, v2, ?_⟩
      rw [zp_bd u3, zp_pos (by decide), zp_lt, nI_1]
      exact v3
    · have hb1 : bt1 ≤ bt + 104000 * (rem + 1) := Nat.le_trans u1 (Nat.add_le_add_left (Nat.le_mul_of_pos_right _ (Nat.succ_pos _)) _)
      obtain ⟨f1, f2, f3, f4⟩ := id u4
      have hn : ¬ M1 32 10 = 0 := by rw [f1]; decide
      obtain ⟨-, -, ⟨n16, n17, n18, n19, n21⟩, -⟩ := id hH
      refine ⟨G1, M1, bt1, hb1, zt_300skip hb hbx hby hw2 hh2 hy1 (f2.trans n16) (f3.trans n18) (f4.trans n19) hn rem (p + 1) n2 (by omega) (by omega), Or.inr ⟨?_, u4⟩⟩
      rw [zp_bd u3, zp_neg (show ¬ ¬ (0 : Int32) = 0 from fun z => z rfl)]
