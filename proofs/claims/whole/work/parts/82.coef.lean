/-! the differences: sign and place of one size -/
theorem zd_put {fr to s bt k m m0 ex q ty : Nat} {x2 x3 x4 x5 y1 y2 : Int32} {kC : Int32 → Int32 → Int32 → Int32 → Int32 → zx_G → Option (Int32 × zx_G)} {kM : Int32 → Int32 → Int32 → zx_G → Option (Int32 × zx_G)} {Gc Gm : zx_G} (hR : zk_R fr to s bt Gc Gm) (hE : zd_eq Gc Gm) (hM : zd_M q ty Gm) (hk : k < 16) (hm : m = m0 + ex) (hm2 : m < 2 ^ 20) (hb : bt + 14 < 2 ^ 27) :
    ∃ (Gc' Gm' : zx_G) (bt' : Nat), f_D_read_148 kC x2 x3 x4 x5 (nI k) (nI m) Gc = kC x2 x3 x4 x5 (nI k + (-1)) Gc' ∧ f_M_differences_134 kM y1 y2 (nI k) (nI m0) (nI ex) Gm = kM y1 y2 (nI k + (-1)) Gm' ∧ zk_R fr to s bt' Gc' Gm' ∧ zd_eq Gc' Gm' ∧ zd_M q ty Gm' ∧ bt' ≤ bt + 14 ∧ Gm' 32 10 = Gm 32 10 := by
  obtain ⟨j, hj, ej⟩ := zx_tab1_in k hk
  have e51 : Gm 51 k = nI j := by rw [hM.2.2.1 k hk, ej]
  have c194 : ∀ (v : Int32) (G : zx_G), f_D_read_194 kC x2 x3 x4 x5 (nI k) (zx_tab1 (Int32.toNatClampNeg (nI k))) v G = kC x2 x3 x4 x5 (nI k + (-1)) (zx_up G 24 j v) := by
    intro v G
    unfold f_D_read_194
    rw [zp_cl (by omega), ej, zp_gd (zp_in hj (by omega)), zp_lt, zp_lt, zp_cl (by omega)]
  have m168 : ∀ (v : Int32) (G : zx_G), f_M_differences_168 kM y1 y2 (nI k) (nI j) v G = kM y1 y2 (nI k + (-1)) (zx_up G 47 j v) := by
    intro v G
    unfold f_M_differences_168
    rw [zp_gd (zp_in hj (by omega)), zp_lt, zp_lt, zp_cl (by omega)]
  have keepR : ∀ (bt : Nat) (A B : zx_G) (v : Int32), zk_R fr to s bt A B → zk_R fr to s bt (zx_up A 24 j v) (zx_up B 47 j v) := by
    intro bt A B v h
    exact h.keep (by rw [zp_ur (by omega)]) (by rw [zp_ur (by omega)]) (by rw [zp_ur (by omega)]) (by rw [zp_ur (by omega)]) (by rw [zp_ur (by omega)]) (by rw [zp_ur (by omega)]) (by rw [zp_ur (by omega)]) (by rw [zp_ur (by omega)])
  have keepM : ∀ (B : zx_G) (v : Int32), zd_M q ty B → zd_M q ty (zx_up B 47 j v) := by
    intro B v h
    exact h.keep (by rw [zp_ur (by omega)]) (by rw [zp_ur (by omega)]) (by rw [zp_ur (by omega)]) (by rw [zp_ur (by omega)]) (by rw [zp_ur (by omega)])
  have hsum : nI m0 + nI ex = nI m := by rw [nI_add, hm]
  by_cases c0 : m = 0
  · refine ⟨zx_up Gc 24 j (nI m), zx_up Gm 47 j (nI m), bt, ?_, ?_, keepR _ _ _ _ hR, hE.put j (nI m), keepM _ _ hM, by omega, by rw [zp_ur (by omega)]⟩
    · unfold f_D_read_148 f_D_read_168 f_D_read_169
      rw [zp_pos (by rw [c0]; rfl), zp_lt, zp_gd (zp_in hk (by omega)), zp_pos rfl, c194]
    · unfold f_M_differences_134 f_M_differences_166
      rw [zp_lt, hsum, zp_gd (zp_in hk (by omega)), zp_pos (by rw [c0]; rfl), zp_cl (by omega), e51, m168]
  · obtain ⟨G1, G2, bt', b, hb1, a1, a2, a3, a4⟩ := zk_bit hR hb
    have wc := w_C_readBit _ a1
    have wm := w_M_bit _ a2
    have vm := v_M_bit _ a2
    have hE' : zd_eq G1 G2 := fun i hi => by rw [wc 24 (by decide), wm 47 (by decide)]; exact hE i hi
    have hM' : zd_M q ty G2 := hM.keep (vm 32 21 (by decide) (by decide)) (wm 52 (by decide)) (wm 51 (by decide)) (vm 32 37 (by decide) (by decide)) (wm 45 (by decide))
    have h10 : G2 32 10 = Gm 32 10 := vm 32 10 (by decide) (by decide)
    have hb2 : b = 0 ∨ b = 1 := by omega
    rcases hb2 with rfl | rfl
    · refine ⟨zx_up G1 24 j (nI m), zx_up G2 47 j (nI m), bt', ?_, ?_, keepR _ _ _ _ a3, hE'.put j (nI m), keepM _ _ hM', a4, by rw [zp_ur (by omega)]; exact h10⟩
      · unfold f_D_read_148 f_D_read_168 f_D_read_169
        rw [zp_neg (nI_ne0 (by omega) (by omega)), zp_bd a1, zp_pos (by decide), zp_lt, zp_gd (zp_in hk (by omega)), zp_pos rfl, c194]
      · unfold f_M_differences_134 f_M_differences_166
        rw [zp_lt, hsum, zp_gd (zp_in hk (by omega)), zp_neg (nI_ne0 (by omega) (by omega)), zp_cl (by omega), e51, zp_bd a2, zp_pos (by decide), m168]
    · refine ⟨zx_up G1 24 j (-(nI m)), zx_up G2 47 j (-(nI m)), bt', ?_, ?_, keepR _ _ _ _ a3, hE'.put j (-(nI m)), keepM _ _ hM', a4, by rw [zp_ur (by omega)]; exact h10⟩
      · unfold f_D_read_148 f_D_read_168 f_D_read_169
        rw [zp_neg (nI_ne0 (by omega) (by omega)), zp_bd a1, zp_neg (fun z => z rfl), zp_lt, zp_gd (zp_in hk (by omega)), zp_neg (by decide), c194]
      · unfold f_M_differences_134 f_M_differences_166
        rw [zp_lt, hsum, zp_gd (zp_in hk (by omega)), zp_neg (nI_ne0 (by omega) (by omega)), zp_cl (by omega), e51, zp_bd a2, zp_neg (fun z => z rfl), m168]
