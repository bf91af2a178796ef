/-! the arithmetic decoder: narrowing, a bit, a symbol -/
def zk_tab (Gc Gm : zx_G) : Prop := ∀ t i, t < 19 → i < zx_cnt t → ∃ c, c ≤ 32768 ∧ Gc 15 (16 * t + i) = nI c ∧ Gm 40 (16 * t + i) = nI c ∧ (i + 1 = zx_cnt t → c = 32768)
def zk_T (s : Nat) (Gc Gm : zx_G) : Prop := s ≤ 1 ∧ Gc 14 5 = nI s ∧ Gm 32 22 = nI s ∧ zk_tab Gc Gm ∧ (s = 0 → ∀ t, t < 19 → Gc 16 t = Gm 41 t)
def zk_R (fr to s bt : Nat) (Gc Gm : zx_G) : Prop := zk_S fr to Gc Gm ∧ zk_T s Gc Gm ∧ ∃ rg vl, zk_V rg vl bt Gc Gm ∧ 16384 ≤ rg ∧ rg ≤ 32768 ∧ vl < rg
theorem zk_S.keep {fr to : Nat} {Gc Gm Gc' Gm' : zx_G} (h : zk_S fr to Gc Gm) (c3 : Gc' 14 3 = Gc 14 3) (c4 : Gc' 14 4 = Gc 14 4) (c9 : Gc' 9 = Gc 9) (m25 : Gm' 32 25 = Gm 32 25) (m26 : Gm' 32 26 = Gm 32 26) (m39 : Gm' 39 = Gm 39) : zk_S fr to Gc' Gm' := by
  obtain ⟨s1, s2, s3, s4, s5, s6, s7⟩ := h
  exact ⟨s1, s2, c3.trans s3, c4.trans s4, m25.trans s5, m26.trans s6, fun k hk => by rw [c9, m39]; exact s7 k hk⟩
theorem zk_T.keep {s : Nat} {Gc Gm Gc' Gm' : zx_G} (h : zk_T s Gc Gm) (c5 : Gc' 14 5 = Gc 14 5) (c15 : Gc' 15 = Gc 15) (c16 : Gc' 16 = Gc 16) (m22 : Gm' 32 22 = Gm 32 22) (m40 : Gm' 40 = Gm 40) (m41 : Gm' 41 = Gm 41) : zk_T s Gc' Gm' := by
  obtain ⟨s1, s2, s3, s4, s5⟩ := h
  refine ⟨s1, c5.trans s2, m22.trans s3, ?_, ?_⟩
  · unfold zk_tab; rw [c15, m40]; exact s4
  · rw [c16, m41]; exact s5
theorem zk_narrow {fr to s rg vl bt lo hi : Nat} {Gc Gm : zx_G} (hS : zk_S fr to Gc Gm) (hT : zk_T s Gc Gm) (hV : zk_V rg vl bt Gc Gm) (hrg : rg ≤ 32768) (h1 : lo ≤ vl) (h2 : vl < hi) (h3 : hi ≤ rg) (hb : bt + 14 < 2 ^ 27) :
    ∃ (Gc' Gm' : zx_G) (bt' : Nat), f_C_narrow (nI lo) (nI hi) Gc = some (0, Gc') ∧ f_M_narrow (nI lo) (nI hi) Gm = some (0, Gm') ∧ zk_R fr to s bt' Gc' Gm' ∧ bt' ≤ bt + 14 := by
  obtain ⟨v1, v2, v3, v4, v5, v6, v7⟩ := id hV
  have e1 : nI vl - nI lo = nI (vl - lo) := pk_sub h1
  have e2 : nI hi - nI lo = nI (hi - lo) := pk_sub (by omega)
  have eC : f_C_narrow (nI lo) (nI hi) Gc = f_C_narrow_29 2048 (nI 0) (zx_up (zx_up (zx_up Gc 14 9 (Gc 14 9 + (1 : Int32))) 14 7 (nI (vl - lo))) 14 6 (nI (hi - lo))) := by
    unfold f_C_narrow
    rw [zp_lt, zp_lt, zp_lt, zp_lt, zp_uk (by omega), v3, e1, e2]
    rfl
  have eM : f_M_narrow (nI lo) (nI hi) Gm = f_M_narrow_27 2048 (zx_up (zx_up (zx_up Gm 32 28 (nI (vl - lo))) 32 27 (nI (hi - lo))) 32 30 (Gm 32 30 + (1 : Int32))) := by
    unfold f_M_narrow
    rw [zp_lt, zp_lt, zp_lt, v4, e1, e2, zp_uk (by omega), zp_uk (by omega)]
  obtain ⟨Gc', Gm', rg', vl', bt', a1, a2, a3, a4, a5, a6, a7⟩ := zk_loop (fr := fr) (to := to) 14 0 2048 2048 (hi - lo) (vl - lo) bt (zx_up (zx_up (zx_up Gc 14 9 (Gc 14 9 + (1 : Int32))) 14 7 (nI (vl - lo))) 14 6 (nI (hi - lo))) (zx_up (zx_up (zx_up Gm 32 28 (nI (vl - lo))) 32 27 (nI (hi - lo))) 32 30 (Gm 32 30 + (1 : Int32)))
    (hS.keep (by simp [zp_at]) (by simp [zp_at]) (by rw [zp_ur (by omega), zp_ur (by omega), zp_ur (by omega)]) (by simp [zp_at]) (by simp [zp_at]) (by rw [zp_ur (by omega), zp_ur (by omega), zp_ur (by omega)]))
    ⟨by simp [zp_at], by simp [zp_at], by simp [zp_at], by simp [zp_at], by simp [zp_at, v5], by simp [zp_at, v6], by simp [zp_at, v7]⟩ (by omega) (by omega) (by omega) (by omega) (by omega) (by omega) (by omega) hb
  rw [← eC] at a1
  rw [← eM] at a2
  have wc := w_C_narrow _ _ _ a1
  have wm := w_M_narrow _ _ _ a2
  have vc := v_C_narrow _ _ _ a1
  have vm := v_M_narrow _ _ _ a2
  exact ⟨Gc', Gm', bt', a1, a2, ⟨hS.keep (vc 14 3 (by decide) (by decide)) (vc 14 4 (by decide) (by decide)) (wc 9 (by decide)) (vm 32 25 (by decide) (by decide)) (vm 32 26 (by decide) (by decide)) (wm 39 (by decide)), hT.keep (vc 14 5 (by decide) (by decide)) (wc 15 (by decide)) (wc 16 (by decide)) (vm 32 22 (by decide) (by decide)) (wm 40 (by decide)) (wm 41 (by decide)), rg', vl', a3, a4, a5, a6⟩, a7⟩
theorem zk_bit {fr to s bt : Nat} {Gc Gm : zx_G} (h : zk_R fr to s bt Gc Gm) (hb : bt + 14 < 2 ^ 27) : ∃ (Gc' Gm' : zx_G) (bt' k : Nat), k ≤ 1 ∧ f_C_readBit Gc = some (nI k, Gc') ∧ f_M_bit Gm = some (nI k, Gm') ∧ zk_R fr to s bt' Gc' Gm' ∧ bt' ≤ bt + 14 := by
  obtain ⟨hS, hT, rg, vl, hV, r1, r2, r3⟩ := h
  obtain ⟨v1, v2, v3, v4, v5, v6, v7⟩ := id hV
  have e1 : nI rg >>> ((1 : Int32) &&& 31) = nI (rg / 2) := pk_shrN (by omega) _ 1 (by decide)
  by_cases hh : rg / 2 ≤ vl
  · obtain ⟨Gc', Gm', bt', a1, a2, a3, a4⟩ := zk_narrow hS hT hV r2 hh r3 (Nat.le_refl rg) hb
    refine ⟨Gc', Gm', bt', 1, by omega, ?_, ?_, a3, a4⟩
    · unfold f_C_readBit
      rw [zp_lt, v1, v3, e1, zp_pos ((nI_leI (by omega) (by omega)).mpr hh), zp_bd a1]
      rfl
    · unfold f_M_bit f_M_bit_20 f_M_bit_31 f_M_bit_43 f_M_bit_55
      rw [zp_lt, v2, v4, e1, zp_neg (nI_nlt hh (by omega)), zp_lt, zp_neg (by decide), zp_neg (by decide), zp_bd a2, zp_neg (by decide)]
      rfl
  · obtain ⟨Gc', Gm', bt', a1, a2, a3, a4⟩ := zk_narrow (lo := 0) (hi := rg / 2) hS hT hV r2 (by omega) (by omega) (by omega) hb
    refine ⟨Gc', Gm', bt', 0, by omega, ?_, ?_, a3, a4⟩
    · unfold f_C_readBit
      rw [zp_lt, v1, v3, e1, zp_neg (nI_ge (by omega) (by omega)), zp_bd (show f_C_narrow (0 : Int32) (nI (rg / 2)) Gc = some (0, Gc') from a1)]
      rfl
    · unfold f_M_bit f_M_bit_20 f_M_bit_31 f_M_bit_43 f_M_bit_55
      rw [zp_lt, v2, v4, e1, zp_pos (nI_lt (by omega) (by omega)), zp_lt, zp_pos rfl, zp_pos rfl, zp_bd (show f_M_narrow (0 : Int32) (nI (rg / 2)) Gm = some (0, Gm') from a2), zp_pos rfl]
      rfl
