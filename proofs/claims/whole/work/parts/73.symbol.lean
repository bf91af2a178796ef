/-! the arithmetic decoder: a symbol, the excess -/
theorem zk_sel {fr to s rg vl bt t L : Nat} {Gc Gm : zx_G} (hS : zk_S fr to Gc Gm) (hT : zk_T s Gc Gm) (hV : zk_V rg vl bt Gc Gm) (hrg : rg ≤ 32768) (hvl : vl < rg) (ht : t < 19) (hL : L + 1 = zx_cnt t) (hb : bt + 14 < 2 ^ 27) : ∀ (rem k n1 n2 lo hi : Nat), k + rem = L → rem < n1 → rem < n2 → lo ≤ vl → ((k = 0 ∧ lo = 0) ∨ (0 < k ∧ (Gm 32 27 * Gm 40 (16 * t + k - 1)) >>> ((15 : Int32) &&& 31) = nI lo)) → hi ≤ rg → (Gm 32 27 * Gm 40 (16 * t + k)) >>> ((15 : Int32) &&& 31) = nI hi → (k = L → hi = rg) →
    ∃ (Gc' Gm' : zx_G) (bt' k' : Nat), k' ≤ L ∧ f_C_readSymbol_35 n1 (nI t) (nI (16 * t)) (nI L) (nI k) (nI lo) (nI hi) Gc = some (nI k', Gc') ∧ f_M_symbol_7 n2 (nI t) (nI (L + 1)) (nI k) Gm = some (nI k', Gm') ∧ zk_R fr to s bt' Gc' Gm' ∧ bt' ≤ bt + 14 := by
  have hcnt := (zx_cnt_tab t ht).2.2
  obtain ⟨v1, v2, v3, v4, v5, v6, v7⟩ := id hV
  have stop : ∀ (k lo hi : Nat), k ≤ L → lo ≤ vl → ((k = 0 ∧ lo = 0) ∨ (0 < k ∧ (Gm 32 27 * Gm 40 (16 * t + k - 1)) >>> ((15 : Int32) &&& 31) = nI lo)) → hi ≤ rg → (Gm 32 27 * Gm 40 (16 * t + k)) >>> ((15 : Int32) &&& 31) = nI hi → vl < hi →
      ∃ (Gc' Gm' : zx_G) (bt' : Nat), f_C_readSymbol_79 (nI t) (nI k) (nI lo) (nI hi) Gc = some (nI k, Gc') ∧ f_M_symbol_46 (nI t) (nI (L + 1)) (nI k) Gm = some (nI k, Gm') ∧ zk_R fr to s bt' Gc' Gm' ∧ bt' ≤ bt + 14 := by
    intro k lo hi hk h1 h2 h3 h4 h5
    obtain ⟨Gc', Gm', bt', a1, a2, a3, a4⟩ := zk_fin hS hT hV hrg ht hL hk h1 h5 h3 hb h4
    refine ⟨Gc', Gm', bt', a1, ?_, a3, a4⟩
    unfold f_M_symbol_46
    rcases h2 with ⟨rfl, rfl⟩ | ⟨h2, h6⟩
    · rw [zp_neg (fun q => q rfl)]
      exact a2
    · rw [zp_pos (nI_ne0 h2 (by omega)), zk_idx, show nI (16 * t + k) - (1 : Int32) = nI (16 * t + k - 1) from pk_sub (b := 1) (by omega), zp_gd (zp_in (by omega) (by omega)), zp_cl (by omega), h6]
      exact a2
  intro rem
  induction rem with
  | zero =>
    intro k n1 n2 lo hi hk h1 h2 h3 h4 h5 h6 h7
    obtain ⟨n1, rfl⟩ : ∃ k, n1 = k + 1 := ⟨n1 - 1, by omega⟩
    obtain ⟨n2, rfl⟩ : ∃ k, n2 = k + 1 := ⟨n2 - 1, by omega⟩
    obtain ⟨Gc', Gm', bt', a1, a2, a3, a4⟩ := stop k lo hi (by omega) h3 h4 h5 h6 (by have := h7 (by omega); omega)
    refine ⟨Gc', Gm', bt', k, by omega, ?_, ?_, a3, a4⟩
    · rw [f_C_readSymbol_35, zp_pos (nI_le (by omega) (by omega))]; exact a1
    · rw [f_M_symbol_7, show nI (L + 1) - (1 : Int32) = nI L from nI_pred L, zp_pos (nI_le (by omega) (by omega))]; exact a2
  | succ rem ih =>
    intro k n1 n2 lo hi hk h1 h2 h3 h4 h5 h6 h7
    obtain ⟨n1, rfl⟩ : ∃ k, n1 = k + 1 := ⟨n1 - 1, by omega⟩
    obtain ⟨n2, rfl⟩ : ∃ k, n2 = k + 1 := ⟨n2 - 1, by omega⟩
    have c0 : ¬ nI L ≤ nI k := nI_ge (by omega) (by omega)
    by_cases hc : vl < hi
    · obtain ⟨Gc', Gm', bt', a1, a2, a3, a4⟩ := stop k lo hi (by omega) h3 h4 h5 h6 hc
      refine ⟨Gc', Gm', bt', k, by omega, ?_, ?_, a3, a4⟩
      · rw [f_C_readSymbol_35, zp_neg c0, v3, zp_pos (nI_lt hc (by omega))]; exact a1
      · rw [f_M_symbol_7, show nI (L + 1) - (1 : Int32) = nI L from nI_pred L, zp_neg c0, zk_idx, zp_gd (zp_in (by omega) (by omega)), zp_cl (by omega), h6, v4, zp_pos (nI_lt hc (by omega))]; exact a2
    · obtain ⟨c, e1, e2, e3, e4⟩ := hT.2.2.2.1 t (k + 1) ht (by omega)
      have cut := zk_cut (rg := rg) (c := c) hrg e1
      obtain ⟨Gc', Gm', bt', k', a0, a1, a2, a3, a4⟩ := ih (k + 1) n1 n2 hi (rg * c / 32768) (by omega) (by omega) (by omega) (by omega) (Or.inr ⟨by omega, by rw [show 16 * t + (k + 1) - 1 = 16 * t + k by omega]; exact h6⟩) (zk_cut_le e1) (by rw [v2, e3, cut]) (fun z => by rw [e4 (by omega)]; exact Nat.mul_div_cancel _ (by omega))
      refine ⟨Gc', Gm', bt', k', a0, ?_, ?_, a3, a4⟩
      · rw [f_C_readSymbol_35, zp_neg c0, v3, zp_neg (nI_nlt (by omega) (by omega)), zp_lt, zp_lt, nI_1, nI_add, zp_gd (zp_in (by omega) (by omega)), zp_lt, zp_cl (by omega), v1, e2, cut]
        exact a1
      · rw [f_M_symbol_7, show nI (L + 1) - (1 : Int32) = nI L from nI_pred L, zp_neg c0, zk_idx, zp_gd (zp_in (by omega) (by omega)), zp_cl (by omega), h6, v4, zp_neg (nI_nlt (by omega) (by omega)), zp_lt, nI_1]
        exact a2
theorem zk_sym {fr to s bt t : Nat} {Gc Gm : zx_G} (h : zk_R fr to s bt Gc Gm) (ht : t < 19) (hb : bt + 14 < 2 ^ 27) : ∃ (Gc' Gm' : zx_G) (bt' k : Nat), k < zx_cnt t ∧ f_C_readSymbol (nI t) Gc = some (nI k, Gc') ∧ f_M_symbol (nI t) Gm = some (nI k, Gm') ∧ zk_R fr to s bt' Gc' Gm' ∧ bt' ≤ bt + 14 := by
  obtain ⟨hS, hT, rg, vl, hV, r1, r2, r3⟩ := h
  obtain ⟨tb, t2, t3⟩ := zx_cnt_tab t ht
  obtain ⟨L, hL⟩ : ∃ L, L + 1 = zx_cnt t := ⟨zx_cnt t - 1, by omega⟩
  obtain ⟨c, e1, e2, e3, e4⟩ := hT.2.2.2.1 t 0 ht (by omega)
  have cut := zk_cut (rg := rg) (c := c) r2 e1
  obtain ⟨Gc', Gm', bt', k, a0, a1, a2, a3, a4⟩ := zk_sel hS hT hV r2 r3 ht hL hb L 0 2048 2048 0 (rg * c / 32768) (by omega) (by omega) (by omega) (by omega) (Or.inl ⟨rfl, rfl⟩) (zk_cut_le e1) (by rw [hV.2.1, e3, cut]) (fun z => by rw [e4 (by omega)]; exact Nat.mul_div_cancel _ (by omega))
  refine ⟨Gc', Gm', bt', k, by omega, ?_, ?_, a3, a4⟩
  · unfold f_C_readSymbol
    rw [zp_lt, zp_gd (zp_in ht (by omega)), zp_lt, zp_lt, zp_lt, zp_cl (by omega), tb, ← hL, show nI (L + 1) - (1 : Int32) = nI L from nI_pred L, show nI t * (16 : Int32) = nI (16 * t) by rw [show (16 : Int32) = nI 16 from rfl, pk_mul, Nat.mul_comm], zp_gd (zp_in (by omega) (by omega)), zp_lt, zp_cl (by omega), hV.1, show Gc 15 (16 * t) = nI c from e2, cut]
    exact a1
  · unfold f_M_symbol
    rw [zp_bd (zm_tsize t ht Gm), zp_lt, zp_lt, tb, ← hL]
    exact a2
/-- the excess: class and reference; code: the class says -1, the reference fails -/
theorem zk_moreL {fr to s o : Nat} (ho : o ≤ 12) : ∀ (rem i n1 n2 bt : Nat) (x : Nat) (Gc Gm : zx_G), zk_R fr to s bt Gc Gm → i + rem = o → x < 2 ^ i → rem < n1 → rem < n2 → bt + 14 * rem < 2 ^ 26 →
    ∃ (Gc' Gm' : zx_G) (bt' v : Nat), v < 2 ^ 14 ∧ f_C_readExcess_33 n1 (nI o) (nI x) (nI i) Gc = some (nI v, Gc') ∧ f_M_more_39 n2 (nI o) (nI x) (nI i) Gm = some (nI v, Gm') ∧ zk_R fr to s bt' Gc' Gm' ∧ bt' ≤ bt + 14 * rem ∧ Gm' 32 10 = Gm 32 10 := by
  have pw : ∀ o, o ≤ 12 → ((1 : Int32) <<< (nI o &&& 31)) = nI (2 ^ o) := by decide
  have p1 : 0 < 2 ^ o := Nat.pos_of_ne_zero (by simp)
  have p2 : 2 ^ o ≤ 2 ^ 12 := Nat.pow_le_pow_right (by omega) ho
  intro rem
  induction rem with
  | zero =>
    intro i n1 n2 bt x Gc Gm hR hi hx h1 h2 h3
    obtain ⟨n1, rfl⟩ : ∃ k, n1 = k + 1 := ⟨n1 - 1, by omega⟩
    obtain ⟨n2, rfl⟩ : ∃ k, n2 = k + 1 := ⟨n2 - 1, by omega⟩
    have hio : i = o := by omega
    subst hio
    refine ⟨Gc, Gm, bt, 2 ^ i - 1 + x, by omega, ?_, ?_, hR, by omega, rfl⟩
    · rw [f_C_readExcess_33, zp_pos (nI_le (Nat.le_refl _) (by omega)), pw i ho, show nI (2 ^ i) - (1 : Int32) = nI (2 ^ i - 1) from pk_sub (b := 1) p1, nI_add]
    · rw [f_M_more_39, zp_pos (nI_le (Nat.le_refl _) (by omega)), pw i ho, show nI (2 ^ i) - (1 : Int32) = nI (2 ^ i - 1) from pk_sub (b := 1) p1, nI_add]
  | succ rem ih =>
    intro i n1 n2 bt x Gc Gm hR hi hx h1 h2 h3
    obtain ⟨n1, rfl⟩ : ∃ k, n1 = k + 1 := ⟨n1 - 1, by omega⟩
    obtain ⟨n2, rfl⟩ : ∃ k, n2 = k + 1 := ⟨n2 - 1, by omega⟩
    obtain ⟨G1, G2, bt1, k, hk, a1, a2, a3, a4⟩ := zk_bit hR (by omega)
    obtain ⟨Gc', Gm', bt', v, b0, b1, b2, b3, b4, b5⟩ := ih (i + 1) n1 n2 bt1 (2 * x + k) G1 G2 a3 (by omega) (by rw [Nat.pow_succ]; omega) (by omega) (by omega) (by omega)
    refine ⟨Gc', Gm', bt', v, b0, ?_, ?_, b3, by omega, b5.trans (v_M_bit _ a2 32 10 (by decide) (by decide))⟩
    · rw [f_C_readExcess_33, zp_neg (nI_ge (by omega) (by omega)), zp_bd a1, zp_lt, zp_lt, zk_dbl, nI_add, nI_1]; exact b1
    · rw [f_M_more_39, zp_neg (nI_ge (by omega) (by omega)), zp_bd a2, zp_lt, zp_lt, zk_dbl, nI_add, nI_1]; exact b2
