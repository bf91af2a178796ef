/-! the units: a unit's count -/
theorem zu_bits : ∀ b, b < 256 → (nI b &&& (2 : Int32)) = 0 ∨ ((nI b - (2 : Int32)) &&& (2 : Int32)) = 0 ∧ (nI b - (2 : Int32)) >>> ((3 : Int32) &&& 31) = nI b >>> ((3 : Int32) &&& 31) := by decide +kernel
/-- dead units: nothing more is done -/
theorem zu_dead6 {n : Nat} {x1 x2 x3 : Int32} {G : zx_G} (h : ¬ G 32 10 = 0) : f_M_units_6 (n + 1) x1 x2 x3 G = some (0, G) := by
  rw [f_M_units_6]
  by_cases c : x3 = 0
  · rw [zp_pos c]; rfl
  · rw [zp_neg c, zp_pos h]; rfl
theorem zu_dead221 {n : Nat} {x1 x2 x3 x4 x5 : Int32} {G : zx_G} (h : ¬ G 32 10 = 0) : f_M_units_221 (f_M_units_6 (n + 1)) x1 x2 x3 x4 x5 G = some (0, G) := by
  unfold f_M_units_221 f_M_units_329
  rw [zp_pos h]
  exact zu_dead6 h
theorem zu_dead204 {n : Nat} {x1 x2 x3 x4 x5 : Int32} {G : zx_G} (h : ¬ G 32 10 = 0) : ∃ G', f_M_units_204 (f_M_units_6 (n + 1)) x1 x2 x3 x4 x5 G = some (0, G') ∧ G' 32 10 = G 32 10 := by
  unfold f_M_units_204
  by_cases c : x5 ≤ (G 32 8) - x1
  · exact ⟨G, by rw [zp_pos c]; exact zu_dead221 h, rfl⟩
  · refine ⟨zx_up G 32 10 (G 32 10), ?_, zp_us⟩
    rw [zp_neg c, zp_bd (zb_fail2 h 7)]
    exact zu_dead221 (by rw [zp_us]; exact h)
theorem zu_dead82 {n m : Nat} {x1 x2 x3 x4 x5 x6 : Int32} {G : zx_G} (h : ¬ G 32 10 = 0) : ∃ G', f_M_units_82 (f_M_units_6 (n + 1)) (m + 1) x1 x2 x3 x4 x5 x6 G = some (0, G') ∧ G' 32 10 = G 32 10 := by
  obtain ⟨G', a1, a2⟩ := zu_dead204 (n := n) (x1 := x1) (x2 := x2) (x3 := x3) (x4 := x4) (x5 := x5) h
  refine ⟨G', ?_, a2⟩
  rw [f_M_units_82, a1]
  by_cases c1 : (3 : Int32) ≤ x6
  · rw [zp_pos c1]
  · rw [zp_neg c1]
    by_cases c2 : (x4 &&& (2 : Int32)) = 0
    · rw [zp_pos c2]
    · rw [zp_neg c2, zp_pos h]
theorem zu_dead68 {n : Nat} {x1 x2 x3 x4 : Int32} {G : zx_G} (h : ¬ G 32 10 = 0) : ∃ G', f_M_units_68 (f_M_units_6 (n + 1)) x1 x2 x3 x4 G = some (0, G') ∧ G' 32 10 = G 32 10 := by
  unfold f_M_units_68
  rw [zp_lt, zp_lt, zp_lt]
  exact zu_dead82 (m := 2047) h
/-- the class's cursor over the data, and the reference's length -/
def zu_U (at_ dl : Nat) (Gc Gm : zx_G) : Prop := at_ ≤ dl ∧ dl ≤ 200 ∧ Gc 12 1 = nI at_ ∧ Gc 12 2 = nI dl ∧ Gm 32 8 = nI dl ∧ ∀ k, k < dl → Gc 9 k = Gm 39 k ∧ ∃ b, b < 256 ∧ Gm 39 k = nI b
theorem zu_next {at_ dl : Nat} {Gc Gm : zx_G} (h : zu_U at_ dl Gc Gm) : (at_ < dl ∧ ∃ b, b < 256 ∧ Gm 39 at_ = nI b ∧ f_U_nextByte_12 Gc = some (nI b, zx_up Gc 12 1 (nI (at_ + 1)))) ∨ (at_ = dl ∧ f_U_nextByte_12 Gc = some (-1, Gc)) := by
  obtain ⟨h1, h2, h3, h4, h5, h6⟩ := h
  by_cases c : at_ < dl
  · left
    obtain ⟨e, b, b1, b2⟩ := h6 at_ c
    refine ⟨c, b, b1, b2, ?_⟩
    unfold f_U_nextByte_12
    rw [h3, h4, zp_pos (nI_lt c (by omega)), zp_gd (zp_in (by omega) (by omega)), zp_cl (by omega), zp_lt, zp_lt, nI_1, e, b2]
  · right
    refine ⟨by omega, ?_⟩
    unfold f_U_nextByte_12
    rw [h3, h4, zp_neg (nI_nlt (by omega) (by omega))]
theorem zu_U.step {at_ dl : Nat} {Gc Gm : zx_G} (h : zu_U at_ dl Gc Gm) (hl : at_ < dl) : zu_U (at_ + 1) dl (zx_up Gc 12 1 (nI (at_ + 1))) Gm := by
  obtain ⟨h1, h2, h3, h4, h5, h6⟩ := h
  exact ⟨by omega, h2, zp_us, by rw [zp_uk (by omega)]; exact h4, h5, by rw [zp_ur (by omega)]; exact h6⟩
/-- one byte of the reference's count -/
theorem zu_82 {at_ dl j b acc n m : Nat} {x2 x3 x4 : Int32} {Gc Gm : zx_G} (hU : zu_U at_ dl Gc Gm) (h0 : Gm 32 10 = 0) (hl : at_ < dl) (hb : b < 256) (hd : Gm 39 at_ = nI b) (hj : j < 3) (h2 : ¬ (x4 &&& (2 : Int32)) = 0) (hjb : j < 2 ∨ b < 128) (hacc : acc < 2 ^ 14) (hj0 : j = 0 → acc = 0) :
    f_M_units_82 (f_M_units_6 (n + 1)) (m + 1) (nI at_) x2 x3 x4 (nI acc) (nI j) Gm = f_M_units_82 (f_M_units_6 (n + 1)) m (nI (at_ + 1)) x2 x3 (if b < 128 then x4 - (2 : Int32) else x4) (nI (acc + b % 128 * 2 ^ (7 * j))) (nI (j + 1)) Gm := by
  obtain ⟨u1, u2, u3, u4, u5, u6⟩ := hU
  have e127 : nI b &&& (127 : Int32) = nI (b % 128) := pk_andN (by omega) 7 rfl
  have l128 : nI b < (128 : Int32) ↔ b < 128 := zp_ltc (c := (128 : Int32)) 128 rfl (by omega) (by omega)
  have g128 : (128 : Int32) ≤ nI b ↔ 128 ≤ b := zp_cle (c := (128 : Int32)) 128 rfl (by omega) (by omega)
  have k179 : ∀ v, f_M_units_179 (f_M_units_6 (n + 1)) (f_M_units_82 (f_M_units_6 (n + 1)) m) (nI at_) x2 x3 x4 (nI j) (nI b) v Gm = f_M_units_82 (f_M_units_6 (n + 1)) m (nI (at_ + 1)) x2 x3 (if b < 128 then x4 - (2 : Int32) else x4) v (nI (j + 1)) Gm := fun v => by
    unfold f_M_units_179 f_M_units_198
    rw [zp_lt, zp_lt, nI_1]
    by_cases c : b < 128
    · rw [zp_neg (fun z => by have := g128.mp z; omega), zp_lt, zp_lt, nI_1, if_pos c]
    · rw [zp_pos (g128.mpr (by omega)), zp_lt, nI_1, if_neg c]
  have hv : zx_if (¬ nI j = 0) (f_M_units_179 (f_M_units_6 (n + 1)) (f_M_units_82 (f_M_units_6 (n + 1)) m) (nI at_) x2 x3 x4 (nI j) (nI b) (nI acc + ((nI b &&& (127 : Int32)) <<< (((7 : Int32) * nI j) &&& 31))) Gm) (f_M_units_179 (f_M_units_6 (n + 1)) (f_M_units_82 (f_M_units_6 (n + 1)) m) (nI at_) x2 x3 x4 (nI j) (nI b) (nI b &&& (127 : Int32)) Gm) = f_M_units_82 (f_M_units_6 (n + 1)) m (nI (at_ + 1)) x2 x3 (if b < 128 then x4 - (2 : Int32) else x4) (nI (acc + b % 128 * 2 ^ (7 * j))) (nI (j + 1)) Gm := by
    rw [e127]
    have hh : j = 0 ∨ j = 1 ∨ j = 2 := by omega
    rcases hh with rfl | rfl | rfl
    · rw [zp_neg (show ¬ ¬ nI 0 = 0 from fun z => z rfl), k179, hj0 rfl, show 0 + b % 128 * 2 ^ (7 * 0) = b % 128 by omega]
    · rw [zp_pos (show ¬ nI 1 = 0 by decide), show nI (b % 128) <<< (((7 : Int32) * nI 1) &&& 31) = nI (b % 128 * 2 ^ 7) from pk_shlN _ 7 (by decide) (by omega), nI_add, k179]
    · rw [zp_pos (show ¬ nI 2 = 0 by decide), show nI (b % 128) <<< (((7 : Int32) * nI 2) &&& 31) = nI (b % 128 * 2 ^ 14) from pk_shlN _ 14 (by decide) (by omega), nI_add, k179]
  rw [f_M_units_82, zp_neg (show ¬ (3 : Int32) ≤ nI j from nI_ge (b := 3) hj (by omega)), zp_neg h2, zp_neg (show ¬ ¬ Gm 32 10 = 0 from fun z => z h0), u5, zp_neg (nI_ge hl (by omega)), zp_gd (zp_in (by omega) (by omega)), zp_cl (by omega), hd]
  unfold f_M_units_122 f_M_units_152
  rw [zp_lt, u5, zp_neg (nI_ge hl (by omega)), hv]
  by_cases c2 : j = 2
  · rw [c2, zp_neg (show ¬ ¬ nI 2 = (2 : Int32) from fun z => z rfl), zp_pos (l128.mpr (by omega))]
  · rw [zp_pos (show ¬ nI j = (2 : Int32) from fun z => c2 ((zp_eqc (c := (2 : Int32)) 2 rfl (by omega) (by omega)).mp z))]
/-- a count that is cut short, or too long -/
theorem zu_82f {at_ dl j acc n m : Nat} {x2 x3 x4 : Int32} {Gc Gm : zx_G} (hU : zu_U at_ dl Gc Gm) (h0 : Gm 32 10 = 0) (hj : j < 3) (h2 : ¬ (x4 &&& (2 : Int32)) = 0) (hc : at_ = dl ∨ (j = 2 ∧ at_ < dl ∧ ∃ b, b < 256 ∧ 128 ≤ b ∧ Gm 39 at_ = nI b)) :
    ∃ Gm', f_M_units_82 (f_M_units_6 (n + 1)) (m + 2) (nI at_) x2 x3 x4 (nI acc) (nI j) Gm = some (0, Gm') ∧ Gm' 32 10 = 7 := by
  obtain ⟨u1, u2, u3, u4, u5, u6⟩ := hU
  have dd : ¬ zx_up Gm 32 10 (7 : Int32) 32 10 = 0 := by rw [zp_us]; decide
  have k146 : ∀ x7, ∃ Gm', f_M_units_146 (f_M_units_6 (n + 1)) (f_M_units_82 (f_M_units_6 (n + 1)) (m + 1)) (nI at_) x2 x3 x4 (nI acc) (nI j) x7 Gm = some (0, Gm') ∧ Gm' 32 10 = 7 := by
    intro x7
    have k179 : ∀ v, ∃ Gm', f_M_units_179 (f_M_units_6 (n + 1)) (f_M_units_82 (f_M_units_6 (n + 1)) (m + 1)) (nI at_) x2 x3 x4 (nI j) x7 v (zx_up Gm 32 10 (7 : Int32)) = some (0, Gm') ∧ Gm' 32 10 = 7 := fun v => by
      unfold f_M_units_179 f_M_units_198
      rw [zp_lt, zp_lt]
      by_cases c : (128 : Int32) ≤ x7
      · obtain ⟨G', a1, a2⟩ := zu_dead82 (n := n) (m := m) (x1 := nI at_ + (1 : Int32)) (x2 := x2) (x3 := x3) (x4 := x4) (x5 := v) (x6 := nI j + (1 : Int32)) dd
        exact ⟨G', by rw [zp_pos c, zp_lt]; exact a1, a2.trans zp_us⟩
      · obtain ⟨G', a1, a2⟩ := zu_dead82 (n := n) (m := m) (x1 := nI at_ + (1 : Int32)) (x2 := x2) (x3 := x3) (x4 := x4 - (2 : Int32)) (x5 := v) (x6 := nI j + (1 : Int32)) dd
        exact ⟨G', by rw [zp_neg c, zp_lt, zp_lt]; exact a1, a2.trans zp_us⟩
    unfold f_M_units_146 f_M_units_152
    rw [zp_bd (zb_fail1 h0 7)]
    by_cases c : nI j = 0
    · rw [zp_neg (fun z => z c)]; exact k179 _
    · rw [zp_pos c]; exact k179 _
  rw [f_M_units_82, zp_neg (show ¬ (3 : Int32) ≤ nI j from nI_ge (b := 3) hj (by omega)), zp_neg h2, zp_neg (show ¬ ¬ Gm 32 10 = 0 from fun z => z h0), u5]
  rcases hc with hc | ⟨rfl, hl, b, b1, b2, b3⟩
  · rw [zp_pos (nI_le (by omega) (by omega))]
    unfold f_M_units_122
    rw [zp_lt, u5, zp_pos (nI_le (by omega) (by omega))]
    exact k146 _
  · rw [zp_neg (nI_ge hl (by omega)), zp_gd (zp_in (by omega) (by omega)), zp_cl (by omega), b3]
    unfold f_M_units_122
    rw [zp_lt, u5, zp_neg (nI_ge hl (by omega)), zp_neg (show ¬ ¬ nI 2 = (2 : Int32) from fun z => z rfl), zp_neg (show ¬ nI b < (128 : Int32) from fun z => by have := (zp_ltc (c := (128 : Int32)) 128 rfl (by omega) (by omega)).mp z; omega)]
    exact k146 _
theorem zu_count {dl n : Nat} {x2 x3 x4 : Int32} (h2 : ¬ (x4 &&& (2 : Int32)) = 0) (h4 : ((x4 - (2 : Int32)) &&& (2 : Int32)) = 0) : ∀ (rem j at_ acc n1 m : Nat) (Gc Gm : zx_G), j + rem = 3 → rem < n1 → rem + 1 < m → acc < 2 ^ (7 * j) → zu_U at_ dl Gc Gm → Gm 32 10 = 0 →
    ∃ Gc', (∀ q, q ≠ 12 → Gc' q = Gc q) ∧ ((∃ c at', c < 2 ^ 21 ∧ at_ ≤ at' ∧ f_H_readCount_4 n1 (nI acc) (nI (7 * j)) Gc = some (nI c, Gc') ∧ f_M_units_82 (f_M_units_6 (n + 1)) m (nI at_) x2 x3 x4 (nI acc) (nI j) Gm = f_M_units_204 (f_M_units_6 (n + 1)) (nI at') x2 x3 (x4 - (2 : Int32)) (nI c) Gm ∧ zu_U at' dl Gc' Gm) ∨ (f_H_readCount_4 n1 (nI acc) (nI (7 * j)) Gc = some (-1, Gc') ∧ (j < 3 → ∃ Gm', f_M_units_82 (f_M_units_6 (n + 1)) m (nI at_) x2 x3 x4 (nI acc) (nI j) Gm = some (0, Gm') ∧ Gm' 32 10 = 7))) := by
  intro rem
  induction rem with
  | zero =>
    intro j at_ acc n1 m Gc Gm hj hn1 hm hacc hU h0
    obtain ⟨n1, rfl⟩ : ∃ k, n1 = k + 1 := ⟨n1 - 1, by omega⟩
    have : j = 3 := by omega
    subst this
    exact ⟨Gc, fun _ _ => rfl, Or.inr ⟨by rw [f_H_readCount_4, zp_pos (by decide)], fun z => by omega⟩⟩
  | succ rem ih =>
    intro j at_ acc n1 m Gc Gm hj hn1 hm hacc hU h0
    obtain ⟨n1, rfl⟩ : ∃ k, n1 = k + 1 := ⟨n1 - 1, by omega⟩
    obtain ⟨m, rfl⟩ : ∃ k, m = k + 2 := ⟨m - 2, by omega⟩
    have hacc14 : acc < 2 ^ 14 := Nat.lt_of_lt_of_le hacc (Nat.pow_le_pow_right (by omega) (by omega))
    have n21 : ¬ (21 : Int32) ≤ nI (7 * j) := nI_ge (b := 21) (by omega) (by omega)
    rcases zu_next hU with ⟨t1, b, b1, b2, b3⟩ | ⟨t1, b3⟩
    · have hU1 := hU.step t1
      have g128 : (128 : Int32) ≤ nI b ↔ 128 ≤ b := zp_cle (c := (128 : Int32)) 128 rfl (by omega) (by omega)
      have e127 : nI b &&& (127 : Int32) = nI (b % 128) := pk_andN (by omega) 7 rfl
      have esh : (nI (b % 128)) <<< (nI (7 * j) &&& 31) = nI (b % 128 * 2 ^ (7 * j)) := by
        have hh : j = 0 ∨ j = 1 ∨ j = 2 := by omega
        rcases hh with rfl | rfl | rfl
        · exact pk_shlN _ 0 (by decide) (by omega)
        · exact pk_shlN _ 7 (by decide) (by omega)
        · exact pk_shlN _ 14 (by decide) (by omega)
      have pC : f_H_readCount_4 (n1 + 1) (nI acc) (nI (7 * j)) Gc = zx_if ((128 : Int32) ≤ nI b) (f_H_readCount_4 n1 (nI (acc + b % 128 * 2 ^ (7 * j))) (nI (7 * (j + 1))) (zx_up Gc 12 1 (nI (at_ + 1)))) (some (nI (acc + b % 128 * 2 ^ (7 * j)), zx_up Gc 12 1 (nI (at_ + 1)))) := by
        rw [f_H_readCount_4, zp_neg n21, zp_bd b3, zp_lt, zp_pos (nI_pos' (by omega)), e127, esh, nI_add, zp_lt, zp_lt, show nI (7 * j) + (7 : Int32) = nI (7 * j + 7) from nI_add _ 7, show 7 * j + 7 = 7 * (j + 1) by omega]
      have hacc' : acc + b % 128 * 2 ^ (7 * j) < 2 ^ (7 * (j + 1)) := by
        have h7 : 2 ^ (7 * (j + 1)) = 2 ^ (7 * j) * 128 := by rw [show 7 * (j + 1) = 7 * j + 7 by omega, Nat.pow_add]
        have h8 : b % 128 * 2 ^ (7 * j) ≤ 127 * 2 ^ (7 * j) := Nat.mul_le_mul_right _ (by omega)
        rw [h7]
        omega
      by_cases cb : b < 128
      · refine ⟨zx_up Gc 12 1 (nI (at_ + 1)), fun q hq => zp_ur hq, Or.inl ⟨acc + b % 128 * 2 ^ (7 * j), at_ + 1, ?_, by omega, ?_, ?_, hU1⟩⟩
        · exact Nat.lt_of_lt_of_le hacc' (Nat.pow_le_pow_right (by omega) (by omega))
        · rw [pC, zp_neg (fun z => by have := g128.mp z; omega)]
        · rw [zu_82 (m := m + 1) hU h0 t1 b1 b2 (by omega) h2 (Or.inr cb) hacc14 (fun z => by subst z; omega), if_pos cb, f_M_units_82]
          by_cases c3 : (3 : Int32) ≤ nI (j + 1)
          · rw [zp_pos c3]
          · rw [zp_neg c3, zp_pos h4]
      · by_cases cj : j = 2
        · obtain ⟨Gm', a1, a2⟩ := zu_82f (n := n) (m := m) (x2 := x2) (x3 := x3) (acc := acc) hU h0 (show j < 3 by omega) h2 (Or.inr ⟨cj, t1, b, b1, by omega, b2⟩)
          obtain ⟨Gc', c1, c2⟩ := ih (j + 1) (at_ + 1) (acc + b % 128 * 2 ^ (7 * j)) n1 (m + 1) (zx_up Gc 12 1 (nI (at_ + 1))) Gm (by omega) (by omega) (by omega) hacc' hU1 h0
          refine ⟨Gc', fun q hq => (c1 q hq).trans (zp_ur hq), Or.inr ⟨?_, fun _ => ⟨Gm', a1, a2⟩⟩⟩
          rw [pC, zp_pos (g128.mpr (by omega)), cj]
          obtain ⟨n2, rfl⟩ : ∃ k, n1 = k + 1 := ⟨n1 - 1, by omega⟩
          rcases c2 with ⟨c, at', hc21, -, z, -⟩ | ⟨z, -⟩
          · rw [cj, f_H_readCount_4, zp_pos (by decide)] at z
            have := congrArg (fun o : Option (Int32 × zx_G) => (o.getD (0, Gm)).1) z
            have h9 : (-1 : Int32) = nI c := this
            exact absurd h9.symm (zb_nm1 (Nat.lt_trans hc21 (by decide)))
          · rw [cj] at z
            exact z
        · obtain ⟨Gc', c1, c2⟩ := ih (j + 1) (at_ + 1) (acc + b % 128 * 2 ^ (7 * j)) n1 (m + 1) (zx_up Gc 12 1 (nI (at_ + 1))) Gm (by omega) (by omega) (by omega) hacc' hU1 h0
          have eM := zu_82 (n := n) (m := m + 1) (x2 := x2) (x3 := x3) hU h0 t1 b1 b2 (show j < 3 by omega) h2 (Or.inl (by omega)) hacc14 (fun z => by subst z; omega)
          rw [if_neg cb] at eM
          refine ⟨Gc', fun q hq => (c1 q hq).trans (zp_ur hq), ?_⟩
          rw [pC, zp_pos (g128.mpr (by omega)), eM]
          rcases c2 with ⟨c, at', z1, z2, z3, z4, z5⟩ | ⟨z1, z2⟩
          · exact Or.inl ⟨c, at', z1, by omega, z3, z4, z5⟩
          · exact Or.inr ⟨z1, fun _ => z2 (by omega)⟩
    · obtain ⟨Gm', a1, a2⟩ := zu_82f (n := n) (m := m) (x2 := x2) (x3 := x3) (acc := acc) hU h0 (show j < 3 by omega) h2 (Or.inl t1)
      refine ⟨Gc, fun _ _ => rfl, Or.inr ⟨?_, fun _ => ⟨Gm', a1, a2⟩⟩⟩
      rw [f_H_readCount_4, zp_neg n21, zp_bd b3, zp_lt, zp_neg (by decide)]
