/-! brand, property, the cursor over the file -/
theorem zb_brand {L n : Nat} {Gc Gm : zx_G} (hF : zb_F L Gc Gm) (hR : zb_R L n Gc Gm) (h0 : Gm 32 10 = 0) : (f_B_isBranded Gc = some (1, Gc) ∧ f_M_brand Gm = some (0, Gm)) ∨ (f_B_isBranded Gc = some (0, Gc) ∧ f_M_brand Gm = some (0, zx_up Gm 32 10 (2 : Int32))) := by
  obtain ⟨f0, f1, f2, f3⟩ := id hF
  obtain ⟨r0, r1, r2, r3⟩ := id hR
  have k90 : f_M_brand_90 Gm = some (0, zx_up Gm 32 10 (2 : Int32)) := by
    unfold f_M_brand_90 f_M_brand_95
    rw [zp_bd (zb_fail1 h0 2)]
  by_cases c0 : n = 0
  · right
    refine ⟨?_, ?_⟩
    · unfold f_B_isBranded
      rw [r1, c0, zp_pos (show nI 0 = 0 from rfl)]; rfl
    · unfold f_M_brand f_M_brand_22
      rw [zp_lt, r2, c0, zp_pos (show nI 0 ≤ 0 by decide), zp_lt, f1]
      show f_M_brand_23 (2047 + 1) _ _ _ = _
      rw [f_M_brand_23, f1, zp_pos (nI_le (Nat.le_refl _) (by omega))]
      unfold f_M_brand_68
      rw [r2, c0, zp_pos (show nI 0 = 0 from rfl), k90]
  · obtain ⟨ty, f, e, l, t1, t2, t3, t4, t5, t6, g3, g36, g4, g34, g5, g35, g7, g38, -, -⟩ := r3 0 (by omega)
    have i0 : zx_in (0 : Int32) 16 = true := by decide
    have cl0 : (0 : Int32).toNatClampNeg = 0 := by decide
    -- the reference, once found
    have refF : ∀ (rem x n1 : Nat), x + rem = e → rem < n1 → f_M_brand_23 n1 (1 : Int32) (nI x) Gm = f_M_brand_68 (1 : Int32) Gm := by
      intro rem
      induction rem with
      | zero =>
        intro x n1 hx hn
        obtain ⟨n1, rfl⟩ : ∃ k, n1 = k + 1 := ⟨n1 - 1, by omega⟩
        rw [f_M_brand_23, f1]
        by_cases c : L ≤ x
        · rw [zp_pos (nI_le c (by omega))]
        · rw [zp_neg (nI_ge (by omega) (by omega)), zp_gd i0, cl0, g35, zp_pos (nI_le (by omega) (by omega))]
      | succ rem ih =>
        intro x n1 hx hn
        obtain ⟨n1, rfl⟩ : ∃ k, n1 = k + 1 := ⟨n1 - 1, by omega⟩
        rw [f_M_brand_23, f1, zp_neg (nI_ge (by omega) (by omega)), zp_gd i0, cl0, g35, zp_neg (nI_ge (by omega) (by omega)), zp_pos (show ¬ (1 : Int32) = 0 by decide)]
        unfold f_M_brand_56 f_M_brand_61
        rw [zp_lt, zp_lt, nI_1]
        exact ih (x + 1) n1 (by omega) (by omega)
    have both : ∀ (rem x n1 n2 : Nat), x + rem = e → rem < n1 → rem < n2 → (f_B_isBranded_27 n1 (nI x) Gc = some (1, Gc) ∧ f_M_brand_23 n2 (0 : Int32) (nI x) Gm = f_M_brand_68 (1 : Int32) Gm) ∨ (f_B_isBranded_27 n1 (nI x) Gc = some (0, Gc) ∧ f_M_brand_23 n2 (0 : Int32) (nI x) Gm = f_M_brand_68 (0 : Int32) Gm) := by
      intro rem
      induction rem with
      | zero =>
        intro x n1 n2 hx hn1 hn2
        obtain ⟨n1, rfl⟩ : ∃ k, n1 = k + 1 := ⟨n1 - 1, by omega⟩
        obtain ⟨n2, rfl⟩ : ∃ k, n2 = k + 1 := ⟨n2 - 1, by omega⟩
        right
        refine ⟨?_, ?_⟩
        · rw [f_B_isBranded_27, zp_gd i0, cl0, g5, zp_pos (nI_le (by omega) (by omega))]; rfl
        · rw [f_M_brand_23, f1]
          by_cases c : L ≤ x
          · rw [zp_pos (nI_le c (by omega))]
          · rw [zp_neg (nI_ge (by omega) (by omega)), zp_gd i0, cl0, g35, zp_pos (nI_le (by omega) (by omega))]
      | succ rem ih =>
        intro x n1 n2 hx hn1 hn2
        obtain ⟨n1, rfl⟩ : ∃ k, n1 = k + 1 := ⟨n1 - 1, by omega⟩
        obtain ⟨n2, rfl⟩ : ∃ k, n2 = k + 1 := ⟨n2 - 1, by omega⟩
        rw [f_B_isBranded_27, zp_gd i0, cl0, g5, zp_neg (nI_ge (by omega) (by omega)), zp_gd (zp_in (j := x) (N := 240) (by omega) (by omega)), f_M_brand_23, f1, zp_neg (nI_ge (by omega) (by omega)), zp_gd i0, cl0, g35, zp_neg (nI_ge (by omega) (by omega)), zp_neg (show ¬ ¬ (0 : Int32) = 0 from fun z => z rfl), zp_gd (zp_in (j := x) (N := 240) (by omega) (by omega)), zp_cl (by omega), f2 x (by omega)]
        by_cases c : Gm 33 x = (118 : Int32)
        · left
          refine ⟨by rw [zp_neg (fun z => z c)]; rfl, ?_⟩
          rw [zp_neg (fun z => z c)]
          unfold f_M_brand_56 f_M_brand_61
          rw [zp_lt, zp_lt, nI_1]
          exact refF rem (x + 1) n2 (by omega) (by omega)
        · rw [zp_pos c, zp_lt, nI_1, zp_pos c]
          unfold f_M_brand_61
          rw [zp_lt, zp_lt, nI_1]
          exact ih (x + 1) n1 n2 (by omega) (by omega) (by omega)
    have eM : f_M_brand Gm = f_M_brand_23 2048 (0 : Int32) (nI f) Gm := by
      unfold f_M_brand f_M_brand_22
      rw [zp_lt, r2, zp_neg (show ¬ nI n ≤ 0 from nI_ge (a := 0) (by omega) (by omega)), zp_gd i0, zp_lt, cl0, g34]
    have e102 : nI ty = (102 : Int32) ↔ ty = 102 := zp_eqc (c := (102 : Int32)) 102 rfl (by omega) (by omega)
    rw [eM]
    unfold f_B_isBranded
    rw [r1, zp_neg (nI_ne0 (by omega) (by omega)), zp_gd i0, cl0, g3, g4, zp_gd i0, zp_lt]
    by_cases ct : ty = 102
    · rw [zp_pos (e102.mpr ct)]
      rcases both (e - f) f 2048 2048 (by omega) (by omega) (by omega) with ⟨a1, a2⟩ | ⟨a1, a2⟩
      · left
        refine ⟨a1, ?_⟩
        rw [a2]
        unfold f_M_brand_68
        rw [r2, zp_neg (nI_ne0 (by omega) (by omega)), zp_gd i0, cl0, g36, zp_neg (fun z => z (e102.mpr ct)), zp_pos (show ¬ (1 : Int32) = 0 by decide)]; rfl
      · right
        refine ⟨a1, ?_⟩
        rw [a2]
        unfold f_M_brand_68
        rw [r2, zp_neg (nI_ne0 (by omega) (by omega)), zp_gd i0, cl0, g36, zp_neg (fun z => z (e102.mpr ct)), zp_neg (show ¬ ¬ (0 : Int32) = 0 from fun z => z rfl), k90]
    · right
      have q : ¬ nI ty = (102 : Int32) := fun z => ct (e102.mp z)
      refine ⟨by rw [zp_neg q]; rfl, ?_⟩
      have t68 : ∀ v, f_M_brand_68 v Gm = some (0, zx_up Gm 32 10 (2 : Int32)) := fun v => by
        unfold f_M_brand_68
        rw [r2, zp_neg (nI_ne0 (by omega) (by omega)), zp_gd i0, cl0, g36, zp_pos q, k90]
      rcases both (e - f) f 2048 2048 (by omega) (by omega) (by omega) with ⟨a1, a2⟩ | ⟨a1, a2⟩
      · rw [a2, t68]
      · rw [a2, t68]
/-- the property of a number: both find the same box -/
theorem zb_property {L n : Nat} {Gc Gm : zx_G} (hR : zb_R L n Gc Gm) (hd nm : Int32) : ∃ r, f_B_property hd nm Gc = some (r, Gc) ∧ f_M_property hd nm Gm = some (r, Gm) ∧ (r = -1 ∨ ∃ k, k < n ∧ r = nI k) := by
  obtain ⟨r0, r1, r2, r3⟩ := id hR
  have loop : ∀ (rem i n1 n2 : Nat) (x3 : Int32), i + rem = n → rem < n1 → rem < n2 → ∃ r, f_B_property_5 n1 hd nm x3 (nI i) Gc = some (r, Gc) ∧ f_M_property_5 n2 hd nm x3 (nI i) Gm = some (r, Gm) ∧ (r = -1 ∨ ∃ k, k < n ∧ r = nI k) := by
    intro rem
    induction rem with
    | zero =>
      intro i n1 n2 x3 hi hn1 hn2
      obtain ⟨n1, rfl⟩ : ∃ k, n1 = k + 1 := ⟨n1 - 1, by omega⟩
      obtain ⟨n2, rfl⟩ : ∃ k, n2 = k + 1 := ⟨n2 - 1, by omega⟩
      exact ⟨-1, by rw [f_B_property_5, r1, zp_pos (nI_le (by omega) (by omega))], by rw [f_M_property_5, r2, zp_pos (nI_le (by omega) (by omega))], Or.inl rfl⟩
    | succ rem ih =>
      intro i n1 n2 x3 hi hn1 hn2
      obtain ⟨n1, rfl⟩ : ∃ k, n1 = k + 1 := ⟨n1 - 1, by omega⟩
      obtain ⟨n2, rfl⟩ : ∃ k, n2 = k + 1 := ⟨n2 - 1, by omega⟩
      obtain ⟨ty', f, e, l, t1, t2, t3, t4, t5, t6, g3, g36, g4, g34, g5, g35, g7, g38, g6, -⟩ := r3 i (by omega)
      have h36 : Gm 36 i = Gc 3 i := by rw [g36, g3]
      have pc : f_B_property_5 (n1 + 1) hd nm x3 (nI i) Gc = zx_if (¬ Gc 6 i = hd) (f_B_property_5 n1 hd nm x3 (nI (i + 1)) Gc) (zx_if (Gc 3 i = (97 : Int32)) (f_B_property_5 n1 hd nm x3 (nI (i + 1)) Gc) (zx_if (¬ x3 + (1 : Int32) = nm) (f_B_property_5 n1 hd nm (x3 + (1 : Int32)) (nI (i + 1)) Gc) (some (nI i, Gc)))) := by
        rw [f_B_property_5, r1, zp_neg (nI_ge (by omega) (by omega)), zp_gd (zp_in (by omega) (by omega)), zp_gd (zp_in (by omega) (by omega)), zp_cl (by omega), zp_lt]
        unfold f_B_property_48
        rw [zp_lt, zp_lt, nI_1]
      have pm : f_M_property_5 (n2 + 1) hd nm x3 (nI i) Gm = zx_if (¬ Gc 6 i = hd) (f_M_property_5 n2 hd nm x3 (nI (i + 1)) Gm) (zx_if (Gc 3 i = (97 : Int32)) (f_M_property_5 n2 hd nm x3 (nI (i + 1)) Gm) (zx_if (¬ x3 + (1 : Int32) = nm) (f_M_property_5 n2 hd nm (x3 + (1 : Int32)) (nI (i + 1)) Gm) (some (nI i, Gm)))) := by
        rw [f_M_property_5, r2, zp_neg (nI_ge (by omega) (by omega)), zp_gd (zp_in (by omega) (by omega)), zp_gd (zp_in (by omega) (by omega)), zp_cl (by omega), zp_lt, ← g6, h36]
        unfold f_M_property_48
        rw [zp_lt, zp_lt, nI_1]
      rw [pc, pm]
      by_cases c1 : Gc 6 i = hd
      · rw [zp_neg (show ¬ ¬ Gc 6 i = hd from fun z => z c1), zp_neg (show ¬ ¬ Gc 6 i = hd from fun z => z c1)]
        by_cases c2 : Gc 3 i = (97 : Int32)
        · rw [zp_pos c2, zp_pos c2]
          exact ih (i + 1) n1 n2 x3 (by omega) (by omega) (by omega)
        · rw [zp_neg c2, zp_neg c2]
          by_cases c3 : x3 + (1 : Int32) = nm
          · rw [zp_neg (show ¬ ¬ x3 + (1 : Int32) = nm from fun z => z c3), zp_neg (show ¬ ¬ x3 + (1 : Int32) = nm from fun z => z c3)]
            exact ⟨nI i, rfl, rfl, Or.inr ⟨i, by omega, rfl⟩⟩
          · rw [zp_pos c3, zp_pos c3]
            exact ih (i + 1) n1 n2 _ (by omega) (by omega) (by omega)
      · rw [zp_pos c1, zp_pos c1]
        exact ih (i + 1) n1 n2 x3 (by omega) (by omega) (by omega)
  obtain ⟨r, a1, a2, a3⟩ := loop n 0 2048 2048 0 (by omega) (by omega) (by omega)
  refine ⟨r, ?_, ?_, a3⟩
  · unfold f_B_property
    rw [zp_lt, zp_lt]
    exact a1
  · unfold f_M_property
    rw [zp_lt, zp_lt]
    exact a2
/-- both cursors over the file -/
def zb_U (at_ en : Nat) (Gc Gm : zx_G) : Prop := at_ ≤ en ∧ en ≤ 240 ∧ Gc 10 1 = nI at_ ∧ Gc 10 2 = nI en ∧ Gm 32 11 = nI at_ ∧ Gm 32 12 = nI en
theorem zb_take {L at_ en : Nat} {Gc Gm : zx_G} (hF : zb_F L Gc Gm) (hU : zb_U at_ en Gc Gm) (h0 : Gm 32 10 = 0) : (at_ < en ∧ ∃ v, v < 256 ∧ f_U_nextByte_10 Gc = some (nI v, zx_up Gc 10 1 (nI (at_ + 1))) ∧ f_M_take Gm = some (nI v, zx_up Gm 32 11 (nI (at_ + 1)))) ∨ (at_ = en ∧ f_U_nextByte_10 Gc = some (-1, Gc) ∧ f_M_take Gm = some (0, zx_up Gm 32 10 (3 : Int32))) := by
  obtain ⟨f0, f1, f2, f3⟩ := id hF
  obtain ⟨u1, u2, u3, u4, u5, u6⟩ := hU
  by_cases c : at_ < en
  · left
    obtain ⟨v, v1, v2⟩ := f3 at_ (by omega)
    refine ⟨c, v, v1, ?_, ?_⟩
    · unfold f_U_nextByte_10
      rw [u3, u4, zp_pos (nI_lt c (by omega)), zp_gd (zp_in (by omega) (by omega)), zp_cl (by omega), zp_lt, zp_lt, nI_1, f2 at_ (by omega), v2]
    · unfold f_M_take
      rw [u5, u6, zp_pos (nI_lt c (by omega)), zp_lt, nI_1, zp_us, show nI (at_ + 1) - (1 : Int32) = nI at_ from nI_pred at_, zp_gd (zp_in (by omega) (by omega)), zp_cl (by omega), zp_ur (by omega), v2]
  · right
    refine ⟨by omega, ?_, ?_⟩
    · unfold f_U_nextByte_10
      rw [u3, u4, zp_neg (nI_nlt (by omega) (by omega))]
    · unfold f_M_take
      rw [u5, u6, zp_neg (nI_nlt (by omega) (by omega)), zp_bd (zb_fail1 h0 3)]
