/-! the excess -/
theorem zk_moreZ {fr to s : Nat} : ∀ (rem i n1 n2 bt : Nat) (Gc Gm : zx_G), zk_R fr to s bt Gc Gm → Gm 32 10 = 0 → i + rem = 13 → rem < n1 → rem < n2 → bt + 14 * rem + 200 < 2 ^ 26 →
    ∃ (Gc' Gm' : zx_G) (bt' : Nat), zk_R fr to s bt' Gc' Gm' ∧ bt' ≤ bt + 14 * rem + 14 * 12 ∧ ((∃ v, v < 2 ^ 14 ∧ f_C_readExcess_2 n1 (nI i) Gc = some (nI v, Gc') ∧ f_M_more_2 n2 (nI i) Gm = some (nI v, Gm') ∧ Gm' 32 10 = 0) ∨ (f_C_readExcess_2 n1 (nI i) Gc = some (-1, Gc') ∧ f_M_more_2 n2 (nI i) Gm = some (0, Gm') ∧ Gm' 32 10 = 8)) := by
  intro rem
  induction rem with
  | zero =>
    intro i n1 n2 bt Gc Gm hR h0 hi h1 h2 h3
    obtain ⟨n1, rfl⟩ : ∃ k, n1 = k + 1 := ⟨n1 - 1, by omega⟩
    obtain ⟨n2, rfl⟩ : ∃ k, n2 = k + 1 := ⟨n2 - 1, by omega⟩
    have hi3 : i = 13 := by omega
    subst hi3
    refine ⟨Gc, zx_up Gm 32 10 8, bt, ?_, by omega, Or.inr ⟨?_, ?_, by simp [zp_at]⟩⟩
    · obtain ⟨hS, hT, rg, vl, hV, r1, r2, r3⟩ := hR
      refine ⟨hS.keep rfl rfl rfl (by simp [zp_at]) (by simp [zp_at]) (by rw [zp_ur (by omega)]), hT.keep rfl rfl rfl (by simp [zp_at]) (by rw [zp_ur (by omega)]) (by rw [zp_ur (by omega)]), rg, vl, ?_, r1, r2, r3⟩
      obtain ⟨v1, v2, v3, v4, v5, v6, v7⟩ := hV
      exact ⟨v1, by simpa [zp_at] using v2, v3, by simpa [zp_at] using v4, v5, by simpa [zp_at] using v6, by simpa [zp_at] using v7⟩
    · rw [f_C_readExcess_2, f_C_readExcess_21, zp_pos (by decide), zp_neg (by decide)]
    · rw [f_M_more_2, f_M_more_21, zp_pos (by decide), zp_neg (by decide)]
      unfold f_M_fail f_M_fail_16
      rw [h0, zp_neg (by decide), zp_lt]
      rfl
  | succ rem ih =>
    intro i n1 n2 bt Gc Gm hR h0 hi h1 h2 h3
    obtain ⟨n1, rfl⟩ : ∃ k, n1 = k + 1 := ⟨n1 - 1, by omega⟩
    obtain ⟨n2, rfl⟩ : ∃ k, n2 = k + 1 := ⟨n2 - 1, by omega⟩
    have c1 : ¬ (12 : Int32) < nI i := fun q => by have q2 := (zp_clt (c := (12 : Int32)) 12 rfl (by omega) (by omega)).mp q; omega
    have c2 : ¬ (13 : Int32) ≤ nI i := fun q => by have q2 := (zp_cle (c := (13 : Int32)) 13 rfl (by omega) (by omega)).mp q; omega
    obtain ⟨G1, G2, bt1, k, hk, a1, a2, a3, a4⟩ := zk_bit hR (by omega)
    have h10 : G2 32 10 = 0 := (v_M_bit _ a2 32 10 (by decide) (by decide)).trans h0
    have hk2 : k = 0 ∨ k = 1 := by omega
    rcases hk2 with rfl | rfl
    · obtain ⟨Gc', Gm', bt', b1, b2, b3⟩ := ih (i + 1) n1 n2 bt1 G1 G2 a3 h10 (by omega) (by omega) (by omega) (by omega)
      refine ⟨Gc', Gm', bt', b1, by omega, ?_⟩
      have eC : f_C_readExcess_2 (n1 + 1) (nI i) Gc = f_C_readExcess_2 n1 (nI (i + 1)) G1 := by rw [f_C_readExcess_2, zp_neg c1, zp_bd a1, zp_neg (by decide), zp_lt, nI_1]
      have eM : f_M_more_2 (n2 + 1) (nI i) Gm = f_M_more_2 n2 (nI (i + 1)) G2 := by rw [f_M_more_2, zp_neg c2, zp_bd a2, zp_neg (by decide), zp_lt, nI_1]
      rw [eC, eM]
      exact b3
    · obtain ⟨Gc', Gm', bt', v, b0, b1, b2, b3, b4, b5⟩ := zk_moreL (o := i) (by omega) i 0 2048 2048 bt1 0 G1 G2 a3 (by omega) (by simp) (by omega) (by omega) (by omega)
      refine ⟨Gc', Gm', bt', b3, by omega, Or.inl ⟨v, b0, ?_, ?_, b5.trans h10⟩⟩
      · rw [f_C_readExcess_2, zp_neg c1, zp_bd a1, zp_pos (by decide), f_C_readExcess_21, zp_pos ((zp_lec (c := (12 : Int32)) 12 rfl (by omega) (by omega)).mpr (by omega)), zp_lt, zp_lt]
        exact b1
      · rw [f_M_more_2, zp_neg c2, zp_bd a2, zp_pos (by decide), f_M_more_21, zp_pos (show ¬ nI i = (13 : Int32) from fun q => by have q2 := (zp_eqc (c := (13 : Int32)) 13 rfl (by omega) (by omega)).mp q; omega), zp_lt, zp_lt]
        exact b2
theorem zk_more {fr to s bt : Nat} {Gc Gm : zx_G} (hR : zk_R fr to s bt Gc Gm) (h0 : Gm 32 10 = 0) (hb : bt + 400 < 2 ^ 26) :
    ∃ (Gc' Gm' : zx_G) (bt' : Nat), zk_R fr to s bt' Gc' Gm' ∧ bt' ≤ bt + 350 ∧ ((∃ v, v < 2 ^ 14 ∧ f_C_readExcess Gc = some (nI v, Gc') ∧ f_M_more Gm = some (nI v, Gm') ∧ Gm' 32 10 = 0) ∨ (f_C_readExcess Gc = some (-1, Gc') ∧ f_M_more Gm = some (0, Gm') ∧ Gm' 32 10 = 8)) := by
  obtain ⟨Gc', Gm', bt', a1, a2, a3⟩ := zk_moreZ 13 0 2048 2048 bt Gc Gm hR h0 (by omega) (by omega) (by omega) (by omega)
  refine ⟨Gc', Gm', bt', a1, by omega, ?_⟩
  have eC : f_C_readExcess Gc = f_C_readExcess_2 2048 (nI 0) Gc := rfl
  have eM : f_M_more Gm = f_M_more_2 2048 (nI 0) Gm := rfl
  rw [eC, eM]
  exact a3
