/-! the differences: reading the sizes -/
theorem zk_R.keep {fr to s bt : Nat} {Gc Gm Gc' Gm' : zx_G} (h : zk_R fr to s bt Gc Gm) (c14 : Gc' 14 = Gc 14) (c9 : Gc' 9 = Gc 9) (c15 : Gc' 15 = Gc 15) (c16 : Gc' 16 = Gc 16) (m32 : Gm' 32 = Gm 32) (m39 : Gm' 39 = Gm 39) (m40 : Gm' 40 = Gm 40) (m41 : Gm' 41 = Gm 41) : zk_R fr to s bt Gc' Gm' := by
  obtain ⟨hS, hT, rg, vl, hV, r1, r2, r3⟩ := h
  refine ⟨hS.keep (by rw [c14]) (by rw [c14]) c9 (by rw [m32]) (by rw [m32]) m39, hT.keep (by rw [c14]) c15 c16 (by rw [m32]) m40 m41, rg, vl, ?_, r1, r2, r3⟩
  unfold zk_V
  rw [c14, m32]
  exact hV
/-- what the reference's differences need of its other rows -/
def zd_M (q ty : Nat) (G : zx_G) : Prop := G 32 21 = nI q ∧ (∀ k, k < 16 → G 52 k = zx_tab2 k) ∧ (∀ k, k < 16 → G 51 k = zx_tab1 k) ∧ ∃ mb, mb ≤ 16 ∧ G 32 37 = nI mb ∧ G 45 (4 * mb + 3) = nI ty
theorem zd_M.keep {q ty : Nat} {G G' : zx_G} (h : zd_M q ty G) (a : G' 32 21 = G 32 21) (b : G' 52 = G 52) (c : G' 51 = G 51) (d : G' 32 37 = G 32 37) (e : G' 45 = G 45) : zd_M q ty G' := by
  obtain ⟨h1, h2, h3, mb, h4, h5, h6⟩ := h
  exact ⟨a.trans h1, by rw [b]; exact h2, by rw [c]; exact h3, mb, h4, d.trans h5, by rw [e]; exact h6⟩
theorem zd_M_tail {q ty : Nat} {Gm : zx_G} (hM : zd_M q ty Gm) : f_M_differences_175 Gm = f_M_differences_192 2048 (nI ty) (0 : Int32) Gm := by
  obtain ⟨h1, h2, h3, mb, h4, h5, h6⟩ := hM
  unfold f_M_differences_175
  rw [h5, show ((4 : Int32) * nI mb) + (3 : Int32) = nI (4 * mb + 3) by rw [show (4 : Int32) * nI mb = nI (4 * mb) from pk_mul 4 mb]; exact nI_add _ 3, zp_gd (zp_in (by omega) (by omega)), zp_lt, zp_lt, zp_cl (by omega), h6]
theorem zd_tail {fr to s bt q ty : Nat} {Gc Gm : zx_G} (hR : zk_R fr to s bt Gc Gm) (hE : zd_eq Gc Gm) (hM : zd_M q ty Gm) (hq : q ≤ 63) (ht : ty ≤ 3) : ∃ Gc' Gm', zx_if (¬ nI q = 0) (zx_bd (f_D_transform (nI q) (nI ty) Gc) fun _ G_3 => f_D_read_218 G_3) (zx_bd (f_D_mix Gc) fun _ G_6 => f_D_read_218 G_6) = some (1, Gc') ∧ f_M_differences_175 Gm = some (0, Gm') ∧ zk_R fr to s bt Gc' Gm' ∧ zd_eq Gc' Gm' ∧ ∀ r, r ≠ 47 → r ≠ 48 → Gm' r = Gm r := by
  obtain ⟨Gc', Gm', a1, a2, a3, a4⟩ := zd_trans (B := Gm) hq ht hE ⟨hM.1, hM.2.1, fun _ _ _ => rfl⟩
  have key : (∀ r, r ≠ 24 → r ≠ 25 → Gc' r = Gc r) ∧ zx_if (¬ nI q = 0) (zx_bd (f_D_transform (nI q) (nI ty) Gc) fun _ G_3 => f_D_read_218 G_3) (zx_bd (f_D_mix Gc) fun _ G_6 => f_D_read_218 G_6) = some (1, Gc') := by
    by_cases c0 : q = 0
    · rw [if_pos c0] at a1
      refine ⟨fun r h1 h2 => w_D_mix _ a1 r (by simp [R_D_mix, h1, h2]), ?_⟩
      rw [zp_neg (fun z => z (by rw [c0]; rfl)), zp_bd a1]
      rfl
    · rw [if_neg c0] at a1
      refine ⟨fun r h1 h2 => w_D_transform _ _ _ a1 r (by simp [R_D_transform, h1, h2]), ?_⟩
      rw [zp_pos (nI_ne0 (by omega) (by omega)), zp_bd a1]
      rfl
  have m := a4.2.2
  exact ⟨Gc', Gm', key.2, (zd_M_tail hM).trans a2, hR.keep (key.1 14 (by omega) (by omega)) (key.1 9 (by omega) (by omega)) (key.1 15 (by omega) (by omega)) (key.1 16 (by omega) (by omega)) (m 32 (by omega) (by omega)) (m 39 (by omega) (by omega)) (m 40 (by omega) (by omega)) (m 41 (by omega) (by omega)), a3, m⟩
theorem zx_tab1_in : ∀ k, k < 16 → ∃ j, j < 16 ∧ zx_tab1 k = nI j := by
  have key : ∀ k, k < 16 → zx_tab1 k = nI (zx_tab1 k).toNatClampNeg ∧ (zx_tab1 k).toNatClampNeg < 16 := by decide +kernel
  exact fun k hk => ⟨_, (key k hk).2, (key k hk).1⟩
/-- one number is set on both sides -/
theorem zd_eq.put {Gc Gm : zx_G} (h : zd_eq Gc Gm) (j : Nat) (v : Int32) : zd_eq (zx_up Gc 24 j v) (zx_up Gm 47 j v) := by
  intro k hk
  rw [zp_row, zp_row, zp_upd, zp_upd]
  by_cases q : k = j
  · rw [if_pos q, if_pos q]
  · rw [if_neg q, if_neg q]; exact h k hk
