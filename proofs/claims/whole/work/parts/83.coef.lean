/-! the differences: the loop over the sizes -/
theorem zd_after {q ty : Nat} {Gc Gm Gc' Gm' : zx_G} (hE : zd_eq Gc Gm) (hM : zd_M q ty Gm) (c24 : Gc' 24 = Gc 24) (m47 : Gm' 47 = Gm 47) (m52 : Gm' 52 = Gm 52) (m51 : Gm' 51 = Gm 51) (m45 : Gm' 45 = Gm 45) (s21 : Gm' 32 21 = Gm 32 21) (s37 : Gm' 32 37 = Gm 32 37) : zd_eq Gc' Gm' ∧ zd_M q ty Gm' :=
  ⟨fun i hi => by rw [c24, m47]; exact hE i hi, hM.keep s21 m52 m51 s37 m45⟩
theorem zx_cnt_4 : ∀ t, 13 ≤ t → t < 19 → zx_cnt t = 4 := by
  have key : ∀ t, t < 19 → 13 ≤ t → zx_cnt t = 4 := by decide
  exact fun t h1 h2 => key t h2 h1
theorem zd_loop {fr to s q ty sec last : Nat} {y1 : Int32} (hp : (sec = 0 ∧ y1 = 0) ∨ (sec = 1 ∧ ¬ y1 = 0)) (hq : q ≤ 63) (hty : ty ≤ 3) (hlast : last < 16) : ∀ (j n1 n2 bt : Nat) (Gc Gm : zx_G), zk_R fr to s bt Gc Gm → zd_eq Gc Gm → zd_M q ty Gm → Gm 32 10 = 0 → j ≤ last + 1 → j < n1 → j < n2 → bt + 400 * j + 1000 < 2 ^ 26 →
    ∃ (Gc' Gm' : zx_G) (bt' : Nat), bt' ≤ bt + 400 * j ∧ ((f_D_read_55 n1 (nI q) (nI ty) (nI sec) (nI last) (nI j + (-1)) Gc = some (1, Gc') ∧ f_M_differences_59 n2 y1 (nI last) (nI j + (-1)) Gm = some (0, Gm') ∧ zk_R fr to s bt' Gc' Gm' ∧ zd_eq Gc' Gm' ∧ Gm' 32 10 = 0) ∨
      (f_D_read_55 n1 (nI q) (nI ty) (nI sec) (nI last) (nI j + (-1)) Gc = some (0, Gc') ∧ f_M_differences_59 n2 y1 (nI last) (nI j + (-1)) Gm = some (0, Gm') ∧ Gm' 32 10 = 8)) := by
  intro j
  induction j with
  | zero =>
    intro n1 n2 bt Gc Gm hR hE hM h0 hj h1 h2 hb
    obtain ⟨n1, rfl⟩ : ∃ k, n1 = k + 1 := ⟨n1 - 1, by omega⟩
    obtain ⟨n2, rfl⟩ : ∃ k, n2 = k + 1 := ⟨n2 - 1, by omega⟩
    obtain ⟨Gc', Gm', a1, a2, a3, a4, a5⟩ := zd_tail hR hE hM hq hty
    refine ⟨Gc', Gm', bt, by omega, Or.inl ⟨?_, ?_, a3, a4, by rw [a5 32 (by omega) (by omega)]; exact h0⟩⟩
    · rw [f_D_read_55, zp_pos (by decide)]; exact a1
    · rw [f_M_differences_59, zp_pos (by decide)]; exact a2
  | succ k ih =>
    intro n1 n2 bt Gc Gm hR hE hM h0 hj h1 h2 hb
    obtain ⟨n1, rfl⟩ : ∃ k, n1 = k + 1 := ⟨n1 - 1, by omega⟩
    obtain ⟨n2, rfl⟩ : ∃ k, n2 = k + 1 := ⟨n2 - 1, by omega⟩
    rw [pk_m1]
    have hneg : ¬ nI k < 0 := nI_pos (by omega)
    obtain ⟨g, hg, eC, eM⟩ : ∃ g, g ≤ 2 ∧ f_D_read_55 (n1 + 1) (nI q) (nI ty) (nI sec) (nI last) (nI k) Gc = f_D_read_80 (f_D_read_55 n1) (nI q) (nI ty) (nI sec) (nI last) (nI k) (nI g) Gc ∧ f_M_differences_59 (n2 + 1) y1 (nI last) (nI k) Gm = f_M_differences_100 (f_M_differences_59 n2) y1 (nI last) (nI k) (nI (13 + 3 * sec)) (nI g) Gm := by
      have m82 : f_M_differences_59 (n2 + 1) y1 (nI last) (nI k) Gm = f_M_differences_82 (f_M_differences_59 n2) y1 (nI last) (nI k) (nI (13 + 3 * sec)) Gm := by
        rw [f_M_differences_59, zp_neg hneg, h0, zp_neg (fun z => z rfl)]
        rcases hp with ⟨rfl, rfl⟩ | ⟨rfl, hy⟩
        · rw [zp_neg (fun z => z rfl)]; rfl
        · rw [zp_pos hy]; rfl
      rw [m82]
      unfold f_M_differences_82
      by_cases k0 : k = 0
      · subst k0
        refine ⟨0, by omega, ?_, ?_⟩
        · rw [f_D_read_55, zp_neg hneg, zp_neg (fun z => z rfl)]; rfl
        · rw [zp_neg (fun z => z rfl)]; rfl
      · have hk0 : ¬ nI k = 0 := nI_ne0 (by omega) (by omega)
        by_cases k5 : 5 < k
        · have hk5 : (5 : Int32) < nI k := (zp_clt (c := (5 : Int32)) 5 rfl (by omega) (by omega)).mpr k5
          refine ⟨2, by omega, ?_, ?_⟩
          · rw [f_D_read_55, zp_neg hneg, zp_pos hk0, zp_pos hk5]; rfl
          · rw [zp_pos hk0, zp_pos hk5]; rfl
        · have hk5 : ¬ (5 : Int32) < nI k := fun z => k5 ((zp_clt (c := (5 : Int32)) 5 rfl (by omega) (by omega)).mp z)
          refine ⟨1, by omega, ?_, ?_⟩
          · rw [f_D_read_55, zp_neg hneg, zp_pos hk0, zp_neg hk5]; rfl
          · rw [zp_pos hk0, zp_neg hk5]; rfl
    have hsec : sec ≤ 1 := by rcases hp with ⟨rfl, -⟩ | ⟨rfl, -⟩ <;> omega
    obtain ⟨G1, G2, bt1, sy, b0, b1, b2, b3, b4⟩ := zk_sym (t := 13 + 3 * sec + g) hR (by omega) (by omega)
    rw [zx_cnt_4 _ (by omega) (by omega)] at b0
    have wc := w_C_readSymbol _ _ b1
    have wm := w_M_symbol _ _ b2
    have vm := v_M_symbol _ _ b2
    obtain ⟨hE1, hM1⟩ := zd_after hE hM (wc 24 (by decide)) (wm 47 (by decide)) (wm 52 (by decide)) (wm 51 (by decide)) (wm 45 (by decide)) (vm 32 21 (by decide) (by decide)) (vm 32 37 (by decide) (by decide))
    have h01 : G2 32 10 = 0 := (vm 32 10 (by decide) (by decide)).trans h0
    obtain ⟨m0, hm0, fC, fM⟩ : ∃ m0, m0 ≤ 4 ∧ f_D_read_55 (n1 + 1) (nI q) (nI ty) (nI sec) (nI last) (nI k) Gc = f_D_read_117 (f_D_read_55 n1) (nI q) (nI ty) (nI sec) (nI last) (nI k) (nI sy) (nI m0) G1 ∧ f_M_differences_59 (n2 + 1) y1 (nI last) (nI k) Gm = f_M_differences_120 (f_M_differences_59 n2) y1 (nI last) (nI k) (nI sy) (nI m0) G2 := by
      have tC : (((13 : Int32) + ((3 : Int32) * nI sec)) + nI g) = nI (13 + 3 * sec + g) := by rw [show (3 : Int32) * nI sec = nI (3 * sec) from pk_mul 3 sec, show (13 : Int32) + nI (3 * sec) = nI (13 + 3 * sec) from nI_add 13 _, nI_add]
      rw [eC, eM]
      unfold f_D_read_80 f_M_differences_100
      rw [zp_lt, tC, zp_bd b1, zp_lt, nI_add, zp_bd b2, zp_lt]
      by_cases kl : k = last
      · subst kl
        exact ⟨sy + 1, by omega, by rw [zp_neg (fun z => z rfl), nI_1], by rw [zp_neg (fun z => z rfl), nI_1]⟩
      · have hkl : ¬ nI k = nI last := fun z => kl ((nI_eq (by omega) (by omega)).mp z)
        exact ⟨sy, by omega, by rw [zp_pos hkl], by rw [zp_pos hkl]⟩
    rw [fC, fM]
    unfold f_D_read_117 f_M_differences_120
    rw [zp_lt]
    by_cases s3 : sy = 3
    · subst s3
      rw [zp_neg (fun z => z rfl), zp_neg (fun z => z rfl)]
      obtain ⟨G3, G4, bt2, c1, c2, c3⟩ := zk_more b3 h01 (by omega)
      rcases c3 with ⟨v, c3, c4, c5, c6⟩ | ⟨c4, c5, c6⟩
      · have wc2 := w_C_readExcess _ c4
        have wm2 := w_M_more _ c5
        have vm2 := v_M_more _ c5
        obtain ⟨hE2, hM2⟩ := zd_after hE1 hM1 (wc2 24 (by decide)) (wm2 47 (by decide)) (wm2 52 (by decide)) (wm2 51 (by decide)) (wm2 45 (by decide)) (vm2 32 21 (by decide) (by decide)) (vm2 32 37 (by decide) (by decide))
        obtain ⟨G5, G6, bt3, d1, d2, d3, d4, d5, d6, d7⟩ := zd_put (m := m0 + v) (m0 := m0) (ex := v) (x2 := nI q) (x3 := nI ty) (x4 := nI sec) (x5 := nI last) (y1 := y1) (y2 := nI last) (kC := f_D_read_55 n1) (kM := f_M_differences_59 n2) c1 hE2 hM2 (show k < 16 by omega) rfl (by omega) (by omega)
        obtain ⟨Gc', Gm', bt', e1, e2⟩ := ih n1 n2 bt3 G5 G6 d3 d4 d5 (d7.trans c6) (by omega) (by omega) (by omega) (by omega)
        refine ⟨Gc', Gm', bt', by omega, ?_⟩
        rw [zp_bd c4, zp_lt, zp_pos (nI_pos' (by omega)), zp_lt, nI_add, d1, zp_bd c5, d2]
        exact e2
      · have wc2 := w_C_readExcess _ c4
        have wm2 := w_M_more _ c5
        have vm2 := v_M_more _ c5
        obtain ⟨hE2, hM2⟩ := zd_after hE1 hM1 (wc2 24 (by decide)) (wm2 47 (by decide)) (wm2 52 (by decide)) (wm2 51 (by decide)) (wm2 45 (by decide)) (vm2 32 21 (by decide) (by decide)) (vm2 32 37 (by decide) (by decide))
        obtain ⟨G5, G6, bt3, d1, d2, d3, d4, d5, d6, d7⟩ := zd_put (m := m0) (m0 := m0) (ex := 0) (x2 := nI q) (x3 := nI ty) (x4 := nI sec) (x5 := nI last) (y1 := y1) (y2 := nI last) (kC := f_D_read_55 n1) (kM := f_M_differences_59 n2) c1 hE2 hM2 (show k < 16 by omega) rfl (by omega) (by omega)
        obtain ⟨G7, G8, e1, e2, e3, e4, e5⟩ := zd_tail d3 d4 d5 hq hty
        obtain ⟨n2, rfl⟩ : ∃ k, n2 = k + 1 := ⟨n2 - 1, by omega⟩
        have h8 : G6 32 10 = 8 := d7.trans c6
        refine ⟨G3, G8, bt, by omega, Or.inr ⟨?_, ?_, by rw [e5 32 (by omega) (by omega)]; exact h8⟩⟩
        · rw [zp_bd c4, zp_lt, zp_neg (by decide)]; rfl
        · rw [zp_bd c5]
          refine (show _ = f_M_differences_59 (n2 + 1) y1 (nI last) (nI k + (-1)) G6 from d2).trans ?_
          rw [f_M_differences_59]
          by_cases z : nI k + (-1) < 0
          · rw [zp_pos z]; exact e2
          · rw [zp_neg z, h8, zp_pos (by decide)]; exact e2
    · have hs3 : ¬ nI sy = (3 : Int32) := fun z => s3 ((zp_eqc (c := (3 : Int32)) 3 rfl (by omega) (by omega)).mp z)
      obtain ⟨G5, G6, bt3, d1, d2, d3, d4, d5, d6, d7⟩ := zd_put (m := m0) (m0 := m0) (ex := 0) (x2 := nI q) (x3 := nI ty) (x4 := nI sec) (x5 := nI last) (y1 := y1) (y2 := nI last) (kC := f_D_read_55 n1) (kM := f_M_differences_59 n2) b3 hE1 hM1 (show k < 16 by omega) rfl (by omega) (by omega)
      obtain ⟨Gc', Gm', bt', e1, e2⟩ := ih n1 n2 bt3 G5 G6 d3 d4 d5 (d7.trans h01) (by omega) (by omega) (by omega) (by omega)
      refine ⟨Gc', Gm', bt', by omega, ?_⟩
      rw [zp_pos hs3, d1, zp_pos hs3, show f_M_differences_134 (f_M_differences_59 n2) y1 (nI last) (nI k) (nI m0) (0 : Int32) G2 = f_M_differences_59 n2 y1 (nI last) (nI k + (-1)) G6 from d2]
      exact e2
