/-! the differences of one unit: class against reference -/
theorem zd_fillC (G : zx_G) : ∃ G', f_A_fill_24 (0 : Int32) G = some (0, G') ∧ ∀ k, k < 16 → G' 24 k = 0 := by
  obtain ⟨G', a1, -, a3, -⟩ := zd_map (fun n x G => f_A_fill_24_5 n (0 : Int32) x (16 : Int32) G) (fun G => some ((0 : Int32), G)) 24 16 (fun _ _ => 0) (fun _ => True) (fun _ _ _ _ => trivial)
    (fun n i G hi _ => by
      show f_A_fill_24_5 (n + 1) (0 : Int32) (nI i) (16 : Int32) G = f_A_fill_24_5 n (0 : Int32) (nI (i + 1)) (16 : Int32) _
      rw [f_A_fill_24_5, zp_neg (zd_c16 hi), zp_gd (zp_in hi (by omega)), zp_lt, zp_lt, zp_cl (by omega), nI_1])
    (fun n G _ => by
      show f_A_fill_24_5 (n + 1) (0 : Int32) (nI 16) (16 : Int32) G = _
      rw [f_A_fill_24_5, zp_pos (by decide)]) 16 0 2048 G trivial (by omega) (by omega)
  refine ⟨G', ?_, fun k hk => by rw [a3 k, if_pos (by omega)]⟩
  unfold f_A_fill_24
  rw [zp_lt, zp_lt]
  exact a1
theorem zd_fillM (y1 : Int32) (G : zx_G) : ∃ G', f_M_differences y1 G = zx_if (¬ y1 = 0) (f_M_differences_33 y1 (9 : Int32) G') (f_M_differences_33 y1 (8 : Int32) G') ∧ (∀ k, k < 16 → G' 47 k = 0) ∧ ∀ r, r ≠ 47 → G' r = G r := by
  obtain ⟨G', a1, -, a3, a4⟩ := zd_map (fun n x G => f_M_differences_2 n y1 x G) (fun G => zx_if (¬ y1 = 0) (f_M_differences_33 y1 (9 : Int32) G) (f_M_differences_33 y1 (8 : Int32) G)) 47 16 (fun _ _ => 0) (fun _ => True) (fun _ _ _ _ => trivial)
    (fun n i G hi _ => by
      show f_M_differences_2 (n + 1) y1 (nI i) G = f_M_differences_2 n y1 (nI (i + 1)) _
      rw [f_M_differences_2, zp_neg (zd_c16 hi), zp_gd (zp_in hi (by omega)), zp_lt, zp_lt, zp_cl (by omega), nI_1])
    (fun n G _ => by
      show f_M_differences_2 (n + 1) y1 (nI 16) G = _
      rw [f_M_differences_2, zp_pos (by decide)]) 16 0 2048 G trivial (by omega) (by omega)
  refine ⟨G', ?_, fun k hk => by rw [a3 k, if_pos (by omega)], a4⟩
  unfold f_M_differences
  rw [zp_lt]
  exact a1
set_option maxRecDepth 100000 in
theorem zd_read {fr to s bt p q ty : Nat} {Gc Gm : zx_G} (hR : zk_R fr to s bt Gc Gm) (hM : zd_M q ty Gm) (h0 : Gm 32 10 = 0) (hp : p ≤ 2) (hq : q ≤ 63) (hty : ty ≤ 3) (hb : bt + 10000 < 2 ^ 26) :
    ∃ (Gc' Gm' : zx_G) (bt' : Nat), bt' ≤ bt + 6500 ∧ ((f_D_read (nI p) (nI q) (nI ty) Gc = some (1, Gc') ∧ f_M_differences (nI p) Gm = some (0, Gm') ∧ zk_R fr to s bt' Gc' Gm' ∧ zd_eq Gc' Gm' ∧ Gm' 32 10 = 0) ∨ (f_D_read (nI p) (nI q) (nI ty) Gc = some (0, Gc') ∧ f_M_differences (nI p) Gm = some (0, Gm') ∧ Gm' 32 10 = 8)) := by
  obtain ⟨sec, hsec, hy, eC⟩ : ∃ sec, sec ≤ 1 ∧ ((sec = 0 ∧ nI p = 0) ∨ (sec = 1 ∧ ¬ nI p = 0)) ∧ f_D_read (nI p) (nI q) (nI ty) Gc = f_D_read_9 (nI q) (nI ty) (nI sec) Gc := by
    unfold f_D_read
    by_cases c : p = 0
    · subst c
      exact ⟨0, by omega, Or.inl ⟨rfl, rfl⟩, by rw [zp_neg (fun z => z rfl)]; rfl⟩
    · have hc : ¬ nI p = 0 := nI_ne0 (by omega) (by omega)
      exact ⟨1, by omega, Or.inr ⟨rfl, hc⟩, by rw [zp_pos hc]; rfl⟩
  obtain ⟨G1, a1, a2⟩ := zd_fillC Gc
  obtain ⟨G2, b1, b2, b3⟩ := zd_fillM (nI p) Gm
  have wf := w_A_fill_24 _ _ a1
  have hR1 : zk_R fr to s bt G1 G2 := hR.keep (wf 14 (by decide)) (wf 9 (by decide)) (wf 15 (by decide)) (wf 16 (by decide)) (b3 32 (by omega)) (b3 39 (by omega)) (b3 40 (by omega)) (b3 41 (by omega))
  have hE1 : zd_eq G1 G2 := fun k hk => by rw [a2 k hk, b2 k hk]
  have hM1 : zd_M q ty G2 := hM.keep (by rw [b3 32 (by omega)]) (b3 52 (by omega)) (b3 51 (by omega)) (by rw [b3 32 (by omega)]) (b3 45 (by omega))
  have h1 : G2 32 10 = 0 := by rw [b3 32 (by omega)]; exact h0
  have eM : f_M_differences (nI p) Gm = f_M_differences_33 (nI p) (nI (8 + sec)) G2 := by
    rw [b1]
    rcases hy with ⟨rfl, hy⟩ | ⟨rfl, hy⟩
    · rw [zp_neg (fun z => z hy)]; rfl
    · rw [zp_pos hy]; rfl
  obtain ⟨G3, G4, bt1, z, c0, c1, c2, c3, c4⟩ := zk_sym (t := 8 + sec) hR1 (by omega) (by omega)
  have wc := w_C_readSymbol _ _ c1
  have wm := w_M_symbol _ _ c2
  have vm := v_M_symbol _ _ c2
  obtain ⟨hE2, hM2⟩ := zd_after hE1 hM1 (wc 24 (by decide)) (wm 47 (by decide)) (wm 52 (by decide)) (wm 51 (by decide)) (wm 45 (by decide)) (vm 32 21 (by decide) (by decide)) (vm 32 37 (by decide) (by decide))
  have h2 : G4 32 10 = 0 := (vm 32 10 (by decide) (by decide)).trans h1
  rw [eC, eM]
  unfold f_D_read_9 f_M_differences_33
  rw [zp_lt, zp_bd a1, show (8 : Int32) + nI sec = nI (8 + sec) from nI_add 8 sec, zp_bd c1, zp_bd c2]
  by_cases hz : z = 1
  · subst hz
    exact ⟨G3, G4, bt1, by omega, Or.inl ⟨by rw [zp_neg (fun q => q rfl)]; rfl, by rw [zp_neg (fun q => q rfl)], c3, hE2, h2⟩⟩
  · have hz1 : ¬ nI z = (1 : Int32) := fun q => by
      have hz2 : z < 2 ^ 31 := by have := (zx_cnt_tab (8 + sec) (by omega)).2.2; omega
      exact hz ((zp_eqc (c := (1 : Int32)) 1 rfl hz2 (by omega)).mp q)
    obtain ⟨G5, G6, bt2, last, d0, d1, d2, d3, d4⟩ := zk_sym (t := 11 + sec) c3 (by omega) (by omega)
    have hl : last < 16 := by have := (zx_cnt_tab (11 + sec) (by omega)).2.2; omega
    have wc2 := w_C_readSymbol _ _ d1
    have wm2 := w_M_symbol _ _ d2
    have vm2 := v_M_symbol _ _ d2
    obtain ⟨hE3, hM3⟩ := zd_after hE2 hM2 (wc2 24 (by decide)) (wm2 47 (by decide)) (wm2 52 (by decide)) (wm2 51 (by decide)) (wm2 45 (by decide)) (vm2 32 21 (by decide) (by decide)) (vm2 32 37 (by decide) (by decide))
    have h3 : G6 32 10 = 0 := (vm2 32 10 (by decide) (by decide)).trans h2
    obtain ⟨Gc', Gm', bt', e1, e2⟩ := zd_loop (last := last) hy hq hty hl (last + 1) 2048 2048 bt2 G5 G6 d3 hE3 hM3 h3 (Nat.le_refl _) (by omega) (by omega) (by omega)
    rw [pk_m1] at e2
    refine ⟨Gc', Gm', bt', by omega, ?_⟩
    have eM2 : zx_if (¬ nI p = 0) (f_M_differences_53 (nI p) (12 : Int32) G4) (f_M_differences_53 (nI p) (11 : Int32) G4) = f_M_differences_59 2048 (nI p) (nI last) (nI last) G6 := by
      have g53 : f_M_differences_53 (nI p) (nI (11 + sec)) G4 = f_M_differences_59 2048 (nI p) (nI last) (nI last) G6 := by
        unfold f_M_differences_53
        rw [zp_bd d2, zp_lt, zp_lt]
      rcases hy with ⟨rfl, hy⟩ | ⟨rfl, hy⟩
      · rw [zp_neg (fun z => z hy)]; exact g53
      · rw [zp_pos hy]; exact g53
    rw [zp_pos hz1, show (11 : Int32) + nI sec = nI (11 + sec) from nI_add 11 sec, zp_bd d1, zp_lt, zp_lt, zp_pos hz1, eM2]
    exact e2
