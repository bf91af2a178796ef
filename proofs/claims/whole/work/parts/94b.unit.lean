/-! one unit: read, predicted, mended -/
theorem zk_R.keep2 {fr to s bt : Nat} {Gc Gm Gc' Gm' : zx_G} (h : zk_R fr to s bt Gc Gm) (c14 : Gc' 14 = Gc 14) (c9 : Gc' 9 = Gc 9) (c15 : Gc' 15 = Gc 15) (c16 : Gc' 16 = Gc 16) (m22 : Gm' 32 22 = Gm 32 22) (m25 : Gm' 32 25 = Gm 32 25) (m26 : Gm' 32 26 = Gm 32 26) (m27 : Gm' 32 27 = Gm 32 27) (m28 : Gm' 32 28 = Gm 32 28) (m29 : Gm' 32 29 = Gm 32 29) (m30 : Gm' 32 30 = Gm 32 30) (m39 : Gm' 39 = Gm 39) (m40 : Gm' 40 = Gm 40) (m41 : Gm' 41 = Gm 41) : zk_R fr to s bt Gc' Gm' := by
  obtain ⟨hS, hT, rg, vl, hV, r1, r2, r3⟩ := h
  refine ⟨hS.keep (by rw [c14]) (by rw [c14]) c9 m25 m26 m39, hT.keep (by rw [c14]) c15 c16 m22 m40 m41, rg, vl, ?_, r1, r2, r3⟩
  unfold zk_V
  rw [c14, m27, m28, m29, m30]
  exact hV
/-- the picture's head -/
def zt_Hd (q t y w h : Nat) (Gc Gm : zx_G) : Prop := (q ≤ 63 ∧ t ≤ 1 ∧ y ≤ 1 ∧ 1 ≤ w ∧ w ≤ 16 ∧ 1 ≤ h ∧ h ≤ 16) ∧ (Gc 11 10 = nI q ∧ Gc 11 6 = nI (1 + 2 * y) ∧ Gc 11 7 = nI w ∧ Gc 11 8 = nI h ∧ Gc 17 4 = nI (ze_top t)) ∧ (Gm 32 16 = nI y ∧ Gm 32 17 = nI t ∧ Gm 32 18 = nI w ∧ Gm 32 19 = nI h ∧ Gm 32 21 = nI q) ∧ (∀ k, k < 16 → Gm 52 k = zx_tab2 k) ∧ (∀ k, k < 16 → Gm 51 k = zx_tab1 k)
theorem zt_Hd.keep {q t y w h : Nat} {Gc Gm Gc' Gm' : zx_G} (hH : zt_Hd q t y w h Gc Gm) (c11 : Gc' 11 = Gc 11) (c17 : Gc' 17 4 = Gc 17 4) (m16 : Gm' 32 16 = Gm 32 16) (m17 : Gm' 32 17 = Gm 32 17) (m18 : Gm' 32 18 = Gm 32 18) (m19 : Gm' 32 19 = Gm 32 19) (m21 : Gm' 32 21 = Gm 32 21) (m51 : Gm' 51 = Gm 51) (m52 : Gm' 52 = Gm 52) : zt_Hd q t y w h Gc' Gm' := by
  unfold zt_Hd
  rw [c11, c17, m16, m17, m18, m19, m21, m51, m52]
  exact hH
/-- samples of the units that are done -/
def zt_Sm (t : Nat) (D : Nat → Nat → Nat → Prop) (Gc Gm : zx_G) : Prop := ∀ p ux uy, D p ux uy → ∀ k, k < 16 → ∃ v, v ≤ ze_top t ∧ Gc 18 (zt_at (256 * p + 16 * (4 * uy) + 4 * ux) k) = nI v ∧ Gm 42 (zt_at (256 * p + 16 * (4 * uy) + 4 * ux) k) = nI v
theorem zt_Sm.mono {t : Nat} {D D' : Nat → Nat → Nat → Prop} {Gc Gm Gc' Gm' : zx_G} (h : zt_Sm t D Gc Gm) (hD : ∀ p ux uy, D' p ux uy → D p ux uy) (c : Gc' 18 = Gc 18) (m : Gm' 42 = Gm 42) : zt_Sm t D' Gc' Gm' := by
  unfold zt_Sm
  rw [c, m]
  exact fun p ux uy h1 => h p ux uy (hD p ux uy h1)
theorem zt_Sm.put {t b : Nat} {D : Nat → Nat → Nat → Prop} {Gc Gm Gc' Gm' : zx_G} (h : zt_Sm t D Gc Gm) (hw : ∀ k, k < 16 → ∃ v, v ≤ ze_top t ∧ Gc' 18 (zt_at b k) = nI v ∧ Gm' 42 (zt_at b k) = nI v) (hc : ∀ j, (∀ k, k < 16 → j ≠ zt_at b k) → Gc' 18 j = Gc 18 j) (hm : ∀ j, (∀ k, k < 16 → j ≠ zt_at b k) → Gm' 42 j = Gm 42 j) : zt_Sm t D Gc' Gm' := by
  intro p ux uy hD k hk
  by_cases c : ∃ k', k' < 16 ∧ zt_at (256 * p + 16 * (4 * uy) + 4 * ux) k = zt_at b k'
  · obtain ⟨k', h1, h2⟩ := c
    rw [h2]
    exact hw k' h1
  · have hn : ∀ k', k' < 16 → zt_at (256 * p + 16 * (4 * uy) + 4 * ux) k ≠ zt_at b k' := fun k' h1 h2 => c ⟨k', h1, h2⟩
    rw [hc _ hn, hm _ hn]
    exact h p ux uy hD k hk
/-- the neighbours of a unit are done -/
def zt_N (D : Nat → Nat → Nat → Prop) (p ux uy : Nat) : Prop := (0 < uy → D p ux (uy - 1)) ∧ (0 < ux → D p (ux - 1) uy) ∧ (0 < ux → 0 < uy → D p (ux - 1) (uy - 1))
theorem zt_near {t p ux uy : Nat} {D : Nat → Nat → Nat → Prop} {Gc Gm : zx_G} (hS : zt_Sm t D Gc Gm) (hN : zt_N D p ux uy) : ∃ (u l : Nat → Nat) (c : Nat), zl_A (Gc 18) p (4 * ux) (4 * uy) u l c ∧ zl_A (Gm 42) p (4 * ux) (4 * uy) u l c ∧ (∀ k, u k ≤ 1023) ∧ (∀ k, l k ≤ 1023) ∧ c ≤ 1023 := by
  have ht := (ze_top_le t).2
  have hu : ∀ k : Nat, ∃ v : Nat, v ≤ 1023 ∧ (0 < 4 * uy → k < 4 → Gc 18 (256 * p + 16 * (4 * uy) + 4 * ux - 16 + k) = nI v ∧ Gm 42 (256 * p + 16 * (4 * uy) + 4 * ux - 16 + k) = nI v) := fun k => by
    by_cases c : 0 < uy ∧ k < 4
    · obtain ⟨v, h1, h2, h3⟩ := hS p ux (uy - 1) (hN.1 c.1) (12 + k) (by omega)
      have e : zt_at (256 * p + 16 * (4 * (uy - 1)) + 4 * ux) (12 + k) = 256 * p + 16 * (4 * uy) + 4 * ux - 16 + k := by unfold zt_at; omega
      rw [e] at h2 h3
      exact ⟨v, by omega, fun _ _ => ⟨h2, h3⟩⟩
    · exact ⟨0, by omega, fun h1 h2 => absurd ⟨by omega, h2⟩ c⟩
  have hl : ∀ k : Nat, ∃ v : Nat, v ≤ 1023 ∧ (0 < 4 * ux → k < 4 → Gc 18 (256 * p + 16 * (4 * uy) + 4 * ux - 1 + 16 * k) = nI v ∧ Gm 42 (256 * p + 16 * (4 * uy) + 4 * ux - 1 + 16 * k) = nI v) := fun k => by
    by_cases c : 0 < ux ∧ k < 4
    · obtain ⟨v, h1, h2, h3⟩ := hS p (ux - 1) uy (hN.2.1 c.1) (4 * k + 3) (by omega)
      have e : zt_at (256 * p + 16 * (4 * uy) + 4 * (ux - 1)) (4 * k + 3) = 256 * p + 16 * (4 * uy) + 4 * ux - 1 + 16 * k := by unfold zt_at; omega
      rw [e] at h2 h3
      exact ⟨v, by omega, fun _ _ => ⟨h2, h3⟩⟩
    · exact ⟨0, by omega, fun h1 h2 => absurd ⟨by omega, h2⟩ c⟩
  have hc : ∃ v : Nat, v ≤ 1023 ∧ (0 < 4 * ux → 0 < 4 * uy → Gc 18 (256 * p + 16 * (4 * uy) + 4 * ux - 17) = nI v ∧ Gm 42 (256 * p + 16 * (4 * uy) + 4 * ux - 17) = nI v) := by
    by_cases c : 0 < ux ∧ 0 < uy
    · obtain ⟨v, h1, h2, h3⟩ := hS p (ux - 1) (uy - 1) (hN.2.2 c.1 c.2) 15 (by omega)
      have e : zt_at (256 * p + 16 * (4 * (uy - 1)) + 4 * (ux - 1)) 15 = 256 * p + 16 * (4 * uy) + 4 * ux - 17 := by unfold zt_at; omega
      rw [e] at h2 h3
      exact ⟨v, by omega, fun _ _ => ⟨h2, h3⟩⟩
    · exact ⟨0, by omega, fun h1 h2 => absurd ⟨by omega, by omega⟩ c⟩
  obtain ⟨u, hu⟩ := Classical.axiomOfChoice hu
  obtain ⟨l, hl⟩ := Classical.axiomOfChoice hl
  obtain ⟨c, hc⟩ := hc
  exact ⟨u, l, c, ⟨fun h1 k hk => ((hu k).2 h1 hk).1, fun h1 k hk => ((hl k).2 h1 hk).1, fun h1 h2 => (hc.2 h1 h2).1⟩, ⟨fun h1 k hk => ((hu k).2 h1 hk).2, fun h1 k hk => ((hl k).2 h1 hk).2, fun h1 h2 => (hc.2 h1 h2).2⟩, fun k => (hu k).1, fun k => (hl k).1, hc.1⟩
/-- the block under way: its number, what it tells, the shares -/
def zt_Bk (mb p ty md : Nat) (Gm : zx_G) : Prop := mb ≤ 16 ∧ Gm 32 37 = nI mb ∧ Gm 45 (4 * mb + 3) = nI ty ∧ Gm 45 (4 * mb + (if p = 0 then 1 else 2)) = nI md ∧ ty ≤ 3 ∧ md ≤ 6
theorem zt_unit {fr to s bt p q ty md t y w h ux uy mb : Nat} {D : Nat → Nat → Nat → Prop} {Gc Gm : zx_G} (hR : zk_R fr to s bt Gc Gm) (hH : zt_Hd q t y w h Gc Gm) (h0 : Gm 32 10 = 0) (hB : zt_Bk mb p ty md Gm) (h6 : md = 6 → 1 ≤ p ∧ Gm 46 (p - 1) = Gc 22 p ∧ D 0 ux uy) (hS : zt_Sm t D Gc Gm) (hN : zt_N D p ux uy) (hx : 4 * ux < w) (hy : 4 * uy < h) (hp : p ≤ 2) (hb : bt + 10000 < 2 ^ 26) :
    ∃ (Gc1 Gm' : zx_G) (bt' : Nat), bt' ≤ bt + 6500 ∧ f_M_piece (nI p) (nI (4 * ux)) (nI (4 * uy)) Gm = some (0, Gm') ∧ ((f_D_read (nI p) (nI q) (nI ty) Gc = some (0, Gc1) ∧ Gm' 32 10 = 8) ∨
      (∃ Gc2 Gc3, f_D_read (nI p) (nI q) (nI ty) Gc = some (1, Gc1) ∧ Gc1 22 = Gc 22 ∧ f_E_make (nI p) (nI (4 * ux)) (nI (4 * uy)) (nI md) (Gc 22 p) Gc1 = some (0, Gc2) ∧ f_T_mend (nI (256 * p + 16 * (4 * uy) + 4 * ux)) Gc2 = some (0, Gc3) ∧ zk_R fr to s bt' Gc3 Gm' ∧ Gm' 32 10 = 0 ∧ zt_Sm t (fun p' ux' uy' => D p' ux' uy' ∨ (p' = p ∧ ux' = ux ∧ uy' = uy)) Gc3 Gm' ∧ ∀ r, r = 11 ∨ r = 17 ∨ r = 19 ∨ r = 20 ∨ r = 22 → Gc3 r = Gc r)) := by
  obtain ⟨⟨hq, ht, hy1, hw1, hw2, hh1, hh2⟩, ⟨e10, e6, e7, e8, e4⟩, ⟨m16, m17, m18, m19, m21⟩, m52, m51⟩ := id hH
  obtain ⟨hmb, b37, bty, bmd, hty, hmd⟩ := id hB
  have hM : zd_M q ty Gm := ⟨m21, m52, m51, mb, hmb, b37, bty⟩
  obtain ⟨u, l, c, hAc, hAm, hu, hl, hc⟩ := zt_near hS hN
  obtain ⟨G1, M1, bt', hbt, hd⟩ := zd_read hR hM h0 hp hq hty hb
  have hrd : ∃ r, f_D_read (nI p) (nI q) (nI ty) Gc = some (r, G1) := hd.elim (fun z => ⟨1, z.1⟩) (fun z => ⟨0, z.1⟩)
  obtain ⟨r, hrd⟩ := hrd
  have hmd1 : f_M_differences (nI p) Gm = some (0, M1) := hd.elim (fun z => z.2.1) (fun z => z.2.1)
  have wc := w_D_read _ _ _ _ hrd
  have wm := w_M_differences _ _ hmd1
  have vm := v_M_differences _ _ hmd1
  obtain ⟨G2, M2, V, f1, f2, f3, f4⟩ := zt_pair (x := 4 * ux) (y := 4 * uy) (md := md) (t := t) (Gc := G1) (Gm := M1) hp (by omega) (by omega) ht hmd (by rw [wc 17 (by decide)]; exact e4) ((vm 32 17 (by decide) (by decide)).trans m17) (by rw [wc 18 (by decide)]; exact hAc) (by rw [wm 42 (by decide)]; exact hAm) hu hl hc (Gc 22 p)
  have we := w_M_edges _ _ _ _ f3
  have ve := v_M_edges _ _ _ _ f3
  obtain ⟨M3, g1, g2, g3, g4⟩ := zt_piece (x := 4 * ux) (y := 4 * uy) (sh := Gc 22 p) (G := M2) hp (by omega) (by omega) ht hmd ((ve 32 17 (by decide) (by decide)).trans ((vm 32 17 (by decide) (by decide)).trans m17)) f4 (fun z => ⟨(h6 z).1, by rw [we 46 (by decide), wm 46 (by decide)]; exact (h6 z).2.1⟩)
  have hpc : f_M_piece (nI p) (nI (4 * ux)) (nI (4 * uy)) Gm = some (0, M3) := by
    have t59 : ∀ s2 : Nat, s2 = (if p = 0 then 1 else 2) → f_M_piece_59 (nI p) (nI (4 * ux)) (nI (4 * uy)) ((4 : Int32) * (M2 32 37)) (nI s2) M2 = some (0, M3) := by
      intro s2 hs
      have hs2 : s2 ≤ 2 := by rw [hs]; split <;> omega
      unfold f_M_piece_59
      rw [ve 32 37 (by decide) (by decide), vm 32 37 (by decide) (by decide), b37, show (4 : Int32) * nI mb = nI (4 * mb) from pk_mul 4 mb, nI_add, zp_gd (zp_in (by omega) (by omega)), zp_lt, zp_lt, zp_lt, zp_cl (by omega), we 45 (by decide), wm 45 (by decide), hs, bmd]
      exact g1
    unfold f_M_piece
    rw [m18, m19, zp_neg (nI_ge hx (by omega)), zp_neg (nI_ge hy (by omega)), zp_pos h0, zp_bd hmd1, show (256 : Int32) * nI p = nI (256 * p) from pk_mul 256 p, zp_bd f3]
    by_cases c0 : p = 0
    · subst c0
      rw [zp_neg (fun z => z rfl)]
      exact t59 1 rfl
    · rw [zp_pos (nI_ne0 (by omega) (by omega))]
      exact t59 2 (by rw [if_neg c0])
  refine ⟨G1, M3, bt', hbt, hpc, ?_⟩
  rcases hd with ⟨d1, -, d3, d4, d5⟩ | ⟨d1, -, d3⟩
  · right
    obtain ⟨G3, k1, k2, k3, k4⟩ := zt_mend (b := 256 * p + 16 * (4 * uy) + 4 * ux) (by omega) G2
    have wk := w_E_make _ _ _ _ _ _ f1
    have hr : ∀ r, r = 11 ∨ r = 17 ∨ r = 19 ∨ r = 20 ∨ r = 22 → G3 r = Gc r := by
      intro r hr
      rcases hr with rfl | rfl | rfl | rfl | rfl
      · rw [k3 11 (by omega), wk 11 (by decide), wc 11 (by decide)]
      · rw [k3 17 (by omega), wk 17 (by decide), wc 17 (by decide)]
      · rw [k3 19 (by omega), wk 19 (by decide), wc 19 (by decide)]
      · rw [k3 20 (by omega), wk 20 (by decide), wc 20 (by decide)]
      · rw [k3 22 (by omega), wk 22 (by decide), wc 22 (by decide)]
    have e17 : G2 17 4 = nI (ze_top t) := by rw [wk 17 (by decide), wc 17 (by decide)]; exact e4
    have e17' : G1 17 4 = nI (ze_top t) := by rw [wc 17 (by decide)]; exact e4
    have hP : ∀ k, k < 16 → zt_Pq md (nI (ze_top t)) (Gc 22 p) (M2 42) (16 * (4 * uy) + 4 * ux) V k = G2 27 k := by
      intro k hk
      rw [f2 k hk, e17']
      by_cases z6 : md = 6
      · have hs : ∀ k, k < 16 → M2 42 (zt_at (16 * (4 * uy) + 4 * ux) k) = G1 18 (zt_at (16 * (4 * uy) + 4 * ux) k) := by
          intro k hk
          obtain ⟨v, -, h1, h2⟩ := hS 0 ux uy (h6 z6).2.2 k hk
          rw [show 256 * 0 + 16 * (4 * uy) + 4 * ux = 16 * (4 * uy) + 4 * ux by omega] at h1 h2
          rw [we 42 (by decide), wm 42 (by decide), wc 18 (by decide), h1, h2]
        unfold zt_Pq
        rw [if_pos z6, if_pos z6, hs k hk, zt_sum_eq hs 16 (by omega)]
      · unfold zt_Pq
        rw [if_neg z6, if_neg z6]
    refine ⟨G2, G3, d1, wc 22 (by decide), f1, k1, ?_, ?_, ?_, hr⟩
    · exact d3.keep2 (by rw [k3 14 (by omega), wk 14 (by decide)]) (by rw [k3 9 (by omega), wk 9 (by decide)]) (by rw [k3 15 (by omega), wk 15 (by decide)]) (by rw [k3 16 (by omega), wk 16 (by decide)]) (by rw [g3 32 (by omega), ve 32 22 (by decide) (by decide)]) (by rw [g3 32 (by omega), ve 32 25 (by decide) (by decide)]) (by rw [g3 32 (by omega), ve 32 26 (by decide) (by decide)]) (by rw [g3 32 (by omega), ve 32 27 (by decide) (by decide)]) (by rw [g3 32 (by omega), ve 32 28 (by decide) (by decide)]) (by rw [g3 32 (by omega), ve 32 29 (by decide) (by decide)]) (by rw [g3 32 (by omega), ve 32 30 (by decide) (by decide)]) (by rw [g3 39 (by omega), we 39 (by decide)]) (by rw [g3 40 (by omega), we 40 (by decide)]) (by rw [g3 41 (by omega), we 41 (by decide)])
    · rw [g3 32 (by omega), ve 32 10 (by decide) (by decide)]
      exact d5
    · have hw : ∀ k, k < 16 → ∃ v, v ≤ ze_top t ∧ G3 18 (zt_at (256 * p + 16 * (4 * uy) + 4 * ux) k) = nI v ∧ M3 42 (zt_at (256 * p + 16 * (4 * uy) + 4 * ux) k) = nI v := by
        intro k hk
        obtain ⟨v, h1, h2⟩ := (zt_within (Gm := Gm) ht m17 (G2 27 k + G2 24 k)).2
        refine ⟨v, h1, by rw [k2 k hk, e17]; exact h2, ?_⟩
        rw [g2 k hk, hP k hk, we 47 (by decide), ← d4 k hk, ← wk 24 (by decide)]
        exact h2
      have hp1 := hS.put (Gc' := G3) (Gm' := M3) (b := 256 * p + 16 * (4 * uy) + 4 * ux) hw (fun j hj => by rw [k4 j hj, wk 18 (by decide), wc 18 (by decide)]) (fun j hj => by rw [g4 j hj, we 42 (by decide), wm 42 (by decide)])
      intro p' ux' uy' hD
      rcases hD with hD | ⟨rfl, rfl, rfl⟩
      · exact hp1 p' ux' uy' hD
      · exact hw
  · left
    refine ⟨d1, ?_⟩
    rw [g3 32 (by omega), ve 32 10 (by decide) (by decide)]
    exact d3
