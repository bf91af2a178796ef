/-! the whole filter -/
def zf_E (t y w h p0 : Nat) (Gc Gm : zx_G) : Prop := (∀ p, p0 ≤ p → p < 1 + 2 * y → zf_ag t p w h (Gc 18) (Gm 42)) ∧ ∀ p a b, p < p0 → a < w → b < h → Gc 18 (256 * p + 16 * b + a) = Gm 42 (256 * p + 16 * b + a)
def zf_Fr (Bc Bm Gc Gm : zx_G) : Prop := (∀ q, q ≠ 18 → q ≠ 31 → Gc q = Bc q) ∧ ∀ q, q ≠ 42 → q ≠ 43 → Gm q = Bm q
theorem zf_run {t y w h lv sg : Nat} {o : Nat → Nat} {Bc Bm : zx_G} (hH : zf_H t y w h lv sg o Bc Bm) (h0 : zf_E t y w h 0 Bc Bm) : ∃ Gc Gm, f_F_run Bc = some (0, Gc) ∧ f_M_filter Bm = some (0, Gm) ∧ zf_Fr Bc Bm Gc Gm ∧ zf_E t y w h (1 + 2 * y) Gc Gm := by
  obtain ⟨⟨ht, hy, hw1, hw, hh1, hh, hlv, hsg⟩, ⟨c6, c7, c8, c9, c12, c13, c17⟩, ⟨m16, m17, m18, m19, m23, m24⟩, hO⟩ := id hH
  have htop := (ze_top_le t).2
  have ep : (1 : Int32) + ((2 : Int32) * nI y) = nI (1 + 2 * y) := by rw [show (2 : Int32) * nI y = nI (2 * y) from pk_mul 2 y]; exact nI_add 1 _
  have loop : ∀ (rem p n1 n2 : Nat) (Gc Gm : zx_G), p + rem = 1 + 2 * y → rem < n1 → rem < n2 → zf_Fr Bc Bm Gc Gm → zf_E t y w h p Gc Gm → ∃ Gc' Gm', f_F_run_15 n1 (nI (zf_sc t)) (nI p) Gc = some (0, Gc') ∧ f_M_filter_2 n2 (nI p) Gm = some (0, Gm') ∧ zf_Fr Bc Bm Gc' Gm' ∧ zf_E t y w h (1 + 2 * y) Gc' Gm' := by
    intro rem
    induction rem with
    | zero =>
      intro p n1 n2 Gc Gm hp hn1 hn2 hF hE
      obtain ⟨n1, rfl⟩ : ∃ k, n1 = k + 1 := ⟨n1 - 1, by omega⟩
      obtain ⟨n2, rfl⟩ : ∃ k, n2 = k + 1 := ⟨n2 - 1, by omega⟩
      have : p = 1 + 2 * y := by omega
      subst this
      refine ⟨Gc, Gm, ?_, ?_, hF, hE⟩
      · rw [f_F_run_15, hF.1 11 (by omega) (by omega), c6, zp_pos (nI_le (by omega) (by omega))]
      · rw [f_M_filter_2, hF.2 32 (by omega) (by omega), m16, ep, zp_pos (nI_le (by omega) (by omega))]
    | succ rem ih =>
      intro p n1 n2 Gc Gm hp hn1 hn2 hF hE
      obtain ⟨n1, rfl⟩ : ∃ k, n1 = k + 1 := ⟨n1 - 1, by omega⟩
      obtain ⟨n2, rfl⟩ : ∃ k, n2 = k + 1 := ⟨n2 - 1, by omega⟩
      have g11 : Gc 11 = Bc 11 := hF.1 11 (by omega) (by omega)
      have g32 : Gm 32 = Bm 32 := hF.2 32 (by omega) (by omega)
      have hH1 : zf_H t y w h lv sg o Gc Gm := hH.keep g11 (hF.1 17 (by omega) (by omega)) (hF.1 19 (by omega) (by omega)) g32 (hF.2 44 (by omega) (by omega))
      -- smoothing
      obtain ⟨Gc1, Gm1, s1, s2, s3, s4⟩ : ∃ Gc1 Gm1, f_F_run_15 (n1 + 1) (nI (zf_sc t)) (nI p) Gc = f_F_run_64 (f_F_run_15 n1) (nI (zf_sc t)) (nI p) Gc1 ∧ f_M_filter_2 (n2 + 1) (nI p) Gm = f_M_filter_79 (f_M_filter_2 n2) (nI p) Gm1 ∧ zf_Fr Bc Bm Gc1 Gm1 ∧ zf_E t y w h p Gc1 Gm1 := by
        rw [f_F_run_15, g11, c6, zp_neg (nI_ge (by omega) (by omega)), c12, f_M_filter_2, g32, m16, ep, zp_neg (nI_ge (by omega) (by omega)), m23]
        by_cases c : lv = 0
        · refine ⟨Gc, Gm, ?_, ?_, hF, hE⟩
          · rw [c, zp_pos (show nI 0 = 0 from rfl)]
          · rw [c, zp_pos (show nI 0 = 0 from rfl)]
        · have cn : ¬ nI lv = 0 := nI_ne0 (by omega) (by omega)
          obtain ⟨Gc1, Gm1, a1, a2, a3⟩ := zf_cols (k2 := f_M_filter_2 n2) hH1 (show p ≤ 2 by omega) (hE.1 p (by omega) (by omega))
          obtain ⟨Gc2, Gm2, b1, b2, b3⟩ := zf_rows (k2 := f_M_filter_2 n2) hH1 (show p ≤ 2 by omega) a3
          refine ⟨Gc2, Gm2, ?_, ?_, ⟨fun q h1 h2 => (b3.1 q h1).trans (hF.1 q h1 h2), fun q h1 h2 => (b3.2.1 q h1).trans (hF.2 q h1 h2)⟩, ?_, ?_⟩
          · rw [zp_neg cn, pk_mul, zp_bd a1, a3.1 11 (by omega), g11, c12, pk_mul, zp_bd b1]
          · rw [zp_neg cn, zp_lt, a2, b2]
          · intro p' h1 h2 x y' h3 h4
            by_cases e : p' = p
            · subst e
              exact b3.2.2.1 x y' h3 h4
            · have h5 := b3.2.2.2 (256 * p' + 16 * y' + x) (by omega)
              rw [h5.1, h5.2]
              exact hE.1 p' h1 h2 x y' h3 h4
          · intro p' a b h1 h2 h3
            have h5 := b3.2.2.2 (256 * p' + 16 * b + a) (by omega)
            rw [h5.1, h5.2]
            exact hE.2 p' a b h1 h2 h3
      have g11' : Gc1 11 = Bc 11 := s3.1 11 (by omega) (by omega)
      have g32' : Gm1 32 = Bm 32 := s3.2 32 (by omega) (by omega)
      -- softening
      obtain ⟨Gc2, Gm2, t1, t2, t3, t4⟩ : ∃ Gc2 Gm2, f_F_run_64 (f_F_run_15 n1) (nI (zf_sc t)) (nI p) Gc1 = f_F_run_15 n1 (nI (zf_sc t)) (nI (p + 1)) Gc2 ∧ f_M_filter_79 (f_M_filter_2 n2) (nI p) Gm1 = f_M_filter_2 n2 (nI (p + 1)) Gm2 ∧ zf_Fr Bc Bm Gc2 Gm2 ∧ zf_E t y w h (p + 1) Gc2 Gm2 := by
        have k88 : ∀ H, f_F_run_88 (f_F_run_15 n1) (nI (zf_sc t)) (nI p) H = f_F_run_15 n1 (nI (zf_sc t)) (nI (p + 1)) H := fun H => by
          unfold f_F_run_88
          rw [zp_lt, nI_1]
        have k95 : ∀ H, f_M_filter_95 (f_M_filter_2 n2) (nI p) H = f_M_filter_2 n2 (nI (p + 1)) H := fun H => by
          unfold f_M_filter_95
          rw [zp_lt, nI_1]
        unfold f_F_run_64 f_M_filter_79
        rw [g11', c13, g32', m24]
        by_cases c : sg = 0
        · refine ⟨Gc1, Gm1, ?_, ?_, s3, fun p' h1 h2 => s4.1 p' (by omega) h2, fun p' a b h1 h2 h3 => ?_⟩
          · rw [c, zp_pos (show nI 0 = 0 from rfl), k88]
          · rw [c, zp_pos (show nI 0 = 0 from rfl), k95]
          · by_cases e : p' = p
            · subst e
              obtain ⟨v, -, h4, h5⟩ := s4.1 p' (by omega) (by omega) a b (by omega) (by omega)
              rw [h4, h5]
            · exact s4.2 p' a b (by omega) h2 h3
        · have cn : ¬ nI sg = 0 := nI_ne0 (by omega) (by omega)
          have hag := s4.1 p (by omega) (by omega)
          obtain ⟨Gc2, a1, a2, a3, a4⟩ := zf_softC (p := p) (s := nI (sg * zf_sc t)) (B := Gc1) (by omega) hw hh (by rw [g11']; exact c7) (by rw [g11']; exact c8)
          obtain ⟨Gm2, b1, b2, b3, b4⟩ := zf_softM (p := p) (t := t) (sg := sg) (B := Gm1) (by omega) hw hh ht hsg (by rw [g32']; exact m17) (by rw [g32']; exact m18) (by rw [g32']; exact m19) (by rw [g32']; exact m24) (fun a b h1 h2 => by
            obtain ⟨v, h3, -, h5⟩ := hag a b (by omega) (by omega)
            exact ⟨v, by omega, h5⟩)
          refine ⟨Gc2, Gm2, ?_, ?_, ⟨fun q h1 h2 => (a4 q h1 h2).trans (s3.1 q h1 h2), fun q h1 h2 => (b4 q h1 h2).trans (s3.2 q h1 h2)⟩, fun p' h1 h2 x y' h3 h4 => ?_, fun p' a b h1 h2 h3 => ?_⟩
          · rw [zp_neg cn, pk_mul, zp_bd a1, k88]
          · rw [zp_neg cn, show (256 : Int32) * nI p = nI (256 * p) from pk_mul 256 p, zp_bd b1, k95]
          · rw [a3 _ (fun x'' y'' h5 h6 => by omega), b3 _ (fun x'' y'' h5 h6 => by omega)]
            exact s4.1 p' (by omega) h2 x y' h3 h4
          · by_cases e : p' = p
            · subst e
              rw [a2 a b h2 h3, b2 a b h2 h3]
              exact zf_soft_eq (fun a' b' h4 h5 => by
                obtain ⟨v, -, h6, h7⟩ := hag a' b' (by omega) (by omega)
                show Gc1 18 _ = Gm1 42 _
                rw [h6, h7]) h2 h3
            · rw [a3 _ (fun x'' y'' h5 h6 => by omega), b3 _ (fun x'' y'' h5 h6 => by omega)]
              exact s4.2 p' a b (by omega) h2 h3
      obtain ⟨Gc', Gm', e1, e2, e3⟩ := ih (p + 1) n1 n2 Gc2 Gm2 (by omega) (by omega) (by omega) t3 t4
      exact ⟨Gc', Gm', (s1.trans t1).trans e1, (s2.trans t2).trans e2, e3⟩
  obtain ⟨Gc', Gm', e1, e2, e3, e4⟩ := loop (1 + 2 * y) 0 2048 2048 Bc Bm (by omega) (by omega) (by omega) ⟨fun _ _ _ => rfl, fun _ _ _ => rfl⟩ h0
  refine ⟨Gc', Gm', ?_, ?_, e3, e4⟩
  · have esc : (1 : Int32) <<< ((nI (8 + 2 * t) - (8 : Int32)) &&& 31) = nI (zf_sc t) := by
      have h : t = 0 ∨ t = 1 := by omega
      rcases h with rfl | rfl <;> decide +kernel
    unfold f_F_run
    rw [c9, esc, zp_lt, zp_lt]
    exact e1
  · unfold f_M_filter
    rw [zp_lt]
    exact e2
