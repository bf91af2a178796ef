/-! decode: all of it -/
theorem zz_t51 : ∀ k, k < 16 → zx_G0 51 k = zx_tab1 k := by decide +kernel
theorem zz_t52 : ∀ k, k < 16 → zx_G0 52 k = zx_tab2 k := by decide +kernel
theorem zz_K {L n dl : Nat} {Gc Gm : zx_G} (h : zb_Z L n dl Gc Gm) : zh_K Gc Gm := by
  obtain ⟨hF, hR, hD, ⟨l1, l2, l3, l4, l5, l6⟩, ⟨k8, k9, f8, e8, f9, e9, w1, w2, w3, w4, w5, w6, w7, w8, w9, w10, w11, w12, w13⟩, h0⟩ := h
  have hn := hR.1
  have m34 : ∀ k f : Nat, k < n → f < 240 → Gc 4 k = nI f → Gm 34 k = nI f := fun k f hk hf h => by
    obtain ⟨ty, f', e', l', t1, t2, t3, t4, t5, t6, g3, g36, g4, g34, -⟩ := hR.2.2.2 k hk
    have hL := hF.1
    have : f' = f := zh_inj (by omega) (by omega) g4 h
    rw [← this]; exact g34
  refine ⟨⟨k8, f8, by omega, by omega, w3, by rw [l4]; exact w3, w5, m34 k8 f8 w1 (by omega) w5⟩, ⟨k9, f9, by omega, by omega, w4, by rw [l5]; exact w4, w9, m34 k9 f9 w2 (by omega) w9⟩, ?_, hF.2.2.1⟩
  rcases w13 with z | ⟨k10, f10, e10, v10, z1, z2, z3, z4, z5, z6, z7⟩
  · exact Or.inl ⟨z, by rw [l6]; exact z⟩
  · exact Or.inr ⟨k10, f10, v10, by omega, by omega, z2, by rw [l6]; exact z2, z3, m34 k10 f10 z1 (by omega) z3, z7, by rw [← hF.2.2.1 f10 (by omega)]; exact z7⟩
theorem zz_head {L n dl : Nat} {Gc Gm : zx_G} (h : zb_Z L n dl Gc Gm) : ∃ (Gc' Gm' : zx_G) (v : Int32), f_H_read Gc = some (v, Gc') ∧ f_M_units Gm = some (0, Gm') ∧ Gm' 32 10 = v ∧ (v = 0 → zu_E dl Gc Gm Gc' Gm') := by
  obtain ⟨-, -, ⟨d1, d2, d3, d4⟩, -, -, h0⟩ := id h
  have hK := zz_K h
  obtain ⟨C1, hC1⟩ : ∃ C1, C1 = zx_up (zx_up (zx_up (zx_up (zx_up Gc 11 3 (0 : Int32)) 11 4 (0 : Int32)) 12 1 (nI 0)) 12 2 (nI dl)) 12 3 (0 : Int32) := ⟨_, rfl⟩
  have cr : ∀ q, q ≠ 11 → q ≠ 12 → C1 q = Gc q := fun q a b => by rw [hC1, zp_ur b, zp_ur b, zp_ur b, zp_ur a, zp_ur a]
  have hS : zu_S dl 0 0 Gc Gm C1 Gm := by
    refine ⟨⟨by omega, d1, by rw [hC1, zp_uk (by omega), zp_uk (by omega), zp_us], by rw [hC1, zp_uk (by omega), zp_us], d3, by rw [cr 9 (by omega) (by omega)]; exact d4⟩, h0, hK.keep (cr 1 (by omega) (by omega)) (cr 4 (by omega) (by omega)) (cr 8 (by omega) (by omega)) rfl rfl rfl rfl rfl, ⟨fun q a b _ => cr q a b, fun _ _ => rfl, fun _ _ => rfl⟩, ?_, by omega, ?_, fun z => absurd z (by omega)⟩
    · rw [hC1, zp_ur (by omega), zp_ur (by omega), zp_ur (by omega), zp_us]
    · rw [hC1, zp_ur (by omega), zp_ur (by omega), zp_ur (by omega), zp_uk (by omega), zp_us]; rfl
  obtain ⟨Gc', Gm', v, a1, a2, a3, a4⟩ := zu_loop 200 0 2048 2048 0 0 C1 Gm (by omega) (by omega) (by omega) (by omega) hS
  refine ⟨Gc', Gm', v, ?_, ?_, a3, a4⟩
  · have eO : f_U_open_12 (0 : Int32) (nI dl) (zx_up (zx_up Gc 11 3 (0 : Int32)) 11 4 (0 : Int32)) = some (0, C1) := by
      have e2 : zx_mmin (nI dl) (200 : Int32) = nI dl := by
        unfold zx_mmin
        rw [if_neg (show ¬ (200 : Int32) < nI dl from nI_nlt (a := 200) d1 (by omega))]
      unfold f_U_open_12
      rw [zp_lt, zp_lt, zp_lt, e2, show zx_mmax (0 : Int32) (0 : Int32) = nI 0 from rfl, hC1]
    unfold f_H_read
    rw [zp_gd (by decide), zp_lt, zp_gd (by decide), zp_lt, zp_ur (by omega), zp_ur (by omega), d2, zp_bd eO, zp_lt]
    exact a1
  · unfold f_M_units
    rw [zp_lt, zp_lt, zp_lt]
    exact a2
/-- the picture, the class's rows apart from the reference's -/
def zz_pic (Gc Gm : zx_G) : Prop := ∃ y t w h : Nat, y ≤ 1 ∧ t ≤ 1 ∧ 1 ≤ w ∧ w ≤ 16 ∧ 1 ≤ h ∧ h ≤ 16 ∧ Gm 32 16 = nI y ∧ Gc 11 6 = nI (1 + 2 * y) ∧ Gm 32 17 = nI t ∧ Gc 11 9 = nI (8 + 2 * t) ∧ Gm 32 18 = nI w ∧ Gc 11 7 = nI w ∧ Gm 32 19 = nI h ∧ Gc 11 8 = nI h ∧
  (∀ p b a, p < 1 + 2 * y → b < h → a < w → Gc 18 (256 * p + 16 * b + a) = Gm 42 (256 * p + 16 * b + a)) ∧
  (∀ b a, b < h → a < w → ∃ o, o < 16 ∧ Gc 19 (b / 4 * 4 + a / 4) = nI o ∧ Gm 44 (b / 4 * 4 + a / 4) = nI (o + 1) ∧ ∀ v, v < 4 → Gc 20 (4 * o + v) = Gm 45 (4 * (o + 1) + v)) ∧
  Gc 17 3 = Gm 32 37 ∧ Gc 14 9 = Gm 32 30 ∧ Gc 14 8 = Gm 32 29 ∧ (∀ c i, c < 19 → nI i < zx_tab0 c → i < 16 → Gc 15 (16 * c + i) = Gm 40 (16 * c + i))
/-- the picture is read and filtered -/
theorem zz_rest {L n dl : Nat} {Bc Bm Gc Gm : zx_G} (hZ : zb_Z L n dl Bc Bm) (h51 : Bm 51 = zx_G0 51) (h52 : Bm 52 = zx_G0 52) (hE : zu_E dl Bc Bm Gc Gm) : ∃ (Gc' Gm' : zx_G), f_M_readTile Gm = some (0, Gm') ∧ ((f_T_read Gc = some (8, Gc') ∧ Gm' 32 10 = 8) ∨ (f_T_read Gc = some (0, Gc') ∧ Gm' 32 10 = 0 ∧ ∃ Gc2 Gm2, f_F_run Gc' = some (0, Gc2) ∧ f_M_filter Gm' = some (0, Gm2) ∧ Gm2 32 10 = 0 ∧ zz_pic Gc2 Gm2)) := by
  obtain ⟨hFm, h0, ⟨y, t, w, h, so, r1, r2, r3, r4, r5, r6, r7, x5, x6, x7, x8, x9, m16, m17, m18, m19, m20⟩, q, s, lv, sg, fr, to, b1, b2, b3, b4, b5, b6, z1, z2, z3, z4, z5, z6, z7, z8, z9, z10, z11, z12⟩ := hE
  obtain ⟨-, -, ⟨d1, d2, d3, d4⟩, -, -, -⟩ := hZ
  have hR0 : zt_R0 fr to s q t y w h Gc Gm := by
    refine ⟨⟨b1, r2, r1, r3, r4, r5, r6, b5, by omega, b2⟩, ⟨z1, x6, x7, x8, x9, z9, z11, z3⟩, ⟨m16, m17, m18, m19, z2, z10, z12, z4, h0⟩, ?_, ?_, ?_⟩
    · rw [hFm.2.1 52 (by omega), h52]; exact zz_t52
    · rw [hFm.2.1 51 (by omega), h51]; exact zz_t51
    · intro k hk
      rw [hFm.1 9 (by omega) (by omega) (by omega), hFm.2.1 39 (by omega)]
      exact (d4 k (by omega)).1
  obtain ⟨C1, M1, a1, a2⟩ := zt_read hR0
  refine ⟨C1, M1, a1, ?_⟩
  rcases a2 with ⟨bt, nb, a2, hY⟩ | ⟨a2, a3⟩
  · right
    obtain ⟨hR, h10, hH, hS, ⟨n1, n2, n3⟩, hO1, hO2⟩ := hY
    obtain ⟨-, ⟨c10, c6, c7, c8, c4⟩, ⟨k16, k17, k18, k19, k21⟩, -⟩ := id hH
    have wT := w_T_read _ a2
    have vM := v_M_readTile _ a1
    -- owners
    have hex : ∀ u : Nat, ∃ o : Nat, (4 * (u % 4) < w → 4 * (u / 4) < h → o < nb ∧ C1 19 u = nI o ∧ M1 44 u = nI (o + 1)) := fun u => by
      by_cases c : 4 * (u % 4) < w ∧ 4 * (u / 4) < h
      · obtain ⟨o, o1, o2, o3⟩ := hO1 (u % 4) (u / 4) c.1 c.2 (by have := (zt_zinv (u % 4) (by omega) (u / 4) (by omega)).2.2; exact this)
        rw [show 4 * (u / 4) + u % 4 = u by omega] at o2 o3
        exact ⟨o, fun _ _ => ⟨o1, o2, o3⟩⟩
      · exact ⟨0, fun x1 x2 => absurd ⟨x1, x2⟩ c⟩
    obtain ⟨o, ho⟩ := Classical.axiomOfChoice hex
    have ho' : ∀ ux uy, 4 * ux < w → 4 * uy < h → o (4 * uy + ux) < nb ∧ C1 19 (4 * uy + ux) = nI (o (4 * uy + ux)) ∧ M1 44 (4 * uy + ux) = nI (o (4 * uy + ux) + 1) := fun ux uy h1 h2 => ho (4 * uy + ux) (by omega) (by omega)
    have e11 : C1 11 = Gc 11 := wT 11 (by decide)
    have hfH : zf_H t y w h lv sg o C1 M1 := by
      refine ⟨⟨r2, r1, r3, r4, r5, r6, by omega, by omega⟩, ⟨c6, c7, c8, by rw [e11]; exact x9, by rw [e11]; exact z5, by rw [e11]; exact z7, c4⟩, ⟨k16, k17, k18, k19, (vM 32 23 (by decide) (by decide)).trans z6, (vM 32 24 (by decide) (by decide)).trans z8⟩, fun ux uy h1 h2 => ?_⟩
      obtain ⟨o1, o2, o3⟩ := ho' ux uy h1 h2
      exact ⟨by omega, o2, o3⟩
    have hfE : zf_E t y w h 0 C1 M1 := by
      refine ⟨fun p hp hpy x yy hx hyy => ?_, fun p a b hp => absurd hp (by omega)⟩
      obtain ⟨v, v1, v2, v3⟩ := hS p (x / 4) (yy / 4) ⟨hpy, hx, hyy, (zt_zinv (x / 4) (by omega) (yy / 4) (by omega)).2.2⟩ (4 * (yy % 4) + x % 4) (by omega)
      have e : zt_at (256 * p + 16 * (4 * (yy / 4)) + 4 * (x / 4)) (4 * (yy % 4) + x % 4) = 256 * p + 16 * yy + x := by unfold zt_at; omega
      rw [e] at v2 v3
      exact ⟨v, v1, v2, v3⟩
    obtain ⟨C2, M2, f1, f2, ⟨f3, f4⟩, f5⟩ := zf_run hfH hfE
    refine ⟨a2, h10, C2, M2, f1, f2, by rw [f4 32 (by omega) (by omega)]; exact h10, y, t, w, h, r1, r2, r3, r4, r5, r6, ?_, ?_, ?_, ?_, ?_, ?_, ?_, ?_, fun p b a hp hb ha => f5.2 p a b hp ha hb, fun b a hb ha => ?_, ?_, ?_, ?_, fun c i hc hi hi16 => ?_⟩
    · rw [f4 32 (by omega) (by omega)]; exact k16
    · rw [f3 11 (by omega) (by omega)]; exact c6
    · rw [f4 32 (by omega) (by omega)]; exact k17
    · rw [f3 11 (by omega) (by omega), e11]; exact x9
    · rw [f4 32 (by omega) (by omega)]; exact k18
    · rw [f3 11 (by omega) (by omega)]; exact c7
    · rw [f4 32 (by omega) (by omega)]; exact k19
    · rw [f3 11 (by omega) (by omega)]; exact c8
    · obtain ⟨o1, o2, o3⟩ := ho' (a / 4) (b / 4) (by omega) (by omega)
      rw [show b / 4 * 4 + a / 4 = 4 * (b / 4) + a / 4 by omega, f3 19 (by omega) (by omega), f4 44 (by omega) (by omega), f3 20 (by omega) (by omega), f4 45 (by omega) (by omega)]
      exact ⟨o (4 * (b / 4) + a / 4), by omega, o2, o3, fun v hv => hO2 _ o1 v hv⟩
    · rw [f3 17 (by omega) (by omega), f4 32 (by omega) (by omega), n2, n3]
    · obtain ⟨-, -, rg, vl, ⟨v1, v2, v3, v4, v5, v6, v7⟩, -⟩ := hR
      rw [f3 14 (by omega) (by omega), f4 32 (by omega) (by omega)]
      exact v7
    · obtain ⟨-, -, rg, vl, ⟨v1, v2, v3, v4, v5, v6, v7⟩, -⟩ := hR
      rw [f3 14 (by omega) (by omega), f4 32 (by omega) (by omega), v5, v6]
    · obtain ⟨-, ⟨-, -, -, hT, -⟩, -⟩ := hR
      obtain ⟨g1, g2, g3⟩ := zx_cnt_tab c hc
      rw [g1] at hi
      have hi' : i < zx_cnt c := (nI_ltI (by omega) (by omega)).mp hi
      obtain ⟨v, -, v2, v3, -⟩ := hT c i hc hi'
      rw [f3 15 (by omega) (by omega), f4 40 (by omega) (by omega), v2, v3]
  · left
    exact ⟨a2, a3⟩
/-- a failed reference goes to its end -/
theorem zz_dead {v : Int32} {G : zx_G} (h : G 32 10 = v) (hv : ¬ v = 0) : f_M_decode_104 G = some (v, zx_up G 32 33 (0 : Int32)) ∧ f_M_decode_115 G = some (v, zx_up G 32 33 (0 : Int32)) ∧ f_M_decode_126 G = some (v, zx_up G 32 33 (0 : Int32)) ∧ f_M_decode_137 G = some (v, zx_up G 32 33 (0 : Int32)) := by
  have hn : ¬ G 32 10 = 0 := by rw [h]; exact hv
  have e137 : f_M_decode_137 G = some (v, zx_up G 32 33 (0 : Int32)) := by
    unfold f_M_decode_137 f_M_decode_150
    rw [zp_pos hn, zp_gd (by decide), zp_lt, zp_uk (by omega), h]
  have e126 : f_M_decode_126 G = some (v, zx_up G 32 33 (0 : Int32)) := by
    unfold f_M_decode_126
    rw [zp_pos hn, e137]
  have e115 : f_M_decode_115 G = some (v, zx_up G 32 33 (0 : Int32)) := by
    unfold f_M_decode_115
    rw [zp_pos hn, e126]
  refine ⟨?_, e115, e126, e137⟩
  unfold f_M_decode_104
  rw [zp_pos hn, e115]
theorem zz_cls {x : Int32} {G : zx_G} (hx : ¬ x = 0) : f_S_decode_33 x G = some (x, G) ∧ f_S_decode_45 x G = some (x, G) ∧ f_S_decode_57 x G = some (x, G) := by
  have e57 : f_S_decode_57 x G = some (x, G) := by
    unfold f_S_decode_57
    rw [zp_pos hx]
    rfl
  have e45 : f_S_decode_45 x G = some (x, G) := by
    unfold f_S_decode_45
    rw [zp_pos hx, e57]
  refine ⟨?_, e45, e57⟩
  unfold f_S_decode_33
  rw [zp_pos hx, e45]
theorem zz_decode {L : Nat} {Gc Gm : zx_G} (hF : zb_F L Gc Gm) (h8 : Gc 0 8 = nI L) (h51 : Gm 51 = zx_G0 51) (h52 : Gm 52 = zx_G0 52) : ∃ (Gc' Gm' : zx_G) (v : Int32), f_S_decode Gc = some (v, Gc') ∧ f_M_decode Gm = some (v, Gm') ∧ ((Gc' 0 9 = 0 ∧ Gm' 32 33 = 0) ∨ (Gc' 0 9 = 1 ∧ Gm' 32 33 = 1 ∧ zz_pic Gc' Gm')) := by
  obtain ⟨C0, hC0⟩ : ∃ C0, C0 = zx_up Gc 0 9 (0 : Int32) := ⟨_, rfl⟩
  obtain ⟨M0, hM0⟩ : ∃ M0, M0 = zx_up Gm 32 10 (0 : Int32) := ⟨_, rfl⟩
  have hF0 : zb_F L C0 M0 := hF.keep (by rw [hC0, zp_ur (by omega)]) (by rw [hM0, zp_uk (by omega)]) (by rw [hM0, zp_ur (by omega)])
  have h00 : M0 32 10 = 0 := by rw [hM0, zp_us]
  have c08 : C0 0 8 = nI L := by rw [hC0, zp_uk (by omega)]; exact h8
  have c09 : C0 0 9 = 0 := by rw [hC0, zp_us]
  obtain ⟨C1, M1, a1, a2⟩ := zb_read hF0 h00
  have hbr : ∃ r, f_B_read (nI L) C0 = some (r, C1) := by
    rcases a2 with ⟨n', a2, -⟩ | ⟨a2, -⟩
    · exact ⟨0, a2⟩
    · exact ⟨1, a2⟩
  obtain ⟨rb, hbr⟩ := hbr
  have wB := w_B_read _ _ hbr
  have c108 : C1 0 8 = nI L := by rw [wB 0 (by decide)]; exact c08
  have c109 : C1 0 9 = 0 := by rw [wB 0 (by decide)]; exact c09
  have pC : f_S_decode Gc = zx_bd (f_B_read (nI L) C0) fun r_4 G_3 => zx_if (¬ r_4 = 0) (f_S_decode_33 r_4 G_3) (zx_bd (f_I_find (G_3 0 8) G_3) fun r_9 G_8 => f_S_decode_33 r_9 G_8) := by
    unfold f_S_decode
    rw [zp_gd (by decide), zp_lt, ← hC0, c08]
    rfl
  have pM : f_M_decode Gm = zx_if (¬ (M1 32 10) = 0) (f_M_decode_20 M1) (zx_bd (f_M_brand M1) fun _ G_6 => f_M_decode_20 G_6) := by
    unfold f_M_decode
    rw [zp_lt, ← hM0, zp_bd a1]
  rcases a2 with ⟨n', a2, hR1, h10, hF1⟩ | ⟨a2, h11⟩
  rotate_left
  · -- the boxes fail
    have d1 : ¬ M1 32 10 = 0 := by rw [h11]; decide
    refine ⟨C1, zx_up M1 32 33 (0 : Int32), 1, ?_, ?_, Or.inl ⟨c109, zp_us⟩⟩
    · rw [pC, zp_bd a2, zp_pos (by decide)]
      exact (zz_cls (by decide)).1
    · rw [pM, zp_pos d1]
      unfold f_M_decode_20 f_M_decode_38 f_M_decode_54
      rw [zp_pos d1, zp_lt, zp_pos (by decide), zp_lt, zp_pos d1, zb_fin68 d1]
      exact (zz_dead h11 (by decide)).1
  -- the item
  obtain ⟨C2, M2, v2, b1, b2, b3, b4⟩ := zb_find hF1 hR1 h10
  have wI := w_I_find _ _ b1
  have c209 : C2 0 9 = 0 := by rw [wI 0 (by decide)]; exact c109
  have pC2 : f_S_decode Gc = f_S_decode_33 v2 C2 := by
    rw [pC, zp_bd a2, zp_neg (show ¬ ¬ (0 : Int32) = 0 from fun z => z rfl), c108, zp_bd b1]
  have pM2 : f_M_decode Gm = f_M_decode_104 M2 := by
    rw [pM, zp_neg (show ¬ ¬ M1 32 10 = 0 from fun z => z h10), b2]
  by_cases q2 : v2 = 0
  rotate_left
  · exact ⟨C2, zx_up M2 32 33 (0 : Int32), v2, pC2.trans (zz_cls q2).1, pM2.trans (zz_dead b3 q2).1, Or.inl ⟨c209, zp_us⟩⟩
  obtain ⟨⟨dl, hZ⟩, hfr⟩ := b4 q2
  -- the rows that stay
  have m51 : M2 51 = zx_G0 51 ∧ M2 52 = zx_G0 52 := by
    have w1 := w_M_split _ a1
    have e51 : M1 51 = Gm 51 := by rw [w1 51 (by decide), hM0, zp_ur (by omega)]
    have e52 : M1 52 = Gm 52 := by rw [w1 52 (by decide), hM0, zp_ur (by omega)]
    exact ⟨by rw [hfr 51 (by omega) (by omega), e51]; exact h51, by rw [hfr 52 (by omega) (by omega), e52]; exact h52⟩
  -- the header
  obtain ⟨C3, M3, v3, d1, d2, d3, d4⟩ := zz_head hZ
  have wH := w_H_read _ d1
  have c309 : C3 0 9 = 0 := by rw [wH 0 (by decide)]; exact c209
  have h210 : M2 32 10 = 0 := b3.trans q2
  have pC3 : f_S_decode Gc = f_S_decode_45 v3 C3 := by
    rw [pC2, q2]
    unfold f_S_decode_33
    rw [zp_neg (show ¬ ¬ (0 : Int32) = 0 from fun z => z rfl), zp_bd d1, zp_lt]
  have pM3 : f_M_decode Gm = f_M_decode_115 M3 := by
    rw [pM2]
    unfold f_M_decode_104
    rw [zp_neg (show ¬ ¬ M2 32 10 = 0 from fun z => z h210), zp_bd d2]
  by_cases q3 : v3 = 0
  rotate_left
  · exact ⟨C3, zx_up M3 32 33 (0 : Int32), v3, pC3.trans (zz_cls q3).2.1, pM3.trans (zz_dead d3 q3).2.1, Or.inl ⟨c309, zp_us⟩⟩
  obtain ⟨C4, M4, e1, e2⟩ := zz_rest hZ m51.1 m51.2 (d4 q3)
  have h310 : M3 32 10 = 0 := d3.trans q3
  have pM4 : f_M_decode Gm = f_M_decode_126 M4 := by
    rw [pM3]
    unfold f_M_decode_115
    rw [zp_neg (show ¬ ¬ M3 32 10 = 0 from fun z => z h310), zp_bd e1]
  rcases e2 with ⟨e2, e3⟩ | ⟨e2, e3, C5, M5, g1, g2, g3, g4⟩
  · have wT := w_T_read _ e2
    refine ⟨C4, zx_up M4 32 33 (0 : Int32), 8, ?_, pM4.trans (zz_dead e3 (by decide)).2.2.1, Or.inl ⟨by rw [wT 0 (by decide)]; exact c309, zp_us⟩⟩
    rw [pC3, q3]
    unfold f_S_decode_45
    rw [zp_neg (show ¬ ¬ (0 : Int32) = 0 from fun z => z rfl), zp_bd e2, zp_lt]
    exact (zz_cls (by decide)).2.2
  · refine ⟨zx_up C5 0 9 (1 : Int32), zx_up M5 32 33 (1 : Int32), 0, ?_, ?_, Or.inr ⟨zp_us, zp_us, ?_⟩⟩
    · rw [pC3, q3]
      unfold f_S_decode_45 f_S_decode_57
      rw [zp_neg (show ¬ ¬ (0 : Int32) = 0 from fun z => z rfl), zp_bd e2, zp_lt, zp_neg (show ¬ ¬ (0 : Int32) = 0 from fun z => z rfl), zp_bd g1, zp_gd (by decide), zp_lt]
      rfl
    · rw [pM4]
      unfold f_M_decode_126 f_M_decode_137 f_M_decode_150
      rw [zp_neg (show ¬ ¬ M4 32 10 = 0 from fun z => z e3), zp_bd g2, zp_neg (show ¬ ¬ M5 32 10 = 0 from fun z => z g3), zp_gd (by decide), zp_lt, zp_uk (by omega), g3]
    · obtain ⟨y, t, w, h, r⟩ := g4
      refine ⟨y, t, w, h, ?_⟩
      rw [zp_uk (by omega), zp_uk (by omega), zp_uk (by omega), zp_uk (by omega), zp_uk (by omega), zp_uk (by omega), zp_uk (by omega), zp_ur (by omega), zp_ur (by omega), zp_ur (by omega), zp_ur (by omega), zp_ur (by omega), zp_ur (by omega), zp_ur (by omega), zp_ur (by omega), zp_ur (by omega), zp_ur (by omega), zp_ur (by omega)]
      exact r
/-- what decode answers, and what it leaves -/
theorem zo_decode : zp_ok zi_Inv f_S_decode f_M_decode := by
  intro G hI
  obtain ⟨⟨n, f1, f2, f3, f4, f5⟩, -, h51, h52⟩ := hI
  have hF : ∀ M : zx_G, M 32 0 = G 32 0 → M 33 = G 33 → zb_F n G M := fun M e0 e33 => ⟨f1, by rw [e0]; exact f3, by rw [e33]; exact f4, by rw [e33]; exact f5⟩
  obtain ⟨G1, M1, r, a1, -, -⟩ := zz_decode (hF G rfl rfl) f2 h51 h52
  have wS := w_S_decode _ a1
  have vS := v_S_decode _ a1
  have e32 : G1 32 = G 32 := wS 32 (by decide)
  have e33 : G1 33 = G 33 := wS 33 (by decide)
  have e51 : G1 51 = G 51 := wS 51 (by decide)
  have e52 : G1 52 = G 52 := wS 52 (by decide)
  obtain ⟨G1', G2, r', b1, b2, b3⟩ := zz_decode (hF G1 (by rw [e32]) e33) f2 (e51.trans h51) (e52.trans h52)
  have hj : some (r', G1') = some (r, G1) := b1.symm.trans a1
  injection hj with hj
  injection hj with hr hG
  subst hr
  subst hG
  have wM := w_M_decode _ b2
  have vM := v_M_decode _ b2
  refine ⟨r', G1', G2, a1, b2, ⟨n, f1, ?_, ?_, ?_, ?_⟩, ?_, ?_, ?_⟩
  · rw [wM 0 (by decide), vS 0 8 (by decide) (by decide)]; exact f2
  · rw [vM 32 0 (by decide) (by decide), e32]; exact f3
  · rw [wM 1 (by decide), wM 33 (by decide), wS 1 (by decide), e33]; exact f4
  · rw [wM 33 (by decide), e33]; exact f5
  · have e0 : G2 0 = G1' 0 := wM 0 (by decide)
    rcases b3 with ⟨c1, c2⟩ | ⟨c1, c2, y, t, w, h, c3⟩
    · exact ⟨by rw [e0, c1, c2], Or.inl (by rw [e0]; exact c1)⟩
    · refine ⟨by rw [e0, c1, c2], Or.inr ⟨by rw [e0]; exact c1, y, t, w, h, ?_⟩⟩
      rw [wM 11 (by decide), wM 14 (by decide), wM 15 (by decide), wM 17 (by decide), wM 18 (by decide), wM 19 (by decide), wM 20 (by decide)]
      exact c3
  · rw [wM 51 (by decide), e51]; exact h51
  · rw [wM 52 (by decide), e52]; exact h52
