/-! the item: found on both sides alike -/
/-- the links as they are when whole -/
def zb_W (n : Nat) (Gc : zx_G) : Prop := ∃ k8 k9 f8 e8 f9 e9, k8 < n ∧ k9 < n ∧ Gc 8 8 = nI k8 ∧ Gc 8 9 = nI k9 ∧ Gc 4 k8 = nI f8 ∧ Gc 5 k8 = nI e8 ∧ f8 + 2 ≤ e8 ∧ e8 ≤ 240 ∧ Gc 4 k9 = nI f9 ∧ Gc 5 k9 = nI e9 ∧ f9 + 1 ≤ e9 ∧ e9 ≤ 240 ∧ (Gc 8 10 = -1 ∨ ∃ k10 f10 e10 v10, k10 < n ∧ Gc 8 10 = nI k10 ∧ Gc 4 k10 = nI f10 ∧ Gc 5 k10 = nI e10 ∧ f10 + v10 < e10 ∧ e10 ≤ 240 ∧ Gc 1 f10 = nI v10)
theorem zb_links {L n nm en : Nat} {hd : Int32} {Bc Bm : zx_G} (hF : zb_F L Bc Bm) (hR : zb_R L n Bc Bm) (h6 : Bc 8 6 = nI nm) (h7 : Bc 8 7 = hd) (hnm : nm < 256) : ∀ (rem i n1 n2 at_ : Nat) (Gc Gm : zx_G), en - at_ ≤ rem → rem < n1 → rem + 1 < n2 → 2 * i ≤ at_ → zb_Q n at_ en Bc Bm Gc Gm →
    ∃ (Gc' Gm' : zx_G) (v : Int32), f_I_readLinks_42 n1 (nI i) Gc = some (v, Gc') ∧ f_M_properties_35 n2 hd (nI nm) Gm = some (0, Gm') ∧ Gm' 32 10 = v ∧ (v = 0 → zb_K2 Bc Bm Gc' Gm' ∧ zb_L n Gc' Gm' ∧ zb_W n Gc') := by
  intro rem
  induction rem with
  | zero =>
    intro i n1 n2 at_ Gc Gm hr hn1 hn2 hi hQ
    obtain ⟨n1, rfl⟩ : ∃ k, n1 = k + 1 := ⟨n1 - 1, by omega⟩
    obtain ⟨n2, rfl⟩ : ∃ k, n2 = k + 1 := ⟨n2 - 1, by omega⟩
    obtain ⟨hK, ⟨u1, u2, u3, u4, u5, u6⟩, h0, hL⟩ := id hQ
    obtain ⟨Gm', v, a1, a2, a3, a4⟩ := zb_whole (hK.F hF) (hK.R hR) hL h0
    refine ⟨Gc, Gm', v, ?_, ?_, a3, fun z => ?_⟩
    · have el : f_U_left_10 Gc = some (nI (en - at_), Gc) := by
        unfold f_U_left_10
        rw [u3, u4, pk_sub u1]
      rw [f_I_readLinks_42, zp_neg (show ¬ (240 : Int32) ≤ nI i from nI_ge (b := 240) (by omega) (by omega)), zp_bd el, zp_pos (show nI (en - at_) ≤ 0 from (zp_lec (c := (0 : Int32)) 0 rfl (by omega) (by omega)).mpr (by omega))]
      exact a1
    · rw [f_M_properties_35, u5, u6, zp_pos (nI_le (by omega) (by omega))]
      exact a2
    · obtain ⟨e, w⟩ := a4 z
      subst e
      exact ⟨hK, hL, w⟩
  | succ rem ih =>
    intro i n1 n2 at_ Gc Gm hr hn1 hn2 hi hQ
    by_cases ce : en ≤ at_
    · exact ih i n1 n2 at_ Gc Gm (by omega) (by omega) (by omega) hi hQ
    obtain ⟨n1, rfl⟩ : ∃ k, n1 = k + 1 := ⟨n1 - 1, by omega⟩
    obtain ⟨n2, rfl⟩ : ∃ k, n2 = k + 2 := ⟨n2 - 2, by omega⟩
    obtain ⟨hK, ⟨u1, u2, u3, u4, u5, u6⟩, h0, hL⟩ := id hQ
    have el : f_U_left_10 Gc = some (nI (en - at_), Gc) := by
      unfold f_U_left_10
      rw [u3, u4, pk_sub u1]
    have pC : f_I_readLinks_42 (n1 + 1) (nI i) Gc = zx_bd (f_I_readLink Gc) fun r_7 G_6 => zx_lt r_7 fun x3_9 => zx_if (x3_9 = 0) (zx_lt (nI i + (1 : Int32)) fun x2_11 => f_I_readLinks_42 n1 x2_11 G_6) (some (x3_9, G_6)) := by
      rw [f_I_readLinks_42, zp_neg (show ¬ (240 : Int32) ≤ nI i from nI_ge (b := 240) (by omega) (by omega)), zp_bd el, zp_neg (show ¬ nI (en - at_) ≤ 0 from fun z => by have := (zp_lec (c := (0 : Int32)) 0 rfl (by omega) (by omega)).mp z; omega)]
    rcases zb_take (hK.F hF) hQ.2.1 h0 with ⟨t1, a, a1, a2, a3⟩ | ⟨t1, -, -⟩
    · have hQ1 := hQ.step t1
      have pM : f_M_properties_35 (n2 + 2) hd (nI nm) Gm = f_M_properties_66 (f_M_properties_35 (n2 + 1)) hd (nI nm) (if a = nm then 1 else 0) (zx_up Gm 32 11 (nI (at_ + 1))) := by
        rw [f_M_properties_35, u5, u6, zp_neg (nI_ge (by omega) (by omega)), zp_neg (fun z => z h0), zp_bd a3]
        by_cases q : a = nm
        · rw [zp_neg (fun z => z (by rw [q])), if_pos q]
        · rw [zp_pos (show ¬ nI a = nI nm from fun z => q ((nI_eq (by omega) (by omega)).mp z)), if_neg q]
      rcases zb_take (hQ1.1.F hF) hQ1.2.1 hQ1.2.2.1 with ⟨t2, b, b1, b2, b3⟩ | ⟨t2, b2, b3⟩
      · have hQ2 := hQ1.step t2
        obtain ⟨G1, M1, v, w1, w2, w3, w4⟩ := zb_entry (a := a) (c := b) (k35 := f_M_properties_35 (n2 + 1)) hF hR h6 h7 hnm a1 b1 b 0 2048 2048 (at_ + 1 + 1) _ _ (by omega) (by omega) (by omega) hQ2
        have eL : f_I_readLink Gc = some (v, G1) := by
          unfold f_I_readLink
          rw [zp_bd a2, zp_lt, zp_bd b2, zp_lt, zp_pos (nI_pos' (by omega)), zp_lt]
          exact w1
        have eM : f_M_properties_35 (n2 + 2) hd (nI nm) Gm = f_M_properties_35 (n2 + 1) hd (nI nm) M1 := by
          rw [pM]
          unfold f_M_properties_66
          rw [zp_lt, zp_bd b3, zp_lt, zp_lt]
          exact w2
        rw [pC, zp_bd eL, zp_lt, eM]
        by_cases qv : v = 0
        · obtain ⟨at', z1, z2⟩ := w4 qv
          rw [zp_pos qv, zp_lt, nI_1]
          exact ih (i + 1) n1 (n2 + 1) at' G1 M1 (by omega) (by omega) (by omega) (by omega) z2
        · rw [zp_neg qv]
          exact ⟨G1, M1, v, rfl, zb_dead35 (by rw [w3]; exact qv), w3, fun z => absurd z qv⟩
      · have eL : f_I_readLink Gc = some (3, zx_up Gc 10 1 (nI (at_ + 1))) := by
          unfold f_I_readLink
          rw [zp_bd a2, zp_lt, zp_bd b2, zp_lt, zp_neg (by decide)]
        have d : ¬ zx_up (zx_up Gm 32 11 (nI (at_ + 1))) 32 10 (3 : Int32) 32 10 = 0 := by rw [zp_us]; decide
        refine ⟨zx_up Gc 10 1 (nI (at_ + 1)), zx_up (zx_up Gm 32 11 (nI (at_ + 1))) 32 10 (3 : Int32), 3, by rw [pC, zp_bd eL, zp_lt, zp_neg (by decide)], ?_, zp_us, fun z => absurd z (by decide)⟩
        rw [pM]
        unfold f_M_properties_66
        rw [zp_lt, zp_bd b3, zp_lt, zp_lt, show (2048 : Nat) = 2047 + 1 from rfl, zb_dead77 d]
        exact zb_dead35 d
    · omega
/-- the item as both sides have it -/
def zb_Z (L n dl : Nat) (Gc Gm : zx_G) : Prop := zb_F L Gc Gm ∧ zb_R L n Gc Gm ∧ zb_D dl Gc Gm ∧ zb_L n Gc Gm ∧ zb_W n Gc ∧ Gm 32 10 = 0
theorem zb_open {f e : Nat} {G : zx_G} (he : e ≤ 240) : f_U_open_10 (nI f) (nI e) G = some (0, zx_up (zx_up (zx_up G 10 1 (nI f)) 10 2 (nI e)) 10 3 (0 : Int32)) ∨ 240 < f := by
  by_cases c : f ≤ 240
  · left
    have e1 : zx_mmax (nI f) (0 : Int32) = nI f := by
      unfold zx_mmax
      rw [if_neg (nI_pos (by omega))]
    have e2 : zx_mmin (nI e) (240 : Int32) = nI e := by
      unfold zx_mmin
      rw [if_neg (show ¬ (240 : Int32) < nI e from nI_nlt (a := 240) he (by omega))]
    unfold f_U_open_10
    rw [zp_lt, zp_lt, zp_lt, e1, e2]
  · right; omega
/-- a failed reference goes to its end -/
theorem zb_fin68 {x1 x2 : Int32} {G : zx_G} (h : ¬ G 32 10 = 0) : f_M_decode_68 x1 x2 G = f_M_decode_104 G := by
  unfold f_M_decode_68
  rw [zp_pos h]
set_option maxRecDepth 100000 in
theorem zb_find {L n : Nat} {Gc Gm : zx_G} (hF : zb_F L Gc Gm) (hR : zb_R L n Gc Gm) (h0 : Gm 32 10 = 0) : ∃ (Gc' Gm' : zx_G) (v : Int32), f_I_find (nI L) Gc = some (v, Gc') ∧ (zx_bd (f_M_brand Gm) fun _ G_6 => f_M_decode_20 G_6) = f_M_decode_104 Gm' ∧ Gm' 32 10 = v ∧ (v = 0 → (∃ dl, zb_Z L n dl Gc' Gm') ∧ ∀ q, q ≠ 32 → q ≠ 39 → Gm' q = Gm q) := by
  have hn := hR.1
  have hL := hF.1
  -- the file's length is noted
  obtain ⟨C1, hC1⟩ : ∃ C1, C1 = zx_up Gc 8 5 (nI L) := ⟨_, rfl⟩
  have cr : ∀ q, q ≠ 8 → C1 q = Gc q := fun q hq => by rw [hC1, zp_ur hq]
  have hF1 : zb_F L C1 Gm := hF.keep (cr 1 (by omega)) rfl rfl
  have hR1 : zb_R L n C1 Gm := hR.keep (cr 2 (by omega)) (cr 3 (by omega)) (cr 4 (by omega)) (cr 5 (by omega)) (cr 6 (by omega)) (cr 7 (by omega)) rfl rfl rfl rfl rfl rfl
  have c85 : C1 8 5 = nI L := by rw [hC1, zp_us]
  rcases zb_brand hF1 hR1 h0 with ⟨b1, b2⟩ | ⟨b1, b2⟩
  · have pM : (zx_bd (f_M_brand Gm) fun _ G_6 => f_M_decode_20 G_6) = zx_bd (f_M_child (-1 : Int32) (109 : Int32) Gm) fun r_3 G_2 => f_M_decode_38 r_3 G_2 := by
      rw [zp_bd b2]
      unfold f_M_decode_20
      rw [zp_neg (fun z => z h0)]
    obtain ⟨r, r1, r2, r3⟩ := zb_first hR1 (-1 : Int32) (109 : Int32)
    have pC : f_I_find (nI L) Gc = zx_if (0 ≤ r) (zx_bd (f_B_first r (112 : Int32) C1) fun r_12 G_11 => zx_lt r_12 fun x3_14 => zx_bd (f_B_first r (108 : Int32) G_11) fun r_16 G_15 => zx_lt r_16 fun x4_18 => zx_bd (f_B_first r (114 : Int32) G_15) fun r_20 G_19 => zx_lt (zx_up G_19 8 7 r_20) fun G_22 => zx_if (x3_14 < 0) (f_I_find_87 G_22) (zx_if (x4_18 < 0) (f_I_find_87 G_22) (zx_if (0 ≤ (G_22 8 7)) (zx_bd (f_B_first (G_22 8 7) (97 : Int32) G_22) fun r_27 G_26 => zx_lt r_27 fun x5_29 => zx_if (x5_29 < 0) (f_I_find_120 G_26) (zx_bd (f_B_contentLength x3_14 G_26) fun r_32 G_31 => zx_if (¬ r_32 = 0) (zx_gd (zx_in x3_14 16) <| zx_gd (zx_in (G_31 4 (Int32.toNatClampNeg x3_14)) 240) <| zx_lt (zx_up G_31 8 6 (G_31 1 (Int32.toNatClampNeg (G_31 4 (Int32.toNatClampNeg x3_14))))) fun G_37 => zx_bd (f_I_readPlaces x4_18 G_37) fun r_39 G_38 => zx_lt r_39 fun x6_41 => zx_if (¬ x6_41 = 0) (f_I_find_164 x6_41 G_38) (zx_bd (f_I_readLinks x5_29 G_38) fun r_44 G_43 => f_I_find_164 r_44 G_43)) (f_I_find_120 G_31))) (f_I_find_87 G_22)))) (some ((3 : Int32), C1)) := by
      unfold f_I_find
      rw [zp_lt, ← hC1, zp_bd b1, zp_pos (by decide), zp_bd r1, zp_lt]
    rw [pM, zp_bd r2]
    -- a plain failure with 3 in the extents
    have f71 : ∀ x1 x2 : Int32, f_M_extents x1 x2 Gm = some (0, zx_up Gm 32 10 (3 : Int32)) → f_M_decode_54 x1 x2 Gm = f_M_decode_104 (zx_up Gm 32 10 (3 : Int32)) := fun x1 x2 he => by
      unfold f_M_decode_54
      rw [zp_lt, zp_neg (fun z => z h0), zp_bd he]
      exact zb_fin68 (by rw [zp_us]; decide)
    have e71 : f_M_extents_71 Gm = some (0, zx_up Gm 32 10 (3 : Int32)) := by
      unfold f_M_extents_71
      rw [zp_bd (zb_fail1 h0 3)]
    rcases r3 with rfl | ⟨k, k1, rfl, -, -⟩
    · refine ⟨C1, zx_up Gm 32 10 (3 : Int32), 3, by rw [pC, zp_neg (by decide)], ?_, zp_us, fun z => absurd z (by decide)⟩
      unfold f_M_decode_38
      rw [zp_lt, zp_pos (by decide)]
      refine f71 _ _ ?_
      unfold f_M_extents f_M_extents_15 f_M_extents_31
      rw [zp_pos (by decide), zp_lt, zp_pos (by decide), zp_lt, zp_pos (by decide), e71]
    · obtain ⟨rp, p1, p2, p3⟩ := zb_first hR1 (nI k) (112 : Int32)
      obtain ⟨rl, q1, q2, q3⟩ := zb_first hR1 (nI k) (108 : Int32)
      obtain ⟨rr, s1, s2, s3⟩ := zb_first hR1 (nI k) (114 : Int32)
      obtain ⟨C2, hC2⟩ : ∃ C2, C2 = zx_up C1 8 7 rr := ⟨_, rfl⟩
      have cr2 : ∀ q, q ≠ 8 → C2 q = Gc q := fun q hq => by rw [hC2, zp_ur hq, cr q hq]
      have hF2 : zb_F L C2 Gm := hF.keep (cr2 1 (by omega)) rfl rfl
      have hR2 : zb_R L n C2 Gm := hR.keep (cr2 2 (by omega)) (cr2 3 (by omega)) (cr2 4 (by omega)) (cr2 5 (by omega)) (cr2 6 (by omega)) (cr2 7 (by omega)) rfl rfl rfl rfl rfl rfl
      have c87 : C2 8 7 = rr := by rw [hC2, zp_us]
      have eM : f_M_decode_38 (nI k) Gm = f_M_decode_54 (nI k) rr Gm := by
        unfold f_M_decode_38
        rw [zp_lt, zp_neg (nI_pos (by omega)), zp_bd s2]
      have eX : f_M_extents (nI k) rr Gm = f_M_extents_31 rr rp rl Gm := by
        unfold f_M_extents f_M_extents_15
        rw [zp_neg (nI_pos (by omega)), zp_bd p2, zp_lt, zp_neg (nI_pos (by omega)), zp_bd q2]
      have pC2 : f_I_find (nI L) Gc = zx_if (rp < 0) (f_I_find_87 C2) (zx_if (rl < 0) (f_I_find_87 C2) (zx_if (0 ≤ rr) (zx_bd (f_B_first rr (97 : Int32) C2) fun r_27 G_26 => zx_lt r_27 fun x5_29 => zx_if (x5_29 < 0) (f_I_find_120 G_26) (zx_bd (f_B_contentLength rp G_26) fun r_32 G_31 => zx_if (¬ r_32 = 0) (zx_gd (zx_in rp 16) <| zx_gd (zx_in (G_31 4 (Int32.toNatClampNeg rp)) 240) <| zx_lt (zx_up G_31 8 6 (G_31 1 (Int32.toNatClampNeg (G_31 4 (Int32.toNatClampNeg rp))))) fun G_37 => zx_bd (f_I_readPlaces rl G_37) fun r_39 G_38 => zx_lt r_39 fun x6_41 => zx_if (¬ x6_41 = 0) (f_I_find_164 x6_41 G_38) (zx_bd (f_I_readLinks x5_29 G_38) fun r_44 G_43 => f_I_find_164 r_44 G_43)) (f_I_find_120 G_31))) (f_I_find_87 C2))) := by
        rw [pC, zp_pos (nI_pos' (by omega)), zp_bd p1, zp_lt, zp_bd q1, zp_lt, zp_bd s1, zp_lt, ← hC2, c87]
      rw [eM]
      -- failures with 3
      have fail3 : ∀ C3, f_I_find (nI L) Gc = some (3, C3) → f_M_extents_31 rr rp rl Gm = some (0, zx_up Gm 32 10 (3 : Int32)) → ∃ (Gc' Gm' : zx_G) (v : Int32), f_I_find (nI L) Gc = some (v, Gc') ∧ f_M_decode_54 (nI k) rr Gm = f_M_decode_104 Gm' ∧ Gm' 32 10 = v ∧ (v = 0 → (∃ dl, zb_Z L n dl Gc' Gm') ∧ ∀ q, q ≠ 32 → q ≠ 39 → Gm' q = Gm q) := fun C3 h1 h2 => ⟨C3, _, 3, h1, f71 _ _ (eX.trans h2), zp_us, fun z => absurd z (by decide)⟩
      rcases p3 with rfl | ⟨kp, kp1, rfl, -, -⟩
      · refine fail3 C2 (by rw [pC2, zp_pos (by decide)]; rfl) ?_
        unfold f_M_extents_31
        rw [zp_lt, zp_pos (by decide), e71]
      · rcases q3 with rfl | ⟨kl, kl1, rfl, -, -⟩
        · refine fail3 C2 (by rw [pC2, zp_neg (nI_pos (by omega)), zp_pos (by decide)]; rfl) ?_
          unfold f_M_extents_31
          rw [zp_lt, zp_neg (nI_pos (by omega)), zp_pos (by decide), e71]
        · rcases s3 with rfl | ⟨kr, kr1, rfl, -, -⟩
          · refine fail3 C2 (by rw [pC2, zp_neg (nI_pos (by omega)), zp_neg (nI_pos (by omega)), zp_neg (by decide)]; rfl) ?_
            unfold f_M_extents_31
            rw [zp_lt, zp_neg (nI_pos (by omega)), zp_neg (nI_pos (by omega)), zp_pos (by decide), e71]
          · obtain ⟨ra, t1, t2, t3⟩ := zb_first hR2 (nI kr) (97 : Int32)
            rcases t3 with rfl | ⟨ka, ka1, rfl, -, -⟩
            · refine fail3 C2 (by rw [pC2, zp_neg (nI_pos (by omega)), zp_neg (nI_pos (by omega)), zp_pos (nI_pos' (by omega)), zp_bd t1, zp_lt, zp_pos (by decide)]; rfl) ?_
              unfold f_M_extents_31
              rw [zp_lt, zp_neg (nI_pos (by omega)), zp_neg (nI_pos (by omega)), zp_neg (nI_pos (by omega)), zp_bd t2, zp_pos (by decide), e71]
            · obtain ⟨fp, ep, x1, x2, x3, x4, x5, x6, x7, x8⟩ := zb_len hR2 kp1
              obtain ⟨fl, el, y1, y2, y3, y4, y5, y6, y7, -⟩ := zb_len hR2 kl1
              obtain ⟨fa, ea, z1, z2, z3, z4, z5, z6, z7, -⟩ := zb_len hR2 ka1
              by_cases cp : ep ≤ fp
              · refine fail3 C2 (by rw [pC2, zp_neg (nI_pos (by omega)), zp_neg (nI_pos (by omega)), zp_pos (nI_pos' (by omega)), zp_bd t1, zp_lt, zp_neg (nI_pos (by omega)), zp_bd x8, show ep - fp = 0 by omega, zp_neg (show ¬ ¬ nI 0 = 0 from fun z => z rfl)]; rfl) ?_
                unfold f_M_extents_31
                rw [zp_lt, zp_neg (nI_pos (by omega)), zp_neg (nI_pos (by omega)), zp_neg (nI_pos (by omega)), zp_bd t2, zp_neg (nI_pos (by omega)), zp_gd (zp_in (by omega) (by omega)), zp_gd (zp_in (by omega) (by omega)), zp_cl (by omega), x5, x7, zp_neg (nI_nlt cp (by omega)), e71]
              · obtain ⟨nm, nm1, nm2⟩ := hF2.2.2.2 fp (by omega)
                have nm3 : C2 1 fp = nI nm := (hF2.2.2.1 fp (by omega)).trans nm2
                -- the item's name stands
                obtain ⟨C3, hC3⟩ : ∃ C3, C3 = zx_up (zx_up (zx_up (zx_up C2 8 6 (nI nm)) 10 1 (nI fl)) 10 2 (nI el)) 10 3 (0 : Int32) := ⟨_, rfl⟩
                obtain ⟨M3, hM3⟩ : ∃ M3, M3 = zx_up (zx_up (zx_up Gm 32 11 (nI fl)) 32 12 (nI el)) 32 8 (0 : Int32) := ⟨_, rfl⟩
                have cr3 : ∀ q, q ≠ 8 → q ≠ 10 → C3 q = C2 q := fun q a b => by rw [hC3, zp_ur b, zp_ur b, zp_ur b, zp_ur a]
                have mr3 : ∀ q, q ≠ 32 → M3 q = Gm q := fun q a => by rw [hM3, zp_ur a, zp_ur a, zp_ur a]
                have mk3 : ∀ q, q ≠ 8 → q ≠ 11 → q ≠ 12 → M3 32 q = Gm 32 q := fun q a b c => by rw [hM3, zp_uk a, zp_uk c, zp_uk b]
                have hF3 : zb_F L C3 M3 := hF2.keep (cr3 1 (by omega) (by omega)) (mk3 0 (by omega) (by omega) (by omega)) (mr3 33 (by omega))
                have hR3 : zb_R L n C3 M3 := hR2.keep (cr3 2 (by omega) (by omega)) (cr3 3 (by omega) (by omega)) (cr3 4 (by omega) (by omega)) (cr3 5 (by omega) (by omega)) (cr3 6 (by omega) (by omega)) (cr3 7 (by omega) (by omega)) (mk3 2 (by omega) (by omega) (by omega)) (mr3 34 (by omega)) (mr3 35 (by omega)) (mr3 36 (by omega)) (mr3 37 (by omega)) (mr3 38 (by omega))
                have c3u : ∀ q, q ≠ 6 → C3 8 q = C2 8 q := fun q a => by rw [hC3, zp_ur (by omega), zp_ur (by omega), zp_ur (by omega), zp_uk a]
                have h35 : C3 8 5 = nI L := by rw [c3u 5 (by omega), hC2, zp_uk (by omega)]; exact c85
                have h36 : C3 8 6 = nI nm := by rw [hC3, zp_ur (by omega), zp_ur (by omega), zp_ur (by omega), zp_us]
                have h37 : C3 8 7 = nI kr := by rw [c3u 7 (by omega)]; exact c87
                have h0' : M3 32 10 = 0 := by rw [mk3 10 (by omega) (by omega) (by omega)]; exact h0
                have hU3 : zb_U fl el C3 M3 := ⟨y2, by omega, by rw [hC3, zp_uk (by omega), zp_uk (by omega), zp_us], by rw [hC3, zp_uk (by omega), zp_us], by rw [hM3, zp_uk (by omega), zp_uk (by omega), zp_us], by rw [hM3, zp_uk (by omega), zp_us]⟩
                have hP3 : zb_P0 fl el C3 M3 C3 M3 := ⟨zb_K.refl _ _, hU3, h0', by rw [hM3, zp_us]⟩
                have pC3 : f_I_find (nI L) Gc = zx_bd (f_I_readPlaces (nI kl) (zx_up C2 8 6 (nI nm))) fun r_39 G_38 => zx_lt r_39 fun x6_41 => zx_if (¬ x6_41 = 0) (f_I_find_164 x6_41 G_38) (zx_bd (f_I_readLinks (nI ka) G_38) fun r_44 G_43 => f_I_find_164 r_44 G_43) := by
                  rw [pC2, zp_neg (nI_pos (by omega)), zp_neg (nI_pos (by omega)), zp_pos (nI_pos' (by omega)), zp_bd t1, zp_lt, zp_neg (nI_pos (by omega)), zp_bd x8, zp_pos (nI_ne0 (by omega) (by omega)), zp_gd (zp_in (by omega) (by omega)), zp_cl (j := kp) (by omega), x4, zp_gd (zp_in (by omega) (by omega)), zp_cl (by omega), nm3, zp_lt]
                have eO : f_U_open_10 (nI fl) (nI el) (zx_up C2 8 6 (nI nm)) = some (0, C3) := by
                  rcases zb_open (f := fl) (e := el) (G := zx_up C2 8 6 (nI nm)) (by omega) with z | z
                  · rw [hC3]; exact z
                  · omega
                have eP : f_I_readPlaces (nI kl) (zx_up C2 8 6 (nI nm)) = zx_bd (f_U_nextByte_10 C3) fun r_7 G_6 => zx_lt r_7 fun x2_9 => zx_lt (0 : Int32) fun x3_10 => f_I_readPlaces_35 2048 x2_9 x3_10 G_6 := by
                  unfold f_I_readPlaces
                  rw [zp_gd (zp_in (by omega) (by omega)), zp_gd (zp_in (by omega) (by omega)), zp_cl (by omega), zp_ur (by omega), zp_ur (by omega), y4, y6, zp_bd eO]
                have eE : f_M_extents_31 (nI kr) (nI kp) (nI kl) Gm = zx_bd (f_M_take M3) fun r_21 G_20 => zx_lt r_21 fun x6_23 => zx_lt (0 : Int32) fun x7_24 => zx_lt (0 : Int32) fun x8_25 => f_M_extents_129 2048 (nI nm) x6_23 x7_24 x8_25 G_20 := by
                  unfold f_M_extents_31
                  rw [zp_lt, zp_neg (nI_pos (by omega)), zp_neg (nI_pos (by omega)), zp_neg (nI_pos (by omega)), zp_bd t2, zp_neg (nI_pos (by omega)), zp_gd (zp_in (by omega) (by omega)), zp_gd (zp_in (by omega) (by omega)), zp_cl (j := kp) (by omega), x5, x7, zp_pos (nI_lt (by omega) (by omega)), zp_gd (zp_in (by omega) (by omega)), zp_gd (zp_in (by omega) (by omega)), zp_cl (j := fp) (by omega), nm2, zp_lt, zp_gd (zp_in (by omega) (by omega)), zp_lt, zp_cl (j := kl) (by omega), y5, zp_gd (zp_in (by omega) (by omega)), zp_lt, zp_ur (by omega), y7, zp_lt, ← hM3]
                -- the places
                obtain ⟨G4, M4, v4, w1, w2, w3, w4⟩ : ∃ (G4 M4 : zx_G) (v4 : Int32), f_I_readPlaces (nI kl) (zx_up C2 8 6 (nI nm)) = some (v4, G4) ∧ f_M_extents_31 (nI kr) (nI kp) (nI kl) Gm = some (0, M4) ∧ M4 32 10 = v4 ∧ (v4 = 0 → ∃ dl' at', zb_P dl' at' el C3 M3 G4 M4) := by
                  rw [eP, eE]
                  rcases zb_take hF3 hU3 h0' with ⟨tt, m, m1, m2, m3⟩ | ⟨tt, m2, m3⟩
                  · obtain ⟨G4, M4, v4, w1, w2, w3, w4⟩ := zb_places (m := m) (nm := nm) hF3 nm1 m1 h35 h36 m 0 2048 2048 (fl + 1) _ _ (by omega) (by omega) (by omega) (hP3.step tt)
                    refine ⟨G4, M4, v4, ?_, ?_, w3, w4⟩
                    · rw [zp_bd m2, zp_lt, zp_lt]; exact w1
                    · rw [zp_bd m3, zp_lt, zp_lt, zp_lt]; exact w2
                  · refine ⟨C3, zx_up (zx_up M3 32 10 (3 : Int32)) 32 10 (3 : Int32), 3, ?_, ?_, zp_us, fun z => absurd z (by decide)⟩
                    · rw [zp_bd m2, zp_lt, zp_lt]
                      show f_I_readPlaces_35 (2047 + 1) _ _ _ = _
                      rw [f_I_readPlaces_35, zp_pos (by decide)]
                    · rw [zp_bd m3, zp_lt, zp_lt, zp_lt]
                      show f_M_extents_129 (2047 + 1) _ _ _ _ _ = _
                      rw [f_M_extents_129, zp_pos (by decide)]
                      unfold f_M_extents_231 f_M_extents_241
                      rw [zp_neg (show ¬ ¬ (0 : Int32) = 0 from fun z => z rfl), zp_bd (zb_fail2 (by rw [zp_us]; decide) 3), zp_us]
                have e54 : f_M_decode_54 (nI k) (nI kr) Gm = f_M_decode_68 (nI k) (nI kr) M4 := by
                  unfold f_M_decode_54
                  rw [zp_lt, zp_neg (fun z => z h0), zp_bd (eX.trans w2)]
                rw [pC3, zp_bd w1, zp_lt, e54]
                by_cases q4 : v4 = 0
                · obtain ⟨dl, at', hK4, hU4, h04, hD4⟩ := w4 q4
                  have hF4 := hK4.F hF3
                  have hR4 := hK4.R hR3
                  -- the links
                  obtain ⟨fp', ep', u1, u2, u3, u4, u5, u6, u7, -⟩ := zb_len hR4 kp1
                  obtain ⟨C5, hC5⟩ : ∃ C5, C5 = zx_up (zx_up (zx_up (zx_up (zx_up (zx_up G4 8 8 (-1 : Int32)) 8 9 (-1 : Int32)) 8 10 (-1 : Int32)) 10 1 (nI fa)) 10 2 (nI ea)) 10 3 (0 : Int32) := ⟨_, rfl⟩
                  obtain ⟨M5, hM5⟩ : ∃ M5, M5 = zx_up (zx_up (zx_up (zx_up (zx_up M4 32 13 (-1 : Int32)) 32 14 (-1 : Int32)) 32 15 (-1 : Int32)) 32 11 (nI fa)) 32 12 (nI ea) := ⟨_, rfl⟩
                  have cr5 : ∀ q, q ≠ 8 → q ≠ 10 → C5 q = G4 q := fun q a b => by rw [hC5, zp_ur b, zp_ur b, zp_ur b, zp_ur a, zp_ur a, zp_ur a]
                  have mr5 : ∀ q, q ≠ 32 → M5 q = M4 q := fun q a => by rw [hM5, zp_ur a, zp_ur a, zp_ur a, zp_ur a, zp_ur a]
                  have mk5 : ∀ q, q ≠ 11 → q ≠ 12 → q ≠ 13 → q ≠ 14 → q ≠ 15 → M5 32 q = M4 32 q := fun q a b c d e => by rw [hM5, zp_uk b, zp_uk a, zp_uk e, zp_uk d, zp_uk c]
                  have c5u : ∀ q, q ≠ 8 → q ≠ 9 → q ≠ 10 → C5 8 q = G4 8 q := fun q a b c => by rw [hC5, zp_ur (by omega), zp_ur (by omega), zp_ur (by omega), zp_uk c, zp_uk b, zp_uk a]
                  have hF5 : zb_F L C5 M5 := hF4.keep (cr5 1 (by omega) (by omega)) (mk5 0 (by omega) (by omega) (by omega) (by omega) (by omega)) (mr5 33 (by omega))
                  have hR5 : zb_R L n C5 M5 := hR4.keep (cr5 2 (by omega) (by omega)) (cr5 3 (by omega) (by omega)) (cr5 4 (by omega) (by omega)) (cr5 5 (by omega) (by omega)) (cr5 6 (by omega) (by omega)) (cr5 7 (by omega) (by omega)) (mk5 2 (by omega) (by omega) (by omega) (by omega) (by omega)) (mr5 34 (by omega)) (mr5 35 (by omega)) (mr5 36 (by omega)) (mr5 37 (by omega)) (mr5 38 (by omega))
                  have h56 : C5 8 6 = nI nm := by rw [c5u 6 (by omega) (by omega) (by omega), hK4.2.2.2.2 6 (by omega)]; exact h36
                  have h57 : C5 8 7 = nI kr := by rw [c5u 7 (by omega) (by omega) (by omega), hK4.2.2.2.2 7 (by omega)]; exact h37
                  have n8 : C5 8 8 = -1 := by rw [hC5, zp_ur (by omega), zp_ur (by omega), zp_ur (by omega), zp_uk (by omega), zp_uk (by omega), zp_us]
                  have n9 : C5 8 9 = -1 := by rw [hC5, zp_ur (by omega), zp_ur (by omega), zp_ur (by omega), zp_uk (by omega), zp_us]
                  have n10 : C5 8 10 = -1 := by rw [hC5, zp_ur (by omega), zp_ur (by omega), zp_ur (by omega), zp_us]
                  have m13 : M5 32 13 = -1 := by rw [hM5, zp_uk (by omega), zp_uk (by omega), zp_uk (by omega), zp_uk (by omega), zp_us]
                  have m14 : M5 32 14 = -1 := by rw [hM5, zp_uk (by omega), zp_uk (by omega), zp_uk (by omega), zp_us]
                  have m15 : M5 32 15 = -1 := by rw [hM5, zp_uk (by omega), zp_uk (by omega), zp_us]
                  have hQ5 : zb_Q n fa ea C5 M5 C5 M5 := ⟨⟨fun _ _ _ => rfl, fun _ _ => rfl, fun _ _ _ _ _ _ => rfl, fun _ _ => rfl, fun _ _ _ _ => rfl⟩, ⟨z2, by omega, by rw [hC5, zp_uk (by omega), zp_uk (by omega), zp_us], by rw [hC5, zp_uk (by omega), zp_us], by rw [hM5, zp_uk (by omega), zp_us], by rw [hM5, zp_us]⟩, by rw [mk5 10 (by omega) (by omega) (by omega) (by omega) (by omega)]; exact h04, Or.inl n8, Or.inl n9, Or.inl n10, by rw [m13, n8], by rw [m14, n9], by rw [m15, n10]⟩
                  obtain ⟨G6, M6, v6, g1, g2, g3, g4⟩ := zb_links hF5 hR5 h56 h57 nm1 240 0 2048 2048 fa C5 M5 (by omega) (by omega) (by omega) (by omega) hQ5
                  -- the class
                  have a4 : G4 4 ka = nI fa := by rw [hK4.1 4 (by omega) (by omega) (by omega), cr3 4 (by omega) (by omega)]; exact z4
                  have a5 : G4 5 ka = nI ea := by rw [hK4.1 5 (by omega) (by omega) (by omega), cr3 5 (by omega) (by omega)]; exact z6
                  have eO5 : f_U_open_10 (nI fa) (nI ea) (zx_up (zx_up (zx_up G4 8 8 (-1 : Int32)) 8 9 (-1 : Int32)) 8 10 (-1 : Int32)) = some (0, C5) := by
                    rcases zb_open (f := fa) (e := ea) (G := zx_up (zx_up (zx_up G4 8 8 (-1 : Int32)) 8 9 (-1 : Int32)) 8 10 (-1 : Int32)) (by omega) with z | z
                    · rw [hC5]; exact z
                    · omega
                  have eL5 : f_I_readLinks (nI ka) G4 = some (v6, G6) := by
                    unfold f_I_readLinks
                    rw [zp_lt, zp_lt, zp_lt, zp_gd (zp_in (by omega) (by omega)), zp_gd (zp_in (by omega) (by omega)), zp_cl (by omega), zp_ur (by omega), zp_ur (by omega), zp_ur (by omega), a4, zp_ur (by omega), zp_ur (by omega), zp_ur (by omega), a5, zp_bd eO5, zp_lt]
                    exact g1
                  -- the reference
                  obtain ⟨rp', i1, i2, i3⟩ := zb_first hR4 (nI k) (112 : Int32)
                  obtain ⟨ra', j1, j2, j3⟩ := zb_first hR4 (nI kr) (97 : Int32)
                  -- the children are those found before
                  have same : ∀ (hd ty : Int32), f_M_child hd ty M4 = (f_M_child hd ty Gm).map (fun q => (q.1, M4)) := by
                    intro hd ty
                    have e2 : M4 32 2 = Gm 32 2 := (hK4.2.2.1 2 (by omega) (by omega) (by omega)).trans (mk3 2 (by omega) (by omega) (by omega))
                    have e36 : M4 36 = Gm 36 := (hK4.2.1 36 (by omega) (by omega)).trans (mr3 36 (by omega))
                    have e37 : M4 37 = Gm 37 := (hK4.2.1 37 (by omega) (by omega)).trans (mr3 37 (by omega))
                    have lp : ∀ (n1 : Nat) (x3 x4 : Int32), f_M_child_10 n1 hd ty x3 x4 M4 = (f_M_child_10 n1 hd ty x3 x4 Gm).map (fun q => (q.1, M4)) := by
                      intro n1
                      induction n1 with
                      | zero => intro x3 x4; rfl
                      | succ n1 ih =>
                        intro x3 x4
                        rw [f_M_child_10, f_M_child_10, e36, e37]
                        have k43 : ∀ s, f_M_child_43 (f_M_child_10 n1) hd ty x4 s M4 = (f_M_child_43 (f_M_child_10 n1) hd ty x4 s Gm).map (fun q => (q.1, M4)) := fun s => by
                          unfold f_M_child_43
                          rw [zp_lt, zp_lt, zp_lt, zp_lt]
                          exact ih _ _
                        by_cases d1 : x4 < 0
                        · rw [zp_pos d1, zp_pos d1]; rfl
                        · rw [zp_neg d1, zp_neg d1]
                          by_cases d2 : zx_in x4 16 = true
                          · rw [zp_gd d2, zp_gd d2, zp_gd d2, zp_gd d2]
                            unfold f_M_child_42
                            by_cases d3 : Gm 37 (Int32.toNatClampNeg x4) = hd
                            · rw [zp_neg (show ¬ ¬ Gm 37 (Int32.toNatClampNeg x4) = hd from fun z => z d3), zp_neg (show ¬ ¬ Gm 37 (Int32.toNatClampNeg x4) = hd from fun z => z d3)]
                              by_cases d4 : Gm 36 (Int32.toNatClampNeg x4) = ty
                              · rw [zp_neg (show ¬ ¬ Gm 36 (Int32.toNatClampNeg x4) = ty from fun z => z d4), zp_neg (show ¬ ¬ Gm 36 (Int32.toNatClampNeg x4) = ty from fun z => z d4)]
                                exact k43 _
                              · rw [zp_pos d4, zp_pos d4]
                                exact k43 _
                            · rw [zp_pos d3, zp_pos d3]
                              exact k43 _
                          · have d2' : zx_in x4 16 = false := by
                              cases hh : zx_in x4 16 with
                              | true => exact absurd hh d2
                              | false => rfl
                            rw [d2']
                            rfl
                    unfold f_M_child
                    rw [zp_lt, zp_lt, zp_lt, zp_lt, e2]
                    exact lp _ _ _
                  have ch97 : f_M_child (nI kr) (97 : Int32) M4 = some (nI ka, M4) := by rw [same, t2]; rfl
                  have ch112 : f_M_child (nI k) (112 : Int32) M4 = some (nI kp, M4) := by rw [same, p2]; rfl
                  have a34 : M4 34 kp = nI fp := by rw [hK4.2.1 34 (by omega) (by omega), mr3 34 (by omega)]; exact x5
                  have a33 : M4 33 fp = nI nm := by rw [hK4.2.1 33 (by omega) (by omega), mr3 33 (by omega)]; exact nm2
                  have a34' : M4 34 ka = nI fa := by rw [hK4.2.1 34 (by omega) (by omega), mr3 34 (by omega)]; exact z5
                  have a35' : M4 35 ka = nI ea := by rw [hK4.2.1 35 (by omega) (by omega), mr3 35 (by omega)]; exact z7
                  have eR : f_M_properties (nI kr) (nI ka) (nI nm) M4 = some (0, M6) := by
                    unfold f_M_properties
                    rw [zp_lt, zp_lt, zp_lt, zp_gd (zp_in (by omega) (by omega)), zp_lt, zp_cl (by omega), zp_ur (by omega), zp_ur (by omega), zp_ur (by omega), a34', zp_gd (zp_in (by omega) (by omega)), zp_lt, zp_ur (by omega), zp_ur (by omega), zp_ur (by omega), zp_ur (by omega), a35', ← hM5]
                    exact g2
                  have e68 : f_M_decode_68 (nI k) (nI kr) M4 = f_M_decode_104 M6 := by
                    unfold f_M_decode_68
                    rw [zp_neg (fun z => z h04), zp_bd ch97, zp_bd ch112, zp_gd (zp_in (by omega) (by omega)), zp_cl (j := kp) (by omega), a34, zp_gd (zp_in (by omega) (by omega)), zp_cl (by omega), a33, zp_bd eR]
                  refine ⟨G6, M6, v6, ?_, e68, g3, fun z => ?_⟩
                  · rw [zp_neg (show ¬ ¬ v4 = 0 from fun z => z q4), zp_bd eL5]
                    rfl
                  · obtain ⟨o1, o2, o3⟩ := g4 z
                    obtain ⟨d1, d2, d3, d4⟩ := hD4
                    refine ⟨⟨dl, o1.F hF5, o1.R hR5, ⟨d1, ?_, ?_, ?_⟩, o2, o3, g3.trans z⟩, fun q a b => by rw [o1.2.1 q a, mr5 q a, hK4.2.1 q a b, mr3 q a]⟩
                    · rw [o1.2.2.2.2 4 (by omega) (by omega) (by omega), c5u 4 (by omega) (by omega) (by omega)]; exact d2
                    · rw [o1.2.2.1 8 (by omega) (by omega) (by omega) (by omega) (by omega), mk5 8 (by omega) (by omega) (by omega) (by omega) (by omega)]; exact d3
                    · rw [o1.1 9 (by omega) (by omega), cr5 9 (by omega) (by omega), o1.2.1 39 (by omega), mr5 39 (by omega)]; exact d4
                · refine ⟨G4, M4, v4, by rw [zp_pos q4]; rfl, zb_fin68 (by rw [w3]; exact q4), w3, fun z => absurd z q4⟩
  · have pM : (zx_bd (f_M_brand Gm) fun _ G_6 => f_M_decode_20 G_6) = f_M_decode_104 (zx_up Gm 32 10 (2 : Int32)) := by
      have d : ¬ zx_up Gm 32 10 (2 : Int32) 32 10 = 0 := by rw [zp_us]; decide
      rw [zp_bd b2]
      unfold f_M_decode_20 f_M_decode_38 f_M_decode_54
      rw [zp_pos d, zp_lt, zp_pos (by decide), zp_lt, zp_pos d]
      exact zb_fin68 d
    refine ⟨C1, zx_up Gm 32 10 (2 : Int32), 2, ?_, pM, zp_us, fun z => absurd z (by decide)⟩
    unfold f_I_find
    rw [zp_lt, ← hC1, zp_bd b1, zp_neg (show ¬ ¬ (0 : Int32) = 0 from fun z => z rfl)]
