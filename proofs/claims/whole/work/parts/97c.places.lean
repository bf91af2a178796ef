/-! the item's places: its bytes are gathered -/
def zb_K (Bc Bm Gc Gm : zx_G) : Prop := (∀ r, r ≠ 8 → r ≠ 9 → r ≠ 10 → Gc r = Bc r) ∧ (∀ r, r ≠ 32 → r ≠ 39 → Gm r = Bm r) ∧ (∀ k, k ≠ 8 → k ≠ 10 → k ≠ 11 → Gm 32 k = Bm 32 k) ∧ (∀ k, k ≠ 1 → Gc 10 k = Bc 10 k) ∧ ∀ k, k ≠ 4 → Gc 8 k = Bc 8 k
theorem zb_K.refl (G M : zx_G) : zb_K G M G M := ⟨fun _ _ _ _ => rfl, fun _ _ _ => rfl, fun _ _ _ _ => rfl, fun _ _ => rfl, fun _ _ => rfl⟩
theorem zb_F.keep {L : Nat} {Gc Gm Gc' Gm' : zx_G} (h : zb_F L Gc Gm) (c1 : Gc' 1 = Gc 1) (m0 : Gm' 32 0 = Gm 32 0) (m33 : Gm' 33 = Gm 33) : zb_F L Gc' Gm' := by
  unfold zb_F
  rw [c1, m0, m33]
  exact h
theorem zb_R.keep {L n : Nat} {Gc Gm Gc' Gm' : zx_G} (h : zb_R L n Gc Gm) (c2 : Gc' 2 = Gc 2) (c3 : Gc' 3 = Gc 3) (c4 : Gc' 4 = Gc 4) (c5 : Gc' 5 = Gc 5) (c6 : Gc' 6 = Gc 6) (c7 : Gc' 7 = Gc 7) (m2 : Gm' 32 2 = Gm 32 2) (m34 : Gm' 34 = Gm 34) (m35 : Gm' 35 = Gm 35) (m36 : Gm' 36 = Gm 36) (m37 : Gm' 37 = Gm 37) (m38 : Gm' 38 = Gm 38) : zb_R L n Gc' Gm' := by
  unfold zb_R zb_B
  rw [c2, c3, c4, c5, c6, c7, m2, m34, m35, m36, m37, m38]
  exact h
theorem zb_K.F {L : Nat} {Bc Bm Gc Gm : zx_G} (h : zb_K Bc Bm Gc Gm) (hF : zb_F L Bc Bm) : zb_F L Gc Gm := hF.keep (h.1 1 (by omega) (by omega) (by omega)) (h.2.2.1 0 (by omega) (by omega) (by omega)) (h.2.1 33 (by omega) (by omega))
theorem zb_K.R {L n : Nat} {Bc Bm Gc Gm : zx_G} (h : zb_K Bc Bm Gc Gm) (hR : zb_R L n Bc Bm) : zb_R L n Gc Gm := hR.keep (h.1 2 (by omega) (by omega) (by omega)) (h.1 3 (by omega) (by omega) (by omega)) (h.1 4 (by omega) (by omega) (by omega)) (h.1 5 (by omega) (by omega) (by omega)) (h.1 6 (by omega) (by omega) (by omega)) (h.1 7 (by omega) (by omega) (by omega)) (h.2.2.1 2 (by omega) (by omega) (by omega)) (h.2.1 34 (by omega) (by omega)) (h.2.1 35 (by omega) (by omega)) (h.2.1 36 (by omega) (by omega)) (h.2.1 37 (by omega) (by omega)) (h.2.1 38 (by omega) (by omega))
/-- one byte taken on both sides -/
theorem zb_K.step {Bc Bm Gc Gm : zx_G} (h : zb_K Bc Bm Gc Gm) (v w : Int32) : zb_K Bc Bm (zx_up Gc 10 1 v) (zx_up Gm 32 11 w) := ⟨fun r a b c => by rw [zp_ur c]; exact h.1 r a b c, fun r a b => by rw [zp_ur a]; exact h.2.1 r a b, fun k a b c => by rw [zp_uk c]; exact h.2.2.1 k a b c, fun k a => by rw [zp_uk a]; exact h.2.2.2.1 k a, fun k a => by rw [zp_ur (by omega)]; exact h.2.2.2.2 k a⟩
/-- the gathered bytes -/
def zb_D (dl : Nat) (Gc Gm : zx_G) : Prop := dl ≤ 200 ∧ Gc 8 4 = nI dl ∧ Gm 32 8 = nI dl ∧ ∀ k, k < dl → Gc 9 k = Gm 39 k ∧ ∃ b, b < 256 ∧ Gm 39 k = nI b
def zb_P (dl at_ en : Nat) (Bc Bm Gc Gm : zx_G) : Prop := zb_K Bc Bm Gc Gm ∧ zb_U at_ en Gc Gm ∧ Gm 32 10 = 0 ∧ zb_D dl Gc Gm
theorem zb_P.step {dl at_ en : Nat} {Bc Bm Gc Gm : zx_G} (h : zb_P dl at_ en Bc Bm Gc Gm) (hl : at_ < en) : zb_P dl (at_ + 1) en Bc Bm (zx_up Gc 10 1 (nI (at_ + 1))) (zx_up Gm 32 11 (nI (at_ + 1))) := by
  obtain ⟨h1, ⟨u1, u2, u3, u4, u5, u6⟩, h3, d1, d2, d3, d4⟩ := h
  exact ⟨h1.step _ _, ⟨by omega, u2, zp_us, by rw [zp_uk (by omega)]; exact u4, zp_us, by rw [zp_uk (by omega)]; exact u6⟩, by rw [zp_uk (by omega)]; exact h3, d1, by rw [zp_ur (by omega)]; exact d2, by rw [zp_uk (by omega)]; exact d3, by rw [zp_ur (by omega), zp_ur (by omega)]; exact d4⟩
theorem zb_fail2 {G : zx_G} (h : ¬ G 32 10 = 0) (v : Int32) : f_M_fail v G = some (0, zx_up G 32 10 (G 32 10)) := by
  unfold f_M_fail f_M_fail_16
  rw [zp_pos h, zp_lt]
/-- a byte asked for after the end -/
theorem zb_take2 {v : Int32} {at_ en : Nat} {Gm : zx_G} (hv : ¬ v = 0) (h : en ≤ at_) (ha : at_ < 1000) (h11 : Gm 32 11 = nI at_) (h12 : Gm 32 12 = nI en) : f_M_take (zx_up Gm 32 10 v) = some (0, zx_up (zx_up Gm 32 10 v) 32 10 v) := by
  unfold f_M_take
  rw [zp_uk (by omega), zp_uk (by omega), h11, h12, zp_neg (nI_nlt h (by omega)), zp_bd (zb_fail2 (by rw [zp_us]; exact hv) 3), zp_us]
theorem zb_dead173 {k129 : Int32 → Int32 → Int32 → Int32 → zx_G → Option (Int32 × zx_G)} {n : Nat} {x5 x6 x7 x8 x9 x10 : Int32} {G : zx_G} (h : ¬ G 32 10 = 0) : f_M_extents_173 k129 (n + 1) x5 x6 x7 x8 x9 x10 G = f_M_extents_225 k129 x5 x6 x7 x8 G := by
  rw [f_M_extents_173]
  by_cases c : x9 ≤ x10
  · rw [zp_pos c]
  · rw [zp_neg c, zp_pos h]
theorem zb_dead129 {n : Nat} {x5 x6 x7 x8 : Int32} {G : zx_G} (h : ¬ G 32 10 = 0) : ∃ G', f_M_extents_225 (f_M_extents_129 (n + 1)) x5 x6 x7 x8 G = some (0, G') ∧ G' 32 10 = G 32 10 := by
  have t231 : ∃ G', f_M_extents_231 x7 G = some (0, G') ∧ G' 32 10 = G 32 10 := by
    unfold f_M_extents_231 f_M_extents_241
    by_cases c : x7 = 0
    · exact ⟨zx_up G 32 10 (G 32 10), by rw [zp_neg (fun z => z c), zp_bd (zb_fail2 h 3)], zp_us⟩
    · exact ⟨G, by rw [zp_pos c], rfl⟩
  unfold f_M_extents_225
  rw [zp_lt, f_M_extents_129]
  by_cases c1 : x6 ≤ x8 + (1 : Int32)
  · rw [zp_pos c1]; exact t231
  · rw [zp_neg c1]
    by_cases c2 : x7 = 0
    · rw [zp_neg (fun z => z c2), zp_pos h]; exact t231
    · rw [zp_pos c2]; exact t231
/-- the gathering of one stretch of bytes -/
theorem zb_gather {L a b dl at_ en : Nat} {Bc Bm Gc Gm : zx_G} (hF : zb_F L Bc Bm) (hP : zb_P dl at_ en Bc Bm Gc Gm) (ha : a < 256) (hb : b < 256) (h1 : a + b ≤ L) (h2 : dl + b ≤ 200) : ∃ Gm', f_M_gather (nI a) (nI b) Gm = some (0, Gm') ∧ zb_P (dl + b) at_ en Bc Bm (zx_up (zx_copy Gc 1 9 (nI a) (nI dl) (nI b)) 8 4 (nI (dl + b))) Gm' := by
  obtain ⟨hK, hU, h0, d1, d2, d3, d4⟩ := hP
  obtain ⟨f0, f1, f2, f3⟩ := hK.F hF
  obtain ⟨G1, a1, a2, a3, a4, a5⟩ := zt_put (fun k i H => f_M_gather_30 k (nI a) (nI b) i H) (fun H => some (0, zx_up H 32 8 (nI (dl + b)))) 39 b (fun i => dl + i) (fun i => Gm 33 (a + i)) (fun i j _ _ h => by have h' : dl + i = dl + j := h; omega) (fun H => ∀ q, q ≠ 39 → H q = Gm q) (fun H k _ hH q hq => by rw [zp_ur hq]; exact hH q hq)
    (fun k i H hi hH => by
      show f_M_gather_30 (k + 1) (nI a) (nI b) (nI i) H = f_M_gather_30 k (nI a) (nI b) (nI (i + 1)) _
      rw [f_M_gather_30, zp_neg (nI_ge hi (by omega)), nI_add, hH 32 (by omega), d3, nI_add, zp_gd (zp_in (by omega) (by omega)), zp_gd (zp_in (by omega) (by omega)), zp_lt, zp_lt, zp_cl (by omega), zp_cl (by omega), hH 33 (by omega), nI_1])
    (fun k H hH => by
      show f_M_gather_30 (k + 1) (nI a) (nI b) (nI b) H = _
      rw [f_M_gather_30, zp_pos (nI_le (Nat.le_refl _) (by omega)), zp_lt, hH 32 (by omega), d3, nI_add]) b 0 2048 Gm (fun _ _ => rfl) (by omega) (by omega)
  have c9 : ∀ j, zx_copy Gc 1 9 (nI a) (nI dl) (nI b) 9 j = if dl ≤ j ∧ j < dl + b then Gc 1 (a + (j - dl)) else Gc 9 j := fun j => by
    unfold zx_copy
    rw [zp_cl (by omega), zp_cl (by omega), zp_cl (by omega)]
    simp [zx_upA, va_cpy]
  have cr : ∀ q, q ≠ 9 → zx_copy Gc 1 9 (nI a) (nI dl) (nI b) q = Gc q := fun q hq => by
    unfold zx_copy
    simp [zx_upA, hq]
  refine ⟨zx_up G1 32 8 (nI (dl + b)), ?_, ⟨fun r x y z => by rw [zp_ur x, cr r y]; exact hK.1 r x y z, fun r x y => by rw [zp_ur x, a4 r y]; exact hK.2.1 r x y, fun k x y z => by rw [zp_uk x, a4 32 (by omega)]; exact hK.2.2.1 k x y z, fun k x => by rw [zp_ur (by omega), cr 10 (by omega)]; exact hK.2.2.2.1 k x, fun k x => by rw [zp_uk x, cr 8 (by omega)]; exact hK.2.2.2.2 k x⟩, ⟨hU.1, hU.2.1, by rw [zp_ur (by omega), cr 10 (by omega)]; exact hU.2.2.1, by rw [zp_ur (by omega), cr 10 (by omega)]; exact hU.2.2.2.1, by rw [zp_uk (by omega), a4 32 (by omega)]; exact hU.2.2.2.2.1, by rw [zp_uk (by omega), a4 32 (by omega)]; exact hU.2.2.2.2.2⟩, by rw [zp_uk (by omega), a4 32 (by omega)]; exact h0, h2, zp_us, zp_us, fun k hk => ?_⟩
  · unfold f_M_gather
    rw [f1, nI_add, zp_neg (nI_nlt h1 (by omega)), d3, nI_add, zp_pos (show nI (dl + b) ≤ (200 : Int32) from (zp_lec (c := (200 : Int32)) 200 rfl (by omega) (by omega)).mpr h2), zp_lt]
    exact a1
  · rw [zp_ur (by omega), zp_ur (by omega), c9]
    by_cases c : dl ≤ k
    · rw [if_pos ⟨c, hk⟩, f2 _ (by omega)]
      have := a3 (k - dl) (by omega) (by omega)
      rw [show dl + (k - dl) = k by omega] at this
      rw [this]
      exact ⟨rfl, f3 _ (by omega)⟩
    · rw [if_neg (by omega), a5 k (fun i _ hi => by omega)]
      exact d4 k (by omega)
/-- the pairs of the item's own entry -/
theorem zb_pairs {L c en : Nat} {Bc Bm : zx_G} {x5 x6 x8 : Int32} {k129 : Int32 → Int32 → Int32 → Int32 → zx_G → Option (Int32 × zx_G)} (hF : zb_F L Bc Bm) (hc : c < 256) (h5 : Bc 8 5 = nI L) : ∀ (rem j n1 n2 dl at_ : Nat) (Gc Gm : zx_G), j + rem = c → rem < n1 → rem + 1 < n2 → zb_P dl at_ en Bc Bm Gc Gm →
    ∃ (Gc' Gm' : zx_G) (v : Int32), f_I_readPairs_7 n1 (nI c) (nI j) Gc = some (v, Gc') ∧ f_M_extents_173 k129 n2 x5 x6 (1 : Int32) x8 (nI c) (nI j) Gm = f_M_extents_225 k129 x5 x6 (1 : Int32) x8 Gm' ∧ Gm' 32 10 = v ∧ (v = 0 → ∃ dl' at', zb_P dl' at' en Bc Bm Gc' Gm') := by
  intro rem
  induction rem with
  | zero =>
    intro j n1 n2 dl at_ Gc Gm hj hn1 hn2 hP
    obtain ⟨n1, rfl⟩ : ∃ k, n1 = k + 1 := ⟨n1 - 1, by omega⟩
    obtain ⟨n2, rfl⟩ : ∃ k, n2 = k + 1 := ⟨n2 - 1, by omega⟩
    exact ⟨Gc, Gm, 0, by rw [f_I_readPairs_7, zp_pos (nI_le (by omega) (by omega))], by rw [f_M_extents_173, zp_pos (nI_le (by omega) (by omega))], hP.2.2.1, fun _ => ⟨dl, at_, hP⟩⟩
  | succ rem ih =>
    intro j n1 n2 dl at_ Gc Gm hj hn1 hn2 hP
    obtain ⟨n1, rfl⟩ : ∃ k, n1 = k + 1 := ⟨n1 - 1, by omega⟩
    obtain ⟨n2, rfl⟩ : ∃ k, n2 = k + 1 := ⟨n2 - 1, by omega⟩
    obtain ⟨n3, hn3⟩ : ∃ k, n2 = k + 1 := ⟨n2 - 1, by omega⟩
    have h0 := hP.2.2.1
    have k219 : ∀ G, f_M_extents_219 k129 (f_M_extents_173 k129 n2) x5 x6 (1 : Int32) x8 (nI c) (nI j) G = f_M_extents_173 k129 n2 x5 x6 (1 : Int32) x8 (nI c) (nI (j + 1)) G := fun G => by
      unfold f_M_extents_219
      rw [zp_lt, nI_1]
    have d219 : ∀ G, ¬ G 32 10 = 0 → f_M_extents_219 k129 (f_M_extents_173 k129 n2) x5 x6 (1 : Int32) x8 (nI c) (nI j) G = f_M_extents_225 k129 x5 x6 (1 : Int32) x8 G := fun G hG => by
      rw [k219, hn3]
      exact zb_dead173 hG
    have n10 : ¬ (1 : Int32) = 0 := by decide
    rcases zb_take (hP.1.F hF) hP.2.1 h0 with ⟨t1, a, a1, a2, a3⟩ | ⟨t1, a2, a3⟩
    · have hP1 := hP.step t1
      rcases zb_take (hP1.1.F hF) hP1.2.1 hP1.2.2.1 with ⟨t2, b, b1, b2, b3⟩ | ⟨t2, b2, b3⟩
      · have hP2 := hP1.step t2
        have e5 : ∀ H : zx_G, zb_K Bc Bm H H → True := fun _ _ => trivial
        have g5 : zx_up (zx_up Gc 10 1 (nI (at_ + 1))) 10 1 (nI (at_ + 1 + 1)) 8 5 = nI L := (hP2.1.2.2.2.2 5 (by omega)).trans h5
        have g4 := hP2.2.2.2.2.1
        have hf1 := (hP2.1.F hF).2.1
        have hL := hF.1
        have dl2 := hP2.2.2.2.1
        have pC : f_I_readPairs_7 (n1 + 1) (nI c) (nI j) Gc = zx_if (nI L < nI (a + b)) (f_I_readPairs_60 (zx_up (zx_up Gc 10 1 (nI (at_ + 1))) 10 1 (nI (at_ + 1 + 1)))) (zx_if (nI (dl + b) ≤ (200 : Int32)) (zx_gd (zx_cpok (nI a) (nI dl) (nI b) 240 200) <| zx_lt (zx_copy (zx_up (zx_up Gc 10 1 (nI (at_ + 1))) 10 1 (nI (at_ + 1 + 1))) 1 9 (nI a) (nI dl) (nI b)) fun G_14 => zx_lt (zx_up G_14 8 4 ((G_14 8 4) + nI b)) fun G_15 => zx_lt (nI j + (1 : Int32)) fun x2_16 => f_I_readPairs_7 n1 (nI c) x2_16 G_15) (f_I_readPairs_60 (zx_up (zx_up Gc 10 1 (nI (at_ + 1))) 10 1 (nI (at_ + 1 + 1))))) := by
          rw [f_I_readPairs_7, zp_neg (nI_ge (by omega) (by omega)), zp_bd a2, zp_lt, zp_bd b2, zp_lt, zp_pos (nI_pos' (by omega)), g5, nI_add, g4, nI_add]
        have pM : f_M_extents_173 k129 (n2 + 1) x5 x6 (1 : Int32) x8 (nI c) (nI j) Gm = zx_bd (f_M_gather (nI a) (nI b) (zx_up (zx_up Gm 32 11 (nI (at_ + 1))) 32 11 (nI (at_ + 1 + 1)))) fun _ G_13 => f_M_extents_219 k129 (f_M_extents_173 k129 n2) x5 x6 (1 : Int32) x8 (nI c) (nI j) G_13 := by
          rw [f_M_extents_173, zp_neg (nI_ge (by omega) (by omega)), zp_neg (fun z => z h0), zp_bd a3, zp_lt, zp_bd b3, zp_lt, zp_neg n10, zp_neg (fun z => z hP2.2.2.1)]
        rw [pC, pM]
        by_cases q1 : L < a + b
        · have gm : f_M_gather (nI a) (nI b) (zx_up (zx_up Gm 32 11 (nI (at_ + 1))) 32 11 (nI (at_ + 1 + 1))) = some (0, zx_up (zx_up (zx_up Gm 32 11 (nI (at_ + 1))) 32 11 (nI (at_ + 1 + 1))) 32 10 (4 : Int32)) := by
            unfold f_M_gather f_M_gather_22
            rw [hf1, nI_add, zp_pos (nI_lt q1 (by omega)), zp_bd (zb_fail1 hP2.2.2.1 4)]
          refine ⟨_, _, 4, by rw [zp_pos (nI_lt q1 (by omega))]; rfl, by rw [zp_bd gm, d219 _ (by rw [zp_us]; decide)], zp_us, fun z => absurd z (by decide)⟩
        · by_cases q2 : dl + b ≤ 200
          · obtain ⟨Gm', e1, e2⟩ := zb_gather hF hP2 a1 b1 (by omega) q2
            have cp : zx_cpok (nI a) (nI dl) (nI b) 240 200 = true := by
              unfold zx_cpok
              rw [zp_cl (by omega), zp_cl (by omega), zp_cl (by omega)]
              exact decide_eq_true ⟨nI_pos (by omega), nI_pos (by omega), nI_pos (by omega), by omega, by omega⟩
            obtain ⟨Gc', Gm'', v, w1, w2, w3, w4⟩ := ih (j + 1) n1 n2 (dl + b) (at_ + 1 + 1) _ Gm' (by omega) (by omega) (by omega) e2
            refine ⟨Gc', Gm'', v, ?_, ?_, w3, w4⟩
            · have e84 : zx_copy (zx_up (zx_up Gc 10 1 (nI (at_ + 1))) 10 1 (nI (at_ + 1 + 1))) 1 9 (nI a) (nI dl) (nI b) 8 4 = nI dl := by
                unfold zx_copy
                show zx_upA _ 9 _ 8 4 = _
                simp only [zx_upA]
                rw [if_neg (by omega)]
                exact g4
              rw [zp_neg (nI_nlt (by omega) (by omega)), zp_pos (show nI (dl + b) ≤ (200 : Int32) from (zp_lec (c := (200 : Int32)) 200 rfl (by omega) (by omega)).mpr q2), zp_gd cp, zp_lt, zp_lt, zp_lt, e84, nI_add, nI_1]
              exact w1
            · rw [zp_bd e1, k219]
              exact w2
          · have gm : f_M_gather (nI a) (nI b) (zx_up (zx_up Gm 32 11 (nI (at_ + 1))) 32 11 (nI (at_ + 1 + 1))) = some (0, zx_up (zx_up (zx_up Gm 32 11 (nI (at_ + 1))) 32 11 (nI (at_ + 1 + 1))) 32 10 (4 : Int32)) := by
              unfold f_M_gather f_M_gather_22
              rw [hf1, nI_add, zp_neg (nI_nlt (by omega) (by omega)), hP2.2.2.2.2.2.1, nI_add, zp_neg (show ¬ nI (dl + b) ≤ (200 : Int32) from fun z => q2 ((zp_lec (c := (200 : Int32)) 200 rfl (by omega) (by omega)).mp z)), zp_bd (zb_fail1 hP2.2.2.1 4)]
            refine ⟨_, _, 4, by rw [zp_neg (nI_nlt (by omega) (by omega)), zp_neg (show ¬ nI (dl + b) ≤ (200 : Int32) from fun z => q2 ((zp_lec (c := (200 : Int32)) 200 rfl (by omega) (by omega)).mp z))]; rfl, by rw [zp_bd gm, d219 _ (by rw [zp_us]; decide)], zp_us, fun z => absurd z (by decide)⟩
      · refine ⟨_, zx_up (zx_up Gm 32 11 (nI (at_ + 1))) 32 10 (3 : Int32), 3, by rw [f_I_readPairs_7, zp_neg (nI_ge (by omega) (by omega)), zp_bd a2, zp_lt, zp_bd b2, zp_lt, zp_neg (by decide)], ?_, ?_, fun z => absurd z (by decide)⟩
        · rw [f_M_extents_173, zp_neg (nI_ge (by omega) (by omega)), zp_neg (fun z => z h0), zp_bd a3, zp_lt, zp_bd b3, zp_lt, zp_neg n10, zp_pos (by rw [zp_us]; decide), d219 _ (by rw [zp_us]; decide)]
        · exact zp_us
    · obtain ⟨u1, u2, u3, u4, u5, u6⟩ := hP.2.1
      have tk := zb_take2 (v := 3) (by decide) (Nat.le_of_eq t1.symm) (by omega) u5 u6
      refine ⟨_, zx_up (zx_up Gm 32 10 (3 : Int32)) 32 10 (3 : Int32), 3, by rw [f_I_readPairs_7, zp_neg (nI_ge (by omega) (by omega)), zp_bd a2, zp_lt, zp_bd a2, zp_lt, zp_neg (by decide)], ?_, ?_, fun z => absurd z (by decide)⟩
      · rw [f_M_extents_173, zp_neg (nI_ge (by omega) (by omega)), zp_neg (fun z => z h0), zp_bd a3, zp_lt, zp_bd tk, zp_lt, zp_neg n10, zp_pos (by rw [zp_us]; decide), d219 _ (by rw [zp_us]; decide)]
      · exact zp_us
