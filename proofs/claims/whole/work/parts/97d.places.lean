/-! the item's places: the entries -/
/-- pairs of another entry are passed over -/
theorem zb_skipM {L c en : Nat} {Bc Bm : zx_G} {x5 x6 x8 : Int32} {k129 : Int32 → Int32 → Int32 → Int32 → zx_G → Option (Int32 × zx_G)} (hF : zb_F L Bc Bm) (hc : c < 256) : ∀ (rem j n2 dl at_ : Nat) (Gc Gm : zx_G), j + rem = c → rem + 1 < n2 → zb_P dl at_ en Bc Bm Gc Gm →
    (2 * rem ≤ en - at_ ∧ ∃ Gm', f_M_extents_173 k129 n2 x5 x6 (0 : Int32) x8 (nI c) (nI j) Gm = f_M_extents_225 k129 x5 x6 (0 : Int32) x8 Gm' ∧ zb_P dl (at_ + 2 * rem) en Bc Bm (zx_up Gc 10 1 (nI (at_ + 2 * rem))) Gm') ∨ (en - at_ < 2 * rem ∧ ∃ Gm', f_M_extents_173 k129 n2 x5 x6 (0 : Int32) x8 (nI c) (nI j) Gm = f_M_extents_225 k129 x5 x6 (0 : Int32) x8 Gm' ∧ Gm' 32 10 = 3) := by
  intro rem
  induction rem with
  | zero =>
    intro j n2 dl at_ Gc Gm hj hn2 hP
    obtain ⟨n2, rfl⟩ : ∃ k, n2 = k + 1 := ⟨n2 - 1, by omega⟩
    left
    refine ⟨by omega, Gm, by rw [f_M_extents_173, zp_pos (nI_le (by omega) (by omega))], ?_⟩
    obtain ⟨h1, ⟨u1, u2, u3, u4, u5, u6⟩, h3, d1, d2, d3, d4⟩ := hP
    refine ⟨⟨fun r a b c => by rw [zp_ur c]; exact h1.1 r a b c, h1.2.1, h1.2.2.1, fun k a => by rw [zp_uk a]; exact h1.2.2.2.1 k a, fun k a => by rw [zp_ur (by omega)]; exact h1.2.2.2.2 k a⟩, ⟨u1, u2, zp_us, by rw [zp_uk (by omega)]; exact u4, u5, u6⟩, h3, d1, by rw [zp_ur (by omega)]; exact d2, d3, by rw [zp_ur (by omega)]; exact d4⟩
  | succ rem ih =>
    intro j n2 dl at_ Gc Gm hj hn2 hP
    obtain ⟨n2, rfl⟩ : ∃ k, n2 = k + 1 := ⟨n2 - 1, by omega⟩
    obtain ⟨n3, hn3⟩ : ∃ k, n2 = k + 1 := ⟨n2 - 1, by omega⟩
    have h0 := hP.2.2.1
    have k219 : ∀ G, f_M_extents_219 k129 (f_M_extents_173 k129 n2) x5 x6 (0 : Int32) x8 (nI c) (nI j) G = f_M_extents_173 k129 n2 x5 x6 (0 : Int32) x8 (nI c) (nI (j + 1)) G := fun G => by
      unfold f_M_extents_219
      rw [zp_lt, nI_1]
    have d219 : ∀ G, ¬ G 32 10 = 0 → f_M_extents_219 k129 (f_M_extents_173 k129 n2) x5 x6 (0 : Int32) x8 (nI c) (nI j) G = f_M_extents_225 k129 x5 x6 (0 : Int32) x8 G := fun G hG => by
      rw [k219, hn3]
      exact zb_dead173 hG
    have z0 : (0 : Int32) = 0 := rfl
    obtain ⟨u1, u2, u3, u4, u5, u6⟩ := hP.2.1
    rcases zb_take (hP.1.F hF) hP.2.1 h0 with ⟨t1, a, a1, a2, a3⟩ | ⟨t1, a2, a3⟩
    · have hP1 := hP.step t1
      rcases zb_take (hP1.1.F hF) hP1.2.1 hP1.2.2.1 with ⟨t2, b, b1, b2, b3⟩ | ⟨t2, b2, b3⟩
      · have hP2 := hP1.step t2
        have pM : f_M_extents_173 k129 (n2 + 1) x5 x6 (0 : Int32) x8 (nI c) (nI j) Gm = f_M_extents_173 k129 n2 x5 x6 (0 : Int32) x8 (nI c) (nI (j + 1)) (zx_up (zx_up Gm 32 11 (nI (at_ + 1))) 32 11 (nI (at_ + 1 + 1))) := by
          rw [f_M_extents_173, zp_neg (nI_ge (by omega) (by omega)), zp_neg (fun z => z h0), zp_bd a3, zp_lt, zp_bd b3, zp_lt, zp_pos z0, k219]
        rcases ih (j + 1) n2 dl (at_ + 1 + 1) _ _ (by omega) (by omega) hP2 with ⟨w1, Gm', w2, w3⟩ | ⟨w1, Gm', w2, w3⟩
        · left
          refine ⟨by omega, Gm', pM.trans w2, ?_⟩
          have e : zx_up (zx_up (zx_up Gc 10 1 (nI (at_ + 1))) 10 1 (nI (at_ + 1 + 1))) 10 1 (nI (at_ + 1 + 1 + 2 * rem)) = zx_up Gc 10 1 (nI (at_ + 2 * (rem + 1))) := by
            funext p k
            rw [show at_ + 1 + 1 + 2 * rem = at_ + 2 * (rem + 1) by omega, zp_at, zp_at, zp_at, zp_at]
            by_cases q : p = 10 ∧ k = 1
            · rw [if_pos q, if_pos q]
            · rw [if_neg q, if_neg q, if_neg q, if_neg q]
          rw [e, show at_ + 1 + 1 + 2 * rem = at_ + 2 * (rem + 1) by omega] at w3
          exact w3
        · right
          exact ⟨by omega, Gm', pM.trans w2, w3⟩
      · right
        have t2' : at_ + 1 = en := t2
        refine ⟨by omega, zx_up (zx_up Gm 32 11 (nI (at_ + 1))) 32 10 (3 : Int32), ?_, zp_us⟩
        rw [f_M_extents_173, zp_neg (nI_ge (by omega) (by omega)), zp_neg (fun z => z h0), zp_bd a3, zp_lt, zp_bd b3, zp_lt, zp_pos z0, d219 _ (by rw [zp_us]; decide)]
    · right
      have tk := zb_take2 (v := 3) (by decide) (Nat.le_of_eq t1.symm) (by omega) u5 u6
      refine ⟨by omega, zx_up (zx_up Gm 32 10 (3 : Int32)) 32 10 (3 : Int32), ?_, zp_us⟩
      rw [f_M_extents_173, zp_neg (nI_ge (by omega) (by omega)), zp_neg (fun z => z h0), zp_bd a3, zp_lt, zp_bd tk, zp_lt, zp_pos z0, d219 _ (by rw [zp_us]; decide)]
theorem zb_pairs0 {dl at_ en : Nat} {Bc Bm Gc Gm : zx_G} (h : zb_P dl at_ en Bc Bm Gc Gm) (hz : dl = 0) : zb_P 0 at_ en Bc Bm (zx_up Gc 8 4 (0 : Int32)) Gm := by
  subst hz
  obtain ⟨h1, ⟨u1, u2, u3, u4, u5, u6⟩, h3, d1, d2, d3, d4⟩ := h
  exact ⟨⟨fun r a b c => by rw [zp_ur a]; exact h1.1 r a b c, h1.2.1, h1.2.2.1, fun k a => by rw [zp_ur (by omega)]; exact h1.2.2.2.1 k a, fun k a => by rw [zp_uk a]; exact h1.2.2.2.2 k a⟩, ⟨u1, u2, by rw [zp_ur (by omega)]; exact u3, by rw [zp_ur (by omega)]; exact u4, u5, u6⟩, h3, by omega, zp_us, d3, fun k hk => absurd hk (by omega)⟩
/-- what stands before the item's own entry is read: nothing is gathered yet -/
def zb_P0 (at_ en : Nat) (Bc Bm Gc Gm : zx_G) : Prop := zb_K Bc Bm Gc Gm ∧ zb_U at_ en Gc Gm ∧ Gm 32 10 = 0 ∧ Gm 32 8 = 0
theorem zb_P0.P {at_ en : Nat} {Bc Bm Gc Gm : zx_G} (h : zb_P0 at_ en Bc Bm Gc Gm) : zb_P 0 at_ en Bc Bm (zx_up Gc 8 4 (0 : Int32)) Gm := by
  obtain ⟨h1, ⟨u1, u2, u3, u4, u5, u6⟩, h3, h4⟩ := h
  exact ⟨⟨fun r a b c => by rw [zp_ur a]; exact h1.1 r a b c, h1.2.1, h1.2.2.1, fun k a => by rw [zp_ur (by omega)]; exact h1.2.2.2.1 k a, fun k a => by rw [zp_uk a]; exact h1.2.2.2.2 k a⟩, ⟨u1, u2, by rw [zp_ur (by omega)]; exact u3, by rw [zp_ur (by omega)]; exact u4, u5, u6⟩, h3, by omega, zp_us, h4, fun k hk => absurd hk (by omega)⟩
theorem zb_P0.step {at_ en : Nat} {Bc Bm Gc Gm : zx_G} (h : zb_P0 at_ en Bc Bm Gc Gm) (hl : at_ < en) : zb_P0 (at_ + 1) en Bc Bm (zx_up Gc 10 1 (nI (at_ + 1))) (zx_up Gm 32 11 (nI (at_ + 1))) := by
  obtain ⟨h1, ⟨u1, u2, u3, u4, u5, u6⟩, h3, h4⟩ := h
  exact ⟨h1.step _ _, ⟨by omega, u2, zp_us, by rw [zp_uk (by omega)]; exact u4, zp_us, by rw [zp_uk (by omega)]; exact u6⟩, by rw [zp_uk (by omega)]; exact h3, by rw [zp_uk (by omega)]; exact h4⟩
theorem zb_skipP {at_ en r : Nat} {Bc Bm Gc Gm Gm' : zx_G} (h : zb_P0 at_ en Bc Bm Gc Gm) (h2 : zb_P 0 r en Bc Bm (zx_up (zx_up Gc 8 4 (0 : Int32)) 10 1 (nI r)) Gm') : zb_P0 r en Bc Bm (zx_up Gc 10 1 (nI r)) Gm' := by
  obtain ⟨h1, ⟨u1, u2, u3, u4, u5, u6⟩, h3, h4⟩ := h
  obtain ⟨k1, ⟨v1, v2, v3, v4, v5, v6⟩, k3, d1, d2, d3, d4⟩ := h2
  exact ⟨⟨fun r a b c => by rw [zp_ur c]; exact h1.1 r a b c, k1.2.1, k1.2.2.1, fun k a => by rw [zp_uk a]; exact h1.2.2.2.1 k a, fun k a => by rw [zp_ur (by omega)]; exact h1.2.2.2.2 k a⟩, ⟨v1, v2, zp_us, by rw [zp_uk (by omega)]; exact u4, v5, v6⟩, k3, d3⟩
theorem zb_places {L nm m en : Nat} {Bc Bm : zx_G} (hF : zb_F L Bc Bm) (hnm : nm < 256) (hm : m < 256) (h5 : Bc 8 5 = nI L) (h6 : Bc 8 6 = nI nm) : ∀ (rem i n1 n2 at_ : Nat) (Gc Gm : zx_G), i + rem = m → rem < n1 → rem + 1 < n2 → zb_P0 at_ en Bc Bm Gc Gm →
    ∃ (Gc' Gm' : zx_G) (v : Int32), f_I_readPlaces_35 n1 (nI m) (nI i) Gc = some (v, Gc') ∧ f_M_extents_129 n2 (nI nm) (nI m) (0 : Int32) (nI i) Gm = some (0, Gm') ∧ Gm' 32 10 = v ∧ (v = 0 → ∃ dl' at', zb_P dl' at' en Bc Bm Gc' Gm') := by
  intro rem
  induction rem with
  | zero =>
    intro i n1 n2 at_ Gc Gm hi hn1 hn2 hP
    obtain ⟨n1, rfl⟩ : ∃ k, n1 = k + 1 := ⟨n1 - 1, by omega⟩
    obtain ⟨n2, rfl⟩ : ∃ k, n2 = k + 1 := ⟨n2 - 1, by omega⟩
    refine ⟨Gc, zx_up Gm 32 10 (3 : Int32), 3, by rw [f_I_readPlaces_35, zp_pos (nI_le (by omega) (by omega))], ?_, zp_us, fun z => absurd z (by decide)⟩
    rw [f_M_extents_129, zp_pos (nI_le (by omega) (by omega))]
    unfold f_M_extents_231 f_M_extents_241
    rw [zp_neg (show ¬ ¬ (0 : Int32) = 0 from fun z => z rfl), zp_bd (zb_fail1 hP.2.2.1 3)]
  | succ rem ih =>
    intro i n1 n2 at_ Gc Gm hi hn1 hn2 hP
    obtain ⟨n1, rfl⟩ : ∃ k, n1 = k + 1 := ⟨n1 - 1, by omega⟩
    obtain ⟨n2, rfl⟩ : ∃ k, n2 = k + 2 := ⟨n2 - 2, by omega⟩
    have h0 := hP.2.2.1
    obtain ⟨u1, u2, u3, u4, u5, u6⟩ := hP.2.1
    have hL := hF.1
    have z0 : ¬ ¬ (0 : Int32) = 0 := fun z => z rfl
    -- the reference's flag
    have pM : ∀ (r : Int32) (G1 : zx_G), f_M_take Gm = some (r, G1) → ∃ fl : Int32, (fl = if r = nI nm then 1 else 0) ∧ f_M_extents_129 (n2 + 2) (nI nm) (nI m) (0 : Int32) (nI i) Gm = f_M_extents_162 (f_M_extents_129 (n2 + 1)) (nI nm) (nI m) (nI i) fl G1 := by
      intro r G1 ht
      rw [f_M_extents_129, zp_neg (nI_ge (by omega) (by omega)), zp_neg z0, zp_neg (show ¬ ¬ Gm 32 10 = 0 from fun z => z h0), zp_bd ht]
      by_cases q : r = nI nm
      · exact ⟨1, by rw [if_pos q], by rw [zp_neg (fun z => z q)]⟩
      · exact ⟨0, by rw [if_neg q], by rw [zp_pos q]⟩
    rcases zb_take (hP.1.F hF) hP.2.1 h0 with ⟨t1, a, a1, a2, a3⟩ | ⟨t1, a2, a3⟩
    · have hP1 := hP.step t1
      obtain ⟨fl, fl1, fl2⟩ := pM _ _ a3
      rcases zb_take (hP1.1.F hF) hP1.2.1 hP1.2.2.1 with ⟨t2, b, b1, b2, b3⟩ | ⟨t2, b2, b3⟩
      · have hP2 := hP1.step t2
        have g6 : zx_up (zx_up Gc 10 1 (nI (at_ + 1))) 10 1 (nI (at_ + 1 + 1)) 8 6 = nI nm := (hP2.1.2.2.2.2 6 (by omega)).trans h6
        have e162 : f_M_extents_129 (n2 + 2) (nI nm) (nI m) (0 : Int32) (nI i) Gm = f_M_extents_173 (f_M_extents_129 (n2 + 1)) 2048 (nI nm) (nI m) fl (nI i) (nI b) (0 : Int32) (zx_up (zx_up Gm 32 11 (nI (at_ + 1))) 32 11 (nI (at_ + 1 + 1))) := by
          rw [fl2]
          unfold f_M_extents_162
          rw [zp_lt, zp_bd b3, zp_lt, zp_lt]
        by_cases q : a = nm
        · -- the item's own entry
          rw [if_pos (by rw [q])] at fl1
          subst fl1
          obtain ⟨Gc', Gm', v, w1, w2, w3, w4⟩ := zb_pairs (x5 := nI nm) (x6 := nI m) (x8 := nI i) (k129 := f_M_extents_129 (n2 + 1)) (c := b) hF b1 h5 b 0 2048 2048 0 _ _ _ (by omega) (by omega) (by omega) hP2.P
          refine ⟨Gc', Gm', v, ?_, ?_, w3, w4⟩
          · have er : f_I_readPairs (nI b) (zx_up (zx_up Gc 10 1 (nI (at_ + 1))) 10 1 (nI (at_ + 1 + 1))) = some (v, Gc') := by
              unfold f_I_readPairs
              rw [zp_lt, zp_lt]
              exact w1
            rw [f_I_readPlaces_35, zp_neg (nI_ge (by omega) (by omega)), zp_bd a2, zp_lt, zp_bd b2, zp_lt, zp_pos (nI_pos' (by omega)), g6, q, zp_neg (fun z => z rfl), zp_bd er]
          · rw [e162]
            refine (show f_M_extents_173 (f_M_extents_129 (n2 + 1)) 2048 (nI nm) (nI m) (1 : Int32) (nI i) (nI b) (0 : Int32) _ = _ from w2).trans ?_
            unfold f_M_extents_225
            rw [zp_lt, f_M_extents_129]
            have t231 : f_M_extents_231 (1 : Int32) Gm' = some (0, Gm') := by
              unfold f_M_extents_231
              rw [zp_pos (by decide)]
              rfl
            by_cases q2 : nI m ≤ nI i + (1 : Int32)
            · rw [zp_pos q2, t231]
            · rw [zp_neg q2, zp_pos (by decide), t231]
        · have qn : ¬ nI a = nI nm := fun z => q ((nI_eq (by omega) (by omega)).mp z)
          rw [if_neg qn] at fl1
          subst fl1
          have sk := zb_skipM (x5 := nI nm) (x6 := nI m) (x8 := nI i) (k129 := f_M_extents_129 (n2 + 1)) (c := b) hF b1 b 0 2048 0 (at_ + 1 + 1) _ _ (by omega) (by omega) hP2.P
          obtain ⟨-, ⟨v1, v2, v3, v4, v5, v6⟩, -, -⟩ := id hP2
          have pC : f_I_readPlaces_35 (n1 + 1) (nI m) (nI i) Gc = zx_bd (f_U_skip_10 ((2 : Int32) * nI b) (zx_up (zx_up Gc 10 1 (nI (at_ + 1))) 10 1 (nI (at_ + 1 + 1)))) fun r_13 G_12 => zx_if (¬ r_13 = 0) (zx_lt (nI i + (1 : Int32)) fun x3_16 => f_I_readPlaces_35 n1 (nI m) x3_16 G_12) (some ((3 : Int32), G_12)) := by
            rw [f_I_readPlaces_35, zp_neg (nI_ge (by omega) (by omega)), zp_bd a2, zp_lt, zp_bd b2, zp_lt, zp_pos (nI_pos' (by omega)), g6, zp_pos qn]
          have e2b : (2 : Int32) * nI b = nI (2 * b) := pk_mul 2 b
          rcases sk with ⟨s1, Gm', s2, s3⟩ | ⟨s1, Gm', s2, s3⟩
          · have hP3 := zb_skipP hP2 s3
            have eS : f_U_skip_10 (nI (2 * b)) (zx_up (zx_up Gc 10 1 (nI (at_ + 1))) 10 1 (nI (at_ + 1 + 1))) = some (1, zx_up (zx_up (zx_up Gc 10 1 (nI (at_ + 1))) 10 1 (nI (at_ + 1 + 1))) 10 1 (nI (at_ + 1 + 1 + 2 * b))) := by
              unfold f_U_skip_10
              rw [zp_neg (nI_pos (by omega)), v3, v4, pk_sub (by omega), zp_pos (nI_le s1 (by omega)), zp_lt, nI_add]
              rfl
            obtain ⟨Gc', Gm'', v, w1, w2, w3, w4⟩ := ih (i + 1) n1 (n2 + 1) (at_ + 1 + 1 + 2 * b) _ Gm' (by omega) (by omega) (by omega) hP3
            refine ⟨Gc', Gm'', v, ?_, ?_, w3, w4⟩
            · rw [pC, e2b, zp_bd eS, zp_pos (by decide), zp_lt, nI_1]
              exact w1
            · rw [e162]
              refine (show f_M_extents_173 (f_M_extents_129 (n2 + 1)) 2048 (nI nm) (nI m) (0 : Int32) (nI i) (nI b) (0 : Int32) _ = _ from s2).trans ?_
              unfold f_M_extents_225
              rw [zp_lt, nI_1]
              exact w2
          · obtain ⟨Gm'', d1, d2⟩ := zb_dead129 (n := n2) (x5 := nI nm) (x6 := nI m) (x7 := (0 : Int32)) (x8 := nI i) (G := Gm') (by rw [s3]; decide)
            refine ⟨zx_up (zx_up Gc 10 1 (nI (at_ + 1))) 10 1 (nI (at_ + 1 + 1)), Gm'', 3, ?_, e162.trans ((show f_M_extents_173 (f_M_extents_129 (n2 + 1)) 2048 (nI nm) (nI m) (0 : Int32) (nI i) (nI b) (0 : Int32) _ = _ from s2).trans d1), d2.trans s3, fun z => absurd z (by decide)⟩
            have eS : f_U_skip_10 (nI (2 * b)) (zx_up (zx_up Gc 10 1 (nI (at_ + 1))) 10 1 (nI (at_ + 1 + 1))) = some (0, zx_up (zx_up Gc 10 1 (nI (at_ + 1))) 10 1 (nI (at_ + 1 + 1))) := by
              unfold f_U_skip_10
              rw [zp_neg (nI_pos (by omega)), v3, v4, pk_sub (by omega), zp_neg (nI_ge s1 (by omega))]
              rfl
            rw [pC, e2b, zp_bd eS, zp_neg (show ¬ ¬ (0 : Int32) = 0 from fun z => z rfl)]
      · have e162 : f_M_extents_129 (n2 + 2) (nI nm) (nI m) (0 : Int32) (nI i) Gm = f_M_extents_225 (f_M_extents_129 (n2 + 1)) (nI nm) (nI m) fl (nI i) (zx_up (zx_up Gm 32 11 (nI (at_ + 1))) 32 10 (3 : Int32)) := by
          rw [fl2]
          unfold f_M_extents_162
          rw [zp_lt, zp_bd b3, zp_lt, zp_lt]
          exact zb_dead173 (n := 2047) (by rw [zp_us]; decide)
        obtain ⟨Gm'', d1, d2⟩ := zb_dead129 (n := n2) (x5 := nI nm) (x6 := nI m) (x7 := fl) (x8 := nI i) (G := zx_up (zx_up Gm 32 11 (nI (at_ + 1))) 32 10 (3 : Int32)) (by rw [zp_us]; decide)
        refine ⟨zx_up Gc 10 1 (nI (at_ + 1)), Gm'', 3, ?_, e162.trans d1, by rw [d2, zp_us], fun z => absurd z (by decide)⟩
        rw [f_I_readPlaces_35, zp_neg (nI_ge (by omega) (by omega)), zp_bd a2, zp_lt, zp_bd b2, zp_lt, zp_neg (by decide)]
    · obtain ⟨fl, fl1, fl2⟩ := pM _ _ a3
      have tk := zb_take2 (v := 3) (by decide) (Nat.le_of_eq t1.symm) (by omega) u5 u6
      have e162 : f_M_extents_129 (n2 + 2) (nI nm) (nI m) (0 : Int32) (nI i) Gm = f_M_extents_225 (f_M_extents_129 (n2 + 1)) (nI nm) (nI m) fl (nI i) (zx_up (zx_up Gm 32 10 (3 : Int32)) 32 10 (3 : Int32)) := by
        rw [fl2]
        unfold f_M_extents_162
        rw [zp_lt, zp_bd tk, zp_lt, zp_lt]
        exact zb_dead173 (n := 2047) (by rw [zp_us]; decide)
      obtain ⟨Gm'', d1, d2⟩ := zb_dead129 (n := n2) (x5 := nI nm) (x6 := nI m) (x7 := fl) (x8 := nI i) (G := zx_up (zx_up Gm 32 10 (3 : Int32)) 32 10 (3 : Int32)) (by rw [zp_us]; decide)
      refine ⟨Gc, Gm'', 3, ?_, e162.trans d1, by rw [d2, zp_us], fun z => absurd z (by decide)⟩
      rw [f_I_readPlaces_35, zp_neg (nI_ge (by omega) (by omega)), zp_bd a2, zp_lt, zp_bd a2, zp_lt, zp_neg (by decide)]
