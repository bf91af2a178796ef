/-! the item's links: one property -/
def zb_ok (n : Nat) (v : Int32) : Prop := v = -1 ∨ ∃ k, k < n ∧ v = nI k
theorem zb_ok.neg {n : Nat} {v : Int32} (h : zb_ok n v) (hn : n ≤ 16) : v < 0 ↔ v = -1 := by
  rcases h with h | ⟨k, h1, h2⟩
  · rw [h]; decide
  · constructor
    · intro z; rw [h2] at z; exact absurd z (nI_pos (by omega))
    · intro z; rw [z]; decide
theorem zb_ok.pos {n : Nat} {v : Int32} (h : zb_ok n v) (hn : n ≤ 16) : 0 ≤ v ↔ ¬ v = -1 := by
  rcases h with h | ⟨k, h1, h2⟩
  · rw [h]; decide
  · constructor
    · intro _ z; rw [z] at h2; exact zb_nm1 (by omega) h2.symm
    · intro _; rw [h2]; exact nI_pos' (by omega)
def zb_K2 (Bc Bm Gc Gm : zx_G) : Prop := (∀ r, r ≠ 8 → r ≠ 10 → Gc r = Bc r) ∧ (∀ r, r ≠ 32 → Gm r = Bm r) ∧ (∀ k, k ≠ 10 → k ≠ 11 → k ≠ 13 → k ≠ 14 → k ≠ 15 → Gm 32 k = Bm 32 k) ∧ (∀ k, k ≠ 1 → Gc 10 k = Bc 10 k) ∧ ∀ k, k ≠ 8 → k ≠ 9 → k ≠ 10 → Gc 8 k = Bc 8 k
theorem zb_K2.F {L : Nat} {Bc Bm Gc Gm : zx_G} (h : zb_K2 Bc Bm Gc Gm) (hF : zb_F L Bc Bm) : zb_F L Gc Gm := hF.keep (h.1 1 (by omega) (by omega)) (h.2.2.1 0 (by omega) (by omega) (by omega) (by omega) (by omega)) (h.2.1 33 (by omega))
theorem zb_K2.R {L n : Nat} {Bc Bm Gc Gm : zx_G} (h : zb_K2 Bc Bm Gc Gm) (hR : zb_R L n Bc Bm) : zb_R L n Gc Gm := hR.keep (h.1 2 (by omega) (by omega)) (h.1 3 (by omega) (by omega)) (h.1 4 (by omega) (by omega)) (h.1 5 (by omega) (by omega)) (h.1 6 (by omega) (by omega)) (h.1 7 (by omega) (by omega)) (h.2.2.1 2 (by omega) (by omega) (by omega) (by omega) (by omega)) (h.2.1 34 (by omega)) (h.2.1 35 (by omega)) (h.2.1 36 (by omega)) (h.2.1 37 (by omega)) (h.2.1 38 (by omega))
/-- the three links on both sides -/
def zb_L (n : Nat) (Gc Gm : zx_G) : Prop := zb_ok n (Gc 8 8) ∧ zb_ok n (Gc 8 9) ∧ zb_ok n (Gc 8 10) ∧ Gm 32 13 = Gc 8 8 ∧ Gm 32 14 = Gc 8 9 ∧ Gm 32 15 = Gc 8 10
/-- while links are read -/
def zb_Q (n at_ en : Nat) (Bc Bm Gc Gm : zx_G) : Prop := zb_K2 Bc Bm Gc Gm ∧ zb_U at_ en Gc Gm ∧ Gm 32 10 = 0 ∧ zb_L n Gc Gm
theorem zb_Q.step {n at_ en : Nat} {Bc Bm Gc Gm : zx_G} (h : zb_Q n at_ en Bc Bm Gc Gm) (hl : at_ < en) : zb_Q n (at_ + 1) en Bc Bm (zx_up Gc 10 1 (nI (at_ + 1))) (zx_up Gm 32 11 (nI (at_ + 1))) := by
  obtain ⟨h1, ⟨u1, u2, u3, u4, u5, u6⟩, h3, l1, l2, l3, l4, l5, l6⟩ := h
  refine ⟨⟨fun r a b => by rw [zp_ur b]; exact h1.1 r a b, fun r a => by rw [zp_ur a]; exact h1.2.1 r a, fun k a b c d e => by rw [zp_uk b]; exact h1.2.2.1 k a b c d e, fun k a => by rw [zp_uk a]; exact h1.2.2.2.1 k a, fun k a b c => by rw [zp_ur (by omega)]; exact h1.2.2.2.2 k a b c⟩, ⟨by omega, u2, zp_us, by rw [zp_uk (by omega)]; exact u4, zp_us, by rw [zp_uk (by omega)]; exact u6⟩, by rw [zp_uk (by omega)]; exact h3, ?_⟩
  unfold zb_L
  rw [zp_ur (by omega), zp_uk (by omega), zp_uk (by omega), zp_uk (by omega)]
  exact ⟨l1, l2, l3, l4, l5, l6⟩
/-- the reference's three fields after a property -/
def zb_new (want ty : Int32) (old k : Int32) : Int32 := if ty = want ∧ old = -1 then k else old
theorem zb_44 {n k : Nat} {ty : Int32} {Gc Gm : zx_G} (hn : n ≤ 16) (hL : zb_L n Gc Gm) : f_M_associate_44 (nI k) ty Gm = some (0, zx_up (zx_up (zx_up Gm 32 13 (zb_new 115 ty (Gc 8 8) (nI k))) 32 14 (zb_new 99 ty (Gc 8 9) (nI k))) 32 15 (zb_new 120 ty (Gc 8 10) (nI k))) := by
  obtain ⟨l1, l2, l3, l4, l5, l6⟩ := hL
  have k116 : ∀ (v : Int32) (G : zx_G), f_M_associate_116 v G = some (0, zx_up G 32 15 v) := fun v G => by
    unfold f_M_associate_116
    rw [zp_lt]
  have k91 : ∀ (v : Int32) (G : zx_G), G 32 15 = Gc 8 10 → f_M_associate_91 (nI k) ty v G = some (0, zx_up (zx_up G 32 14 v) 32 15 (zb_new 120 ty (Gc 8 10) (nI k))) := fun v G h => by
    unfold f_M_associate_91 f_M_associate_112 zb_new
    rw [zp_lt, k116, k116, zp_uk (by omega), h]
    by_cases c1 : ty = (120 : Int32)
    · rw [zp_neg (fun z => z c1)]
      by_cases c2 : Gc 8 10 = -1
      · rw [zp_neg (fun z => ((l3.pos hn).mp z) c2), if_pos ⟨c1, c2⟩]
      · rw [zp_pos ((l3.pos hn).mpr c2), if_neg (fun z => c2 z.2)]
    · rw [zp_pos c1, if_neg (fun z => c1 z.1)]
  have k66 : ∀ (v : Int32) (G : zx_G), G 32 14 = Gc 8 9 → G 32 15 = Gc 8 10 → f_M_associate_66 (nI k) ty v G = some (0, zx_up (zx_up (zx_up G 32 13 v) 32 14 (zb_new 99 ty (Gc 8 9) (nI k))) 32 15 (zb_new 120 ty (Gc 8 10) (nI k))) := fun v G h1 h2 => by
    have h2' : zx_up G 32 13 v 32 15 = Gc 8 10 := by rw [zp_uk (by omega)]; exact h2
    unfold f_M_associate_66 f_M_associate_87
    rw [zp_lt, k91 _ _ h2', k91 _ _ h2', zp_uk (by omega), h1]
    have e : ∀ v', v' = zb_new 99 ty (Gc 8 9) (nI k) → (some (0, zx_up (zx_up (zx_up G 32 13 v) 32 14 v') 32 15 (zb_new 120 ty (Gc 8 10) (nI k))) : Option (Int32 × zx_G)) = some (0, zx_up (zx_up (zx_up G 32 13 v) 32 14 (zb_new 99 ty (Gc 8 9) (nI k))) 32 15 (zb_new 120 ty (Gc 8 10) (nI k))) := fun v' hv => by rw [hv]
    by_cases c1 : ty = (99 : Int32)
    · rw [zp_neg (fun z => z c1)]
      by_cases c2 : Gc 8 9 = -1
      · rw [zp_neg (fun z => ((l2.pos hn).mp z) c2)]
        exact e _ (by unfold zb_new; rw [if_pos ⟨c1, c2⟩])
      · rw [zp_pos ((l2.pos hn).mpr c2)]
        exact e _ (by unfold zb_new; rw [if_neg (fun z => c2 z.2)])
    · rw [zp_pos c1]
      exact e _ (by unfold zb_new; rw [if_neg (fun z => c1 z.1)])
  unfold f_M_associate_44 f_M_associate_62
  rw [k66 _ _ l5 l6, k66 _ _ l5 l6, l4]
  have e : ∀ v', v' = zb_new 115 ty (Gc 8 8) (nI k) → (some (0, zx_up (zx_up (zx_up Gm 32 13 v') 32 14 (zb_new 99 ty (Gc 8 9) (nI k))) 32 15 (zb_new 120 ty (Gc 8 10) (nI k))) : Option (Int32 × zx_G)) = some (0, zx_up (zx_up (zx_up Gm 32 13 (zb_new 115 ty (Gc 8 8) (nI k))) 32 14 (zb_new 99 ty (Gc 8 9) (nI k))) 32 15 (zb_new 120 ty (Gc 8 10) (nI k))) := fun v' hv => by rw [hv]
  by_cases c1 : ty = (115 : Int32)
  · rw [zp_neg (fun z => z c1)]
    by_cases c2 : Gc 8 8 = -1
    · rw [zp_neg (fun z => ((l1.pos hn).mp z) c2)]
      exact e _ (by unfold zb_new; rw [if_pos ⟨c1, c2⟩])
    · rw [zp_pos ((l1.pos hn).mpr c2)]
      exact e _ (by unfold zb_new; rw [if_neg (fun z => c2 z.2)])
  · rw [zp_pos c1]
    exact e _ (by unfold zb_new; rw [if_neg (fun z => c1 z.1)])
theorem zb_new_ok {n k : Nat} {want ty old : Int32} (h : zb_ok n old) (hk : k < n) : zb_ok n (zb_new want ty old (nI k)) := by
  unfold zb_new
  by_cases c : ty = want ∧ old = -1
  · rw [if_pos c]; exact Or.inr ⟨k, hk, rfl⟩
  · rw [if_neg c]; exact h
/-- one link: class and reference -/
theorem zb_link {L n b at_ en : Nat} {hd : Int32} {Bc Bm Gc Gm : zx_G} (hF : zb_F L Bc Bm) (hR : zb_R L n Bc Bm) (h7 : Bc 8 7 = hd) (hQ : zb_Q n at_ en Bc Bm Gc Gm) (hb : b < 256) : ∃ (Gc' Gm' : zx_G) (v : Int32), f_I_link (nI b) Gc = some (v, Gc') ∧ (∀ (k35 : Int32 → Int32 → zx_G → Option (Int32 × zx_G)) (k77 : Int32 → Int32 → Int32 → Int32 → Int32 → zx_G → Option (Int32 × zx_G)) (x3 x4 x5 x6 : Int32), zx_if ((nI b &&& (127 : Int32)) = 0) (f_M_properties_144 k35 k77 hd x3 x4 x5 x6 Gm) (zx_bd (f_M_property hd (nI b &&& (127 : Int32)) Gm) fun r_11 G_10 => zx_if (nI b < (128 : Int32)) (f_M_properties_141 k35 k77 hd x3 x4 x5 x6 r_11 (0 : Int32) G_10) (f_M_properties_141 k35 k77 hd x3 x4 x5 x6 r_11 (1 : Int32) G_10)) = f_M_properties_144 k35 k77 hd x3 x4 x5 x6 Gm') ∧ Gm' 32 10 = v ∧ (v = 0 → zb_Q n at_ en Bc Bm Gc' Gm') := by
  obtain ⟨hK, hU, h0, hL⟩ := id hQ
  have hn := hR.1
  have g7 : Gc 8 7 = hd := (hK.2.2.2.2 7 (by omega) (by omega) (by omega)).trans h7
  have e127 : nI b &&& (127 : Int32) = nI (b % 128) := pk_andN (by omega) 7 rfl
  have l128 : nI b < (128 : Int32) ↔ b < 128 := zp_ltc (c := (128 : Int32)) 128 rfl (by omega) (by omega)
  by_cases c0 : b % 128 = 0
  · refine ⟨Gc, Gm, 0, ?_, fun k35 k77 x3 x4 x5 x6 => ?_, h0, fun _ => hQ⟩
    · unfold f_I_link
      rw [e127, zp_lt, c0, zp_neg (show ¬ ¬ nI 0 = 0 from fun z => z rfl)]
    · rw [e127, c0, zp_pos (show nI 0 = 0 from rfl)]
  · have n0 : ¬ nI (b % 128) = 0 := nI_ne0 (by omega) (by omega)
    obtain ⟨r, p1, p2, p3⟩ := zb_property (hK.R hR) hd (nI (b % 128))
    rcases p3 with rfl | ⟨k, k1, rfl⟩
    · -- no such property
      refine ⟨Gc, zx_up Gm 32 10 (3 : Int32), 3, ?_, fun k35 k77 x3 x4 x5 x6 => ?_, zp_us, fun z => absurd z (by decide)⟩
      · unfold f_I_link
        rw [e127, zp_lt, zp_pos n0, g7, zp_bd p1, zp_lt, zp_neg (by decide)]
      · have as : ∀ s2, f_M_properties_141 k35 k77 hd x3 x4 x5 x6 (-1 : Int32) s2 Gm = f_M_properties_144 k35 k77 hd x3 x4 x5 x6 (zx_up Gm 32 10 (3 : Int32)) := fun s2 => by
          have e : f_M_associate (-1 : Int32) s2 Gm = some (0, zx_up Gm 32 10 (3 : Int32)) := by
            unfold f_M_associate
            rw [zp_neg (by decide), zp_bd (zb_fail1 h0 3)]
          unfold f_M_properties_141
          rw [zp_bd e]
        rw [e127, zp_neg n0, zp_bd p2, as, as]
        by_cases q : nI b < (128 : Int32)
        · rw [zp_pos q]
        · rw [zp_neg q]
    · -- the property's box
      obtain ⟨ty, f, e, l, t1, t2, t3, t4, t5, t6, g3, g36, -⟩ := (hK.R hR).2.2.2 k k1
      have e115 : nI ty = (115 : Int32) ↔ ty = 115 := zp_eqc (c := (115 : Int32)) 115 rfl (by omega) (by omega)
      have e99 : nI ty = (99 : Int32) ↔ ty = 99 := zp_eqc (c := (99 : Int32)) 99 rfl (by omega) (by omega)
      have e120 : nI ty = (120 : Int32) ↔ ty = 120 := zp_eqc (c := (120 : Int32)) 120 rfl (by omega) (by omega)
      have a44 := zb_44 (k := k) (ty := nI ty) hn hL
      obtain ⟨M1, hM1⟩ : ∃ M1, M1 = zx_up (zx_up (zx_up Gm 32 13 (zb_new 115 (nI ty) (Gc 8 8) (nI k))) 32 14 (zb_new 99 (nI ty) (Gc 8 9) (nI k))) 32 15 (zb_new 120 (nI ty) (Gc 8 10) (nI k)) := ⟨_, rfl⟩
      rw [← hM1] at a44
      have asc : ∀ s2 : Int32, (s2 = 0 ∨ ty = 115 ∨ ty = 99 ∨ ty = 120) → f_M_associate (nI k) s2 Gm = some (0, M1) := fun s2 hs => by
        unfold f_M_associate
        rw [zp_pos (nI_pos' (by omega)), zp_gd (zp_in (by omega) (by omega)), zp_cl (by omega), g36, zp_lt, a44]
        by_cases q0 : s2 = 0
        · rw [zp_pos q0]
        · rw [zp_neg q0]
          by_cases q1 : ty = 115
          · rw [zp_pos (e115.mpr q1)]
          · rw [zp_neg (fun z => q1 (e115.mp z))]
            by_cases q2 : ty = 120
            · rw [zp_pos (e120.mpr q2)]
            · rw [zp_neg (fun z => q2 (e120.mp z))]
              have q3 : ty = 99 := by rcases hs with z | z | z | z; exact absurd z q0; exact absurd z q1; exact z; exact absurd z q2
              rw [zp_pos (e99.mpr q3)]
      have pre : f_I_link (nI b) Gc = zx_if (¬ nI ty = (115 : Int32)) (zx_if (¬ nI ty = (99 : Int32)) (zx_if (¬ nI ty = (120 : Int32)) (zx_if (nI b < (128 : Int32)) (f_I_link_140 Gc) (some ((5 : Int32), Gc))) (zx_if (¬ (Gc 8 10) = (-1 : Int32)) (f_I_link_125 (Gc 8 10) Gc) (f_I_link_125 (nI k) Gc))) (zx_if (¬ (Gc 8 9) = (-1 : Int32)) (f_I_link_95 (Gc 8 9) Gc) (f_I_link_95 (nI k) Gc))) (zx_if (¬ (Gc 8 8) = (-1 : Int32)) (f_I_link_65 (Gc 8 8) Gc) (f_I_link_65 (nI k) Gc)) := by
        unfold f_I_link
        rw [e127, zp_lt, zp_pos n0, g7, zp_bd p1, zp_lt, zp_pos (nI_pos' (by omega)), zp_gd (zp_in (by omega) (by omega)), zp_cl (by omega), g3, zp_lt]
      have M1r : ∀ q, q ≠ 32 → M1 q = Gm q := fun q hq => by rw [hM1, zp_ur hq, zp_ur hq, zp_ur hq]
      have M1k : ∀ k, k ≠ 13 → k ≠ 14 → k ≠ 15 → M1 32 k = Gm 32 k := fun k a b c => by rw [hM1, zp_uk c, zp_uk b, zp_uk a]
      have m13 : M1 32 13 = zb_new 115 (nI ty) (Gc 8 8) (nI k) := by rw [hM1, zp_uk (by omega), zp_uk (by omega), zp_us]
      have m14 : M1 32 14 = zb_new 99 (nI ty) (Gc 8 9) (nI k) := by rw [hM1, zp_uk (by omega), zp_us]
      have m15 : M1 32 15 = zb_new 120 (nI ty) (Gc 8 10) (nI k) := by rw [hM1, zp_us]
      by_cases cc : b < 128 ∨ ty = 115 ∨ ty = 99 ∨ ty = 120
      · -- taken in
        have ref : ∀ (k35 : Int32 → Int32 → zx_G → Option (Int32 × zx_G)) (k77 : Int32 → Int32 → Int32 → Int32 → Int32 → zx_G → Option (Int32 × zx_G)) (x3 x4 x5 x6 : Int32), zx_if ((nI b &&& (127 : Int32)) = 0) (f_M_properties_144 k35 k77 hd x3 x4 x5 x6 Gm) (zx_bd (f_M_property hd (nI b &&& (127 : Int32)) Gm) fun r_11 G_10 => zx_if (nI b < (128 : Int32)) (f_M_properties_141 k35 k77 hd x3 x4 x5 x6 r_11 (0 : Int32) G_10) (f_M_properties_141 k35 k77 hd x3 x4 x5 x6 r_11 (1 : Int32) G_10)) = f_M_properties_144 k35 k77 hd x3 x4 x5 x6 M1 := by
          intro k35 k77 x3 x4 x5 x6
          rw [e127, zp_neg n0, zp_bd p2]
          unfold f_M_properties_141
          by_cases q : b < 128
          · rw [zp_pos (l128.mpr q), zp_bd (asc 0 (Or.inl rfl))]
          · rw [zp_neg (fun z => q (l128.mp z)), zp_bd (asc 1 (Or.inr (cc.resolve_left q)))]
        -- the class's state
        have fin : ∀ Gc', (∀ q, q ≠ 8 → Gc' q = Gc q) → (∀ j, j ≠ 8 → j ≠ 9 → j ≠ 10 → Gc' 8 j = Gc 8 j) → Gc' 8 8 = zb_new 115 (nI ty) (Gc 8 8) (nI k) → Gc' 8 9 = zb_new 99 (nI ty) (Gc 8 9) (nI k) → Gc' 8 10 = zb_new 120 (nI ty) (Gc 8 10) (nI k) → zb_Q n at_ en Bc Bm Gc' M1 := by
          intro Gc' r1 r2 r3 r4 r5
          obtain ⟨u1, u2, u3, u4, u5, u6⟩ := hU
          obtain ⟨l1, l2, l3, l4, l5, l6⟩ := hL
          refine ⟨⟨fun q a b => by rw [r1 q a]; exact hK.1 q a b, fun q a => by rw [M1r q a]; exact hK.2.1 q a, fun j a b c d e => by rw [M1k j c d e]; exact hK.2.2.1 j a b c d e, fun j a => by rw [r1 10 (by omega)]; exact hK.2.2.2.1 j a, fun j a b c => by rw [r2 j a b c]; exact hK.2.2.2.2 j a b c⟩, ⟨u1, u2, by rw [r1 10 (by omega)]; exact u3, by rw [r1 10 (by omega)]; exact u4, by rw [M1k 11 (by omega) (by omega) (by omega)]; exact u5, by rw [M1k 12 (by omega) (by omega) (by omega)]; exact u6⟩, by rw [M1k 10 (by omega) (by omega) (by omega)]; exact h0, ?_⟩
          unfold zb_L
          rw [r3, r4, r5, m13, m14, m15]
          exact ⟨zb_new_ok l1 k1, zb_new_ok l2 k1, zb_new_ok l3 k1, rfl, rfl, rfl⟩
        have nn : ∀ want old v : Int32, ¬ nI ty = want → zb_new want (nI ty) old v = old := fun want old v h => by unfold zb_new; rw [if_neg (fun z => h z.1)]
        have ny : ∀ want old v : Int32, nI ty = want → zb_new want (nI ty) old v = if old = -1 then v else old := fun want old v h => by
          unfold zb_new
          by_cases q : old = -1
          · rw [if_pos ⟨h, q⟩, if_pos q]
          · rw [if_neg (fun z => q z.2), if_neg q]
        have h10 : M1 32 10 = 0 := by rw [M1k 10 (by omega) (by omega) (by omega)]; exact h0
        by_cases q1 : ty = 115
        · have y1 : nI ty = (115 : Int32) := e115.mpr q1
          have x9 : ¬ nI ty = (99 : Int32) := fun z => by have := e99.mp z; omega
          have x2 : ¬ nI ty = (120 : Int32) := fun z => by have := e120.mp z; omega
          refine ⟨zx_up Gc 8 8 (if Gc 8 8 = -1 then nI k else Gc 8 8), M1, 0, ?_, ref, h10, fun _ => fin _ (fun q hq => zp_ur hq) (fun j a _ _ => zp_uk a) (by rw [zp_us, ny _ _ _ y1]) (by rw [zp_uk (by omega), nn _ _ _ x9]) (by rw [zp_uk (by omega), nn _ _ _ x2])⟩
          rw [pre, zp_neg (fun z => z y1)]
          unfold f_I_link_65 f_I_link_140
          by_cases q : Gc 8 8 = -1
          · rw [zp_neg (fun z => z q), if_pos q, zp_lt]
          · rw [zp_pos q, if_neg q, zp_lt]
        · have x1 : ¬ nI ty = (115 : Int32) := fun z => q1 (e115.mp z)
          by_cases q2 : ty = 99
          · have y9 : nI ty = (99 : Int32) := e99.mpr q2
            have x2 : ¬ nI ty = (120 : Int32) := fun z => by have := e120.mp z; omega
            refine ⟨zx_up Gc 8 9 (if Gc 8 9 = -1 then nI k else Gc 8 9), M1, 0, ?_, ref, h10, fun _ => fin _ (fun q hq => zp_ur hq) (fun j _ a _ => zp_uk a) (by rw [zp_uk (by omega), nn _ _ _ x1]) (by rw [zp_us, ny _ _ _ y9]) (by rw [zp_uk (by omega), nn _ _ _ x2])⟩
            rw [pre, zp_pos x1, zp_neg (fun z => z y9)]
            unfold f_I_link_95 f_I_link_140
            by_cases q : Gc 8 9 = -1
            · rw [zp_neg (fun z => z q), if_pos q, zp_lt]
            · rw [zp_pos q, if_neg q, zp_lt]
          · have x9 : ¬ nI ty = (99 : Int32) := fun z => q2 (e99.mp z)
            by_cases q3 : ty = 120
            · have y2 : nI ty = (120 : Int32) := e120.mpr q3
              refine ⟨zx_up Gc 8 10 (if Gc 8 10 = -1 then nI k else Gc 8 10), M1, 0, ?_, ref, h10, fun _ => fin _ (fun q hq => zp_ur hq) (fun j _ _ a => zp_uk a) (by rw [zp_uk (by omega), nn _ _ _ x1]) (by rw [zp_uk (by omega), nn _ _ _ x9]) (by rw [zp_us, ny _ _ _ y2])⟩
              rw [pre, zp_pos x1, zp_pos x9, zp_neg (fun z => z y2)]
              unfold f_I_link_125 f_I_link_140
              by_cases q : Gc 8 10 = -1
              · rw [zp_neg (fun z => z q), if_pos q, zp_lt]
              · rw [zp_pos q, if_neg q, zp_lt]
            · have x2 : ¬ nI ty = (120 : Int32) := fun z => q3 (e120.mp z)
              have bb : b < 128 := by rcases cc with z | z | z | z; exact z; exact absurd z q1; exact absurd z q2; exact absurd z q3
              refine ⟨Gc, M1, 0, ?_, ref, h10, fun _ => fin _ (fun _ _ => rfl) (fun _ _ _ _ => rfl) (nn _ _ _ x1).symm (nn _ _ _ x9).symm (nn _ _ _ x2).symm⟩
              rw [pre, zp_pos x1, zp_pos x9, zp_pos x2, zp_pos (l128.mpr bb)]
              rfl
      · -- needed, and of no kind that is known
        have x1 : ¬ nI ty = (115 : Int32) := fun z => cc (Or.inr (Or.inl (e115.mp z)))
        have x9 : ¬ nI ty = (99 : Int32) := fun z => cc (Or.inr (Or.inr (Or.inl (e99.mp z))))
        have x2 : ¬ nI ty = (120 : Int32) := fun z => cc (Or.inr (Or.inr (Or.inr (e120.mp z))))
        have xb : ¬ nI b < (128 : Int32) := fun z => cc (Or.inl (l128.mp z))
        have hL5 : zb_L n Gc (zx_up Gm 32 10 (5 : Int32)) := by
          obtain ⟨l1, l2, l3, l4, l5, l6⟩ := hL
          exact ⟨l1, l2, l3, by rw [zp_uk (by omega)]; exact l4, by rw [zp_uk (by omega)]; exact l5, by rw [zp_uk (by omega)]; exact l6⟩
        obtain ⟨M5, a5, hM5⟩ : ∃ M5, f_M_associate_44 (nI k) (nI ty) (zx_up Gm 32 10 (5 : Int32)) = some (0, M5) ∧ M5 32 10 = 5 := ⟨_, zb_44 (k := k) (ty := nI ty) hn hL5, by rw [zp_uk (by omega), zp_uk (by omega), zp_uk (by omega), zp_us]⟩
        refine ⟨Gc, M5, 5, by rw [pre, zp_pos x1, zp_pos x9, zp_pos x2, zp_neg xb], fun k35 k77 x3 x4 x5 x6 => ?_, hM5, fun z => absurd z (by decide)⟩
        · rw [e127, zp_neg n0, zp_bd p2, zp_neg xb]
          unfold f_M_properties_141 f_M_associate
          rw [zp_pos (nI_pos' (by omega)), zp_gd (zp_in (by omega) (by omega)), zp_cl (by omega), g36, zp_lt, zp_neg (show ¬ (1 : Int32) = 0 by decide), zp_neg x1, zp_neg x2, zp_neg x9, zp_bd (zb_fail1 h0 5), zp_bd a5]
