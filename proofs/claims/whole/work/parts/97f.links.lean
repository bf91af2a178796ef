/-! the item's links: entries, the whole -/
theorem zb_dead77 {k35 : Int32 → Int32 → zx_G → Option (Int32 × zx_G)} {n : Nat} {x1 x3 x4 x5 x6 : Int32} {G : zx_G} (h : ¬ G 32 10 = 0) : f_M_properties_77 k35 (n + 1) x1 x3 x4 x5 x6 G = k35 x1 x3 G := by
  rw [f_M_properties_77]
  unfold f_M_properties_150
  by_cases c : x5 ≤ x6
  · rw [zp_pos c]
  · rw [zp_neg c, zp_pos h]
theorem zb_dead35 {n : Nat} {x1 x3 : Int32} {G : zx_G} (h : ¬ G 32 10 = 0) : f_M_properties_35 (n + 1) x1 x3 G = some (0, G) := by
  have e : f_M_properties_153 G = some (0, G) := by
    unfold f_M_properties_153
    rw [zp_neg h]
  rw [f_M_properties_35]
  by_cases c : G 32 12 ≤ G 32 11
  · rw [zp_pos c, e]
  · rw [zp_neg c, zp_pos h, e]
theorem zb_entry {L n nm en a c : Nat} {hd : Int32} {Bc Bm : zx_G} {k35 : Int32 → Int32 → zx_G → Option (Int32 × zx_G)} (hF : zb_F L Bc Bm) (hR : zb_R L n Bc Bm) (h6 : Bc 8 6 = nI nm) (h7 : Bc 8 7 = hd) (hnm : nm < 256) (ha : a < 256) (hc : c < 256) : ∀ (rem j n1 n2 at_ : Nat) (Gc Gm : zx_G), j + rem = c → rem < n1 → rem + 1 < n2 → zb_Q n at_ en Bc Bm Gc Gm →
    ∃ (Gc' Gm' : zx_G) (v : Int32), f_I_readLink_24 n1 (nI a) (nI c) (nI j) Gc = some (v, Gc') ∧ f_M_properties_77 k35 n2 hd (nI nm) (if a = nm then 1 else 0) (nI c) (nI j) Gm = k35 hd (nI nm) Gm' ∧ Gm' 32 10 = v ∧ (v = 0 → ∃ at', at_ ≤ at' ∧ zb_Q n at' en Bc Bm Gc' Gm') := by
  intro rem
  induction rem with
  | zero =>
    intro j n1 n2 at_ Gc Gm hj hn1 hn2 hQ
    obtain ⟨n1, rfl⟩ : ∃ k, n1 = k + 1 := ⟨n1 - 1, by omega⟩
    obtain ⟨n2, rfl⟩ : ∃ k, n2 = k + 1 := ⟨n2 - 1, by omega⟩
    refine ⟨Gc, Gm, 0, by rw [f_I_readLink_24, zp_pos (nI_le (by omega) (by omega))], ?_, hQ.2.2.1, fun _ => ⟨at_, by omega, hQ⟩⟩
    rw [f_M_properties_77, zp_pos (nI_le (by omega) (by omega))]
    rfl
  | succ rem ih =>
    intro j n1 n2 at_ Gc Gm hj hn1 hn2 hQ
    obtain ⟨n1, rfl⟩ : ∃ k, n1 = k + 1 := ⟨n1 - 1, by omega⟩
    obtain ⟨n2, rfl⟩ : ∃ k, n2 = k + 2 := ⟨n2 - 2, by omega⟩
    have h0 := hQ.2.2.1
    have k144 : ∀ x4 G, f_M_properties_144 k35 (f_M_properties_77 k35 (n2 + 1)) hd (nI nm) x4 (nI c) (nI j) G = f_M_properties_77 k35 (n2 + 1) hd (nI nm) x4 (nI c) (nI (j + 1)) G := fun x4 G => by
      unfold f_M_properties_144
      rw [zp_lt, nI_1]
    rcases zb_take (hQ.1.F hF) hQ.2.1 h0 with ⟨t1, b, b1, b2, b3⟩ | ⟨t1, b2, b3⟩
    · have hQ1 := hQ.step t1
      have g6 : zx_up Gc 10 1 (nI (at_ + 1)) 8 6 = nI nm := (hQ1.1.2.2.2.2 6 (by omega) (by omega) (by omega)).trans h6
      have k63 : ∀ r G, f_I_readLink_63 (f_I_readLink_24 n1) (nI a) (nI c) (nI j) r G = if r = 0 then f_I_readLink_24 n1 (nI a) (nI c) (nI (j + 1)) G else some (r, G) := fun r G => by
        unfold f_I_readLink_63
        rw [zp_lt, zp_lt, nI_1]
        by_cases q : r = 0
        · rw [zp_pos q, if_pos q]
        · rw [zp_neg q, if_neg q]
      have pM : f_M_properties_77 k35 (n2 + 2) hd (nI nm) (if a = nm then 1 else 0) (nI c) (nI j) Gm = zx_if ((if a = nm then (1 : Int32) else 0) = 0) (f_M_properties_144 k35 (f_M_properties_77 k35 (n2 + 1)) hd (nI nm) (if a = nm then 1 else 0) (nI c) (nI j) (zx_up Gm 32 11 (nI (at_ + 1)))) (zx_if ((nI b &&& (127 : Int32)) = 0) (f_M_properties_144 k35 (f_M_properties_77 k35 (n2 + 1)) hd (nI nm) (if a = nm then 1 else 0) (nI c) (nI j) (zx_up Gm 32 11 (nI (at_ + 1)))) (zx_bd (f_M_property hd (nI b &&& (127 : Int32)) (zx_up Gm 32 11 (nI (at_ + 1)))) fun r_11 G_10 => zx_if (nI b < (128 : Int32)) (f_M_properties_141 k35 (f_M_properties_77 k35 (n2 + 1)) hd (nI nm) (if a = nm then 1 else 0) (nI c) (nI j) r_11 (0 : Int32) G_10) (f_M_properties_141 k35 (f_M_properties_77 k35 (n2 + 1)) hd (nI nm) (if a = nm then 1 else 0) (nI c) (nI j) r_11 (1 : Int32) G_10))) := by
        rw [f_M_properties_77, zp_neg (nI_ge (by omega) (by omega)), zp_neg (fun z => z h0), zp_bd b3, zp_lt, zp_neg (c := ¬ (zx_up Gm 32 11 (nI (at_ + 1)) 32 10) = 0) (fun z => z hQ1.2.2.1)]
      have pC : f_I_readLink_24 (n1 + 1) (nI a) (nI c) (nI j) Gc = zx_if (¬ nI a = nI nm) (f_I_readLink_24 n1 (nI a) (nI c) (nI (j + 1)) (zx_up Gc 10 1 (nI (at_ + 1)))) (zx_bd (f_I_link (nI b) (zx_up Gc 10 1 (nI (at_ + 1)))) fun r_9 G_8 => f_I_readLink_63 (f_I_readLink_24 n1) (nI a) (nI c) (nI j) r_9 G_8) := by
        rw [f_I_readLink_24, zp_neg (nI_ge (by omega) (by omega)), zp_bd b2, zp_lt, zp_pos (nI_pos' (by omega)), g6, k63, if_pos rfl]
      by_cases q : a = nm
      · have s1 : (if a = nm then (1 : Int32) else 0) = 1 := if_pos q
        obtain ⟨G1, M1, v, l1, l2, l3, l4⟩ := zb_link hF hR h7 hQ1 b1
        have eM : f_M_properties_77 k35 (n2 + 2) hd (nI nm) (if a = nm then 1 else 0) (nI c) (nI j) Gm = f_M_properties_77 k35 (n2 + 1) hd (nI nm) (if a = nm then 1 else 0) (nI c) (nI (j + 1)) M1 := by
          rw [pM, zp_neg (by rw [s1]; decide), l2 k35 (f_M_properties_77 k35 (n2 + 1)) (nI nm) (if a = nm then 1 else 0) (nI c) (nI j), k144]
        have eC : f_I_readLink_24 (n1 + 1) (nI a) (nI c) (nI j) Gc = if v = 0 then f_I_readLink_24 n1 (nI a) (nI c) (nI (j + 1)) G1 else some (v, G1) := by
          rw [pC, zp_neg (show ¬ ¬ nI a = nI nm from fun z => z (by rw [q])), zp_bd l1, k63]
        by_cases qv : v = 0
        · obtain ⟨G2, M2, v2, w1, w2, w3, w4⟩ := ih (j + 1) n1 (n2 + 1) (at_ + 1) G1 M1 (by omega) (by omega) (by omega) (l4 qv)
          refine ⟨G2, M2, v2, by rw [eC, if_pos qv]; exact w1, eM.trans w2, w3, fun z => ?_⟩
          obtain ⟨at', z1, z2⟩ := w4 z
          exact ⟨at', by omega, z2⟩
        · exact ⟨G1, M1, v, by rw [eC, if_neg qv], eM.trans (zb_dead77 (by rw [l3]; exact qv)), l3, fun z => absurd z qv⟩
      · have s0 : (if a = nm then (1 : Int32) else 0) = 0 := if_neg q
        have qn : ¬ nI a = nI nm := fun z => q ((nI_eq (by omega) (by omega)).mp z)
        obtain ⟨G2, M2, v2, w1, w2, w3, w4⟩ := ih (j + 1) n1 (n2 + 1) (at_ + 1) _ _ (by omega) (by omega) (by omega) hQ1
        refine ⟨G2, M2, v2, by rw [pC, zp_pos qn]; exact w1, ?_, w3, fun z => ?_⟩
        · rw [pM, zp_pos s0, k144]
          exact w2
        · obtain ⟨at', z1, z2⟩ := w4 z
          exact ⟨at', by omega, z2⟩
    · refine ⟨Gc, zx_up Gm 32 10 (3 : Int32), 3, by rw [f_I_readLink_24, zp_neg (nI_ge (by omega) (by omega)), zp_bd b2, zp_lt, zp_neg (by decide)], ?_, zp_us, fun z => absurd z (by decide)⟩
      have d : ¬ zx_up Gm 32 10 (3 : Int32) 32 10 = 0 := by rw [zp_us]; decide
      have e144 : f_M_properties_144 k35 (f_M_properties_77 k35 (n2 + 1)) hd (nI nm) (if a = nm then 1 else 0) (nI c) (nI j) (zx_up Gm 32 10 (3 : Int32)) = k35 hd (nI nm) (zx_up Gm 32 10 (3 : Int32)) := by
        rw [k144]
        exact zb_dead77 d
      rw [f_M_properties_77, zp_neg (nI_ge (by omega) (by omega)), zp_neg (fun z => z h0), zp_bd b3, zp_lt]
      by_cases q : (if a = nm then (1 : Int32) else 0) = 0
      · rw [zp_pos q, e144]
      · rw [zp_neg q, zp_pos d, e144]
theorem zb_len {L n : Nat} {Gc Gm : zx_G} (hR : zb_R L n Gc Gm) {k : Nat} (hk : k < n) : ∃ f e : Nat, 2 ≤ f ∧ f ≤ e ∧ e ≤ L ∧ Gc 4 k = nI f ∧ Gm 34 k = nI f ∧ Gc 5 k = nI e ∧ Gm 35 k = nI e ∧ f_B_contentLength (nI k) Gc = some (nI (e - f), Gc) := by
  obtain ⟨ty, f, e, l, t1, t2, t3, t4, t5, t6, g3, g36, g4, g34, g5, g35, -⟩ := hR.2.2.2 k hk
  have hn := hR.1
  refine ⟨f, e, t2, t3, t4, g4, g34, g5, g35, ?_⟩
  unfold f_B_contentLength
  rw [zp_gd (zp_in (by omega) (by omega)), zp_gd (zp_in (by omega) (by omega)), zp_cl (by omega), g4, g5, pk_sub t3]
/-- the links are whole: both sides say so alike -/
theorem zb_whole {L n : Nat} {Gc Gm : zx_G} (hF : zb_F L Gc Gm) (hR : zb_R L n Gc Gm) (hL : zb_L n Gc Gm) (h0 : Gm 32 10 = 0) : ∃ (Gm' : zx_G) (v : Int32), f_I_readLinks_76 Gc = some (v, Gc) ∧ f_M_properties_153 Gm = some (0, Gm') ∧ Gm' 32 10 = v ∧ (v = 0 → Gm' = Gm ∧ ∃ k8 k9 f8 e8 f9 e9, k8 < n ∧ k9 < n ∧ Gc 8 8 = nI k8 ∧ Gc 8 9 = nI k9 ∧ Gc 4 k8 = nI f8 ∧ Gc 5 k8 = nI e8 ∧ f8 + 2 ≤ e8 ∧ e8 ≤ 240 ∧ Gc 4 k9 = nI f9 ∧ Gc 5 k9 = nI e9 ∧ f9 + 1 ≤ e9 ∧ e9 ≤ 240 ∧ (Gc 8 10 = -1 ∨ ∃ k10 f10 e10 v10, k10 < n ∧ Gc 8 10 = nI k10 ∧ Gc 4 k10 = nI f10 ∧ Gc 5 k10 = nI e10 ∧ f10 + v10 < e10 ∧ e10 ≤ 240 ∧ Gc 1 f10 = nI v10)) := by
  have hn := hR.1
  have hL240 := hF.1
  obtain ⟨l1, l2, l3, l4, l5, l6⟩ := id hL
  have bad314 : f_M_properties_314 (0 : Int32) Gm = some (0, zx_up Gm 32 10 (3 : Int32)) := by
    unfold f_M_properties_314 f_M_properties_324
    rw [zp_neg (show ¬ ¬ (0 : Int32) = 0 from fun z => z rfl), zp_bd (zb_fail1 h0 3)]
  have ok314 : f_M_properties_314 (1 : Int32) Gm = some (0, Gm) := by
    unfold f_M_properties_314
    rw [zp_pos (by decide)]
    rfl
  have bad225 : f_M_properties_225 Gm = some (0, zx_up Gm 32 10 (3 : Int32)) := by
    unfold f_M_properties_225 f_M_properties_226
    rw [zp_lt, zp_pos (show (0 : Int32) = 0 from rfl), bad314]
  have clsBad : ∀ r, f_I_areLinksWhole Gc = some (0, Gc) → r = (3 : Int32) → f_I_readLinks_76 Gc = some (r, Gc) := fun r h hr => by
    unfold f_I_readLinks_76
    rw [zp_bd h, zp_pos rfl, hr]
    rfl
  have bad : f_I_areLinksWhole Gc = some (0, Gc) → f_M_properties_153 Gm = some (0, zx_up Gm 32 10 (3 : Int32)) → ∃ (Gm' : zx_G) (v : Int32), f_I_readLinks_76 Gc = some (v, Gc) ∧ f_M_properties_153 Gm = some (0, Gm') ∧ Gm' 32 10 = v ∧ (v = 0 → Gm' = Gm ∧ ∃ k8 k9 f8 e8 f9 e9, k8 < n ∧ k9 < n ∧ Gc 8 8 = nI k8 ∧ Gc 8 9 = nI k9 ∧ Gc 4 k8 = nI f8 ∧ Gc 5 k8 = nI e8 ∧ f8 + 2 ≤ e8 ∧ e8 ≤ 240 ∧ Gc 4 k9 = nI f9 ∧ Gc 5 k9 = nI e9 ∧ f9 + 1 ≤ e9 ∧ e9 ≤ 240 ∧ (Gc 8 10 = -1 ∨ ∃ k10 f10 e10 v10, k10 < n ∧ Gc 8 10 = nI k10 ∧ Gc 4 k10 = nI f10 ∧ Gc 5 k10 = nI e10 ∧ f10 + v10 < e10 ∧ e10 ≤ 240 ∧ Gc 1 f10 = nI v10)) := fun h1 h2 => ⟨_, 3, clsBad 3 h1 rfl, h2, zp_us, fun z => absurd z (by decide)⟩
  rcases l1 with l1 | ⟨k8, k81, k82⟩
  · refine bad ?_ ?_
    · unfold f_I_areLinksWhole
      rw [zp_pos l1]
      rfl
    · unfold f_M_properties_153
      rw [zp_pos h0, l4, l1, zp_pos (by decide), bad225]
  · rcases l2 with l2 | ⟨k9, k91, k92⟩
    · refine bad ?_ ?_
      · unfold f_I_areLinksWhole
        rw [k82, zp_neg (zb_nm1 (by omega)), l2, zp_neg (show ¬ ¬ (-1 : Int32) = (-1 : Int32) from fun z => z rfl)]
        rfl
      · unfold f_M_properties_153
        rw [zp_pos h0, l4, k82, zp_neg (nI_pos (by omega)), l5, l2, zp_pos (by decide), bad225]
    · obtain ⟨f8, e8, a1, a2, a3, a4, a5, a6, a7, a8⟩ := zb_len hR k81
      obtain ⟨f9, e9, b1, b2, b3, b4, b5, b6, b7, b8⟩ := zb_len hR k91
      have preC : f_I_areLinksWhole Gc = zx_if (nI (e8 - f8) < (2 : Int32)) (f_I_areLinksWhole_48 Gc) (zx_bd (f_B_contentLength (nI k9) Gc) fun r_8 G_7 => zx_if ((1 : Int32) ≤ r_8) (zx_if (¬ (G_7 8 10) = (-1 : Int32)) (zx_bd (f_B_contentLength (G_7 8 10) G_7) fun r_13 G_12 => zx_lt r_13 fun x1_15 => zx_if (x1_15 ≤ 0) (f_I_areLinksWhole_101 G_12) (zx_gd (zx_in (G_12 8 10) 16) <| zx_gd (zx_in (G_12 4 (Int32.toNatClampNeg (G_12 8 10))) 240) <| zx_if (x1_15 ≤ (G_12 1 (Int32.toNatClampNeg (G_12 4 (Int32.toNatClampNeg (G_12 8 10)))))) (f_I_areLinksWhole_101 G_12) (f_I_areLinksWhole_102 (1 : Int32) G_12))) (zx_gd (zx_01 (1 : Int32)) <| some ((1 : Int32), G_7))) (f_I_areLinksWhole_48 G_7)) := by
        unfold f_I_areLinksWhole
        rw [k82, zp_neg (zb_nm1 (by omega)), k92, zp_pos (zb_nm1 (by omega)), zp_bd a8, k92]
      have preM : f_M_properties_153 Gm = zx_if (nI (e8 - f8) < (2 : Int32)) (f_M_properties_225 Gm) (zx_if (nI (e9 - f9) < (1 : Int32)) (f_M_properties_225 Gm) (f_M_properties_226 (1 : Int32) Gm)) := by
        unfold f_M_properties_153
        rw [zp_pos h0, l4, k82, zp_neg (nI_pos (by omega)), l5, k92, zp_neg (nI_pos (by omega)), zp_gd (zp_in (by omega) (by omega)), zp_gd (zp_in (by omega) (by omega)), zp_cl (j := k8) (by omega), a5, a7, pk_sub a2, zp_gd (zp_in (by omega) (by omega)), zp_gd (zp_in (by omega) (by omega)), zp_cl (j := k9) (by omega), b5, b7, pk_sub b2]
      have c2 : nI (e8 - f8) < (2 : Int32) ↔ e8 - f8 < 2 := zp_ltc (c := (2 : Int32)) 2 rfl (by omega) (by omega)
      have c1 : nI (e9 - f9) < (1 : Int32) ↔ e9 - f9 < 1 := zp_ltc (c := (1 : Int32)) 1 rfl (by omega) (by omega)
      have c1' : (1 : Int32) ≤ nI (e9 - f9) ↔ 1 ≤ e9 - f9 := zp_cle (c := (1 : Int32)) 1 rfl (by omega) (by omega)
      by_cases q8 : e8 - f8 < 2
      · exact bad (by rw [preC, zp_pos (c2.mpr q8)]; rfl) (by rw [preM, zp_pos (c2.mpr q8), bad225])
      · by_cases q9 : e9 - f9 < 1
        · exact bad (by rw [preC, zp_neg (fun z => q8 (c2.mp z)), zp_bd b8, zp_neg (fun z => by have := c1'.mp z; omega)]; rfl) (by rw [preM, zp_neg (fun z => q8 (c2.mp z)), zp_pos (c1.mpr q9), bad225])
        · rcases l3 with l3 | ⟨k10, k101, k102⟩
          · have hc : f_I_areLinksWhole Gc = some (1, Gc) := by
              rw [preC, zp_neg (fun z => q8 (c2.mp z)), zp_bd b8, zp_pos (c1'.mpr (by omega)), l3, zp_neg (show ¬ ¬ (-1 : Int32) = (-1 : Int32) from fun z => z rfl)]
              rfl
            refine ⟨Gm, 0, ?_, ?_, h0, fun _ => ⟨rfl, k8, k9, f8, e8, f9, e9, k81, k91, k82, k92, a4, a6, by omega, by omega, b4, b6, by omega, by omega, Or.inl l3⟩⟩
            · unfold f_I_readLinks_76
              rw [zp_bd hc, zp_neg (show ¬ (1 : Int32) = 0 by decide)]
              rfl
            · rw [preM, zp_neg (fun z => q8 (c2.mp z)), zp_neg (fun z => q9 (c1.mp z))]
              unfold f_M_properties_226
              rw [zp_lt, zp_neg (show ¬ (1 : Int32) = 0 by decide), l6, l3, zp_pos (by decide), ok314]
          · obtain ⟨f10, e10, d1, d2, d3, d4, d5, d6, d7, d8⟩ := zb_len hR k101
            have ml : f_M_properties_312 (0 : Int32) Gm = some (0, zx_up Gm 32 10 (3 : Int32)) := by
              unfold f_M_properties_312
              rw [zp_lt, bad314]
            have mo : f_M_properties_312 (1 : Int32) Gm = some (0, Gm) := by
              unfold f_M_properties_312
              rw [zp_lt, ok314]
            have m281 : ∀ s, f_M_properties_281 s Gm = if nI (e10 - f10) ≤ s then some (0, zx_up Gm 32 10 (3 : Int32)) else some (0, Gm) := fun s => by
              unfold f_M_properties_281
              rw [zp_lt, l6, k102, zp_gd (zp_in (by omega) (by omega)), zp_gd (zp_in (by omega) (by omega)), zp_cl (by omega), d5, d7, pk_sub d2, ml, mo]
              by_cases z : nI (e10 - f10) ≤ s
              · rw [zp_pos z, if_pos z]
              · rw [zp_neg z, if_neg z]
            have m226 : f_M_properties_153 Gm = zx_if (nI e10 ≤ nI f10) (f_M_properties_281 (999 : Int32) Gm) (zx_gd (zx_in (nI f10) 240) <| f_M_properties_281 (Gm 33 (Int32.toNatClampNeg (nI f10))) Gm) := by
              rw [preM, zp_neg (fun z => q8 (c2.mp z)), zp_neg (fun z => q9 (c1.mp z))]
              unfold f_M_properties_226
              rw [zp_lt, zp_neg (show ¬ (1 : Int32) = 0 by decide), l6, k102, zp_neg (nI_pos (by omega)), zp_gd (zp_in (by omega) (by omega)), zp_gd (zp_in (by omega) (by omega)), zp_cl (by omega), d5, d7, zp_gd (zp_in (by omega) (by omega))]
            have cC : f_I_areLinksWhole Gc = zx_if (nI (e10 - f10) ≤ 0) (f_I_areLinksWhole_101 Gc) (zx_gd (zx_in (nI f10) 240) <| zx_if (nI (e10 - f10) ≤ (Gc 1 (Int32.toNatClampNeg (nI f10)))) (f_I_areLinksWhole_101 Gc) (f_I_areLinksWhole_102 (1 : Int32) Gc)) := by
              rw [preC, zp_neg (fun z => q8 (c2.mp z)), zp_bd b8, zp_pos (c1'.mpr (by omega)), k102, zp_pos (zb_nm1 (by omega)), zp_bd d8, zp_lt, k102, zp_gd (zp_in (by omega) (by omega)), zp_cl (by omega), d4]
            have c0 : nI (e10 - f10) ≤ 0 ↔ e10 - f10 ≤ 0 := zp_lec (c := (0 : Int32)) 0 rfl (by omega) (by omega)
            by_cases qe : e10 ≤ f10
            · refine bad ?_ ?_
              · rw [cC, zp_pos (c0.mpr (by omega))]
                rfl
              · rw [m226, zp_pos (nI_le qe (by omega)), m281, if_pos (show nI (e10 - f10) ≤ (999 : Int32) from (zp_lec (c := (999 : Int32)) 999 rfl (by omega) (by omega)).mpr (by omega))]
            · obtain ⟨v10, v1, v2⟩ := hF.2.2.2 f10 (by omega)
              have v3 : Gc 1 f10 = nI v10 := (hF.2.2.1 f10 (by omega)).trans v2
              have mM : f_M_properties_153 Gm = if nI (e10 - f10) ≤ nI v10 then some (0, zx_up Gm 32 10 (3 : Int32)) else some (0, Gm) := by
                rw [m226, zp_neg (nI_ge (by omega) (by omega)), zp_gd (zp_in (by omega) (by omega)), zp_cl (by omega), v2, m281]
              have mC : f_I_areLinksWhole Gc = zx_if (nI (e10 - f10) ≤ nI v10) (f_I_areLinksWhole_101 Gc) (f_I_areLinksWhole_102 (1 : Int32) Gc) := by
                rw [cC, zp_neg (fun z => by have := c0.mp z; omega), zp_gd (zp_in (by omega) (by omega)), zp_cl (by omega), v3]
              by_cases qv : e10 - f10 ≤ v10
              · exact bad (by rw [mC, zp_pos (nI_le qv (by omega))]; rfl) (by rw [mM, if_pos (nI_le qv (by omega))])
              · have hc : f_I_areLinksWhole Gc = some (1, Gc) := by
                  rw [mC, zp_neg (nI_ge (by omega) (by omega))]
                  rfl
                refine ⟨Gm, 0, ?_, by rw [mM, if_neg (nI_ge (by omega) (by omega))], h0, fun _ => ⟨rfl, k8, k9, f8, e8, f9, e9, k81, k91, k82, k92, a4, a6, by omega, by omega, b4, b6, by omega, by omega, Or.inr ⟨k10, f10, e10, v10, k101, k102, d4, d6, by omega, by omega, v3⟩⟩⟩
                unfold f_I_readLinks_76
                rw [zp_bd hc, zp_neg (show ¬ (1 : Int32) = 0 by decide)]
                rfl
