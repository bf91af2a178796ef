/-! sample, block, table -/
theorem zi_in {G : zx_G} {w h : Nat} (x y : Int32) (hw : w ≤ 16) (hh : h ≤ 16) (d1 : G 0 9 = 1) (d2 : G 32 33 = 1) (w1 : G 11 7 = nI w) (w2 : G 32 18 = nI w) (h1 : G 11 8 = nI h) (h2 : G 32 19 = nI h) :
    (f_S_isInPicture x y G = some (0, G) ∧ f_M_there x y G = some (0, G)) ∨ ∃ a b, a < w ∧ b < h ∧ x = nI a ∧ y = nI b ∧ f_S_isInPicture x y G = some (1, G) ∧ f_M_there x y G = some (1, G) := by
  unfold f_S_isInPicture f_S_isInPicture_41 f_S_isInPicture_42 f_M_there f_M_there_35 f_M_there_36
  rw [d1, d2, w1, w2, h1, h2, zp_neg (by decide)]
  by_cases c1 : x < 0
  · rw [zp_pos c1]; exact Or.inl ⟨rfl, rfl⟩
  rw [zp_neg c1]
  by_cases c2 : nI w ≤ x
  · rw [zp_pos c2]; exact Or.inl ⟨rfl, rfl⟩
  rw [zp_neg c2]
  by_cases c3 : y < 0
  · rw [zp_pos c3]; exact Or.inl ⟨rfl, rfl⟩
  rw [zp_neg c3]
  by_cases c4 : nI h ≤ y
  · rw [zp_pos c4]; exact Or.inl ⟨rfl, rfl⟩
  rw [zp_neg c4]
  obtain ⟨a, ha, rfl⟩ := nI_of c1
  obtain ⟨b, hb, rfl⟩ := nI_of c3
  rw [nI_leI (by omega) ha] at c2
  rw [nI_leI (by omega) hb] at c4
  exact Or.inr ⟨a, b, by omega, by omega, rfl, rfl, rfl, rfl⟩
theorem zo_sample (p x y : Int32) : zp_ok zi_Inv (f_S_sample p x y) (f_M_sample p x y) := by
  intro G hI
  obtain ⟨-, ⟨hd, hp⟩, -⟩ := id hI
  rcases hp with hp | ⟨hp, yy, t, w, h, a1, a2, a3, a4, a5, a6, b1, b2, b3, b4, b5, b6, b7, b8, c1, -⟩
  · refine ⟨-1, G, G, ?_, ?_, hI⟩
    · unfold f_S_sample f_S_isInPicture f_S_isInPicture_41 f_S_isInPicture_42 f_S_sample_24
      rw [zp_pos hp, zp_gd (c := zx_01 0) rfl, zp_bd (r := 0) (G := G) rfl, zp_pos rfl]
    · unfold f_M_sample f_M_there f_M_there_35 f_M_there_36 f_M_sample_45 f_M_sample_46
      rw [zp_pos (by rw [← hd]; exact hp), zp_gd (c := zx_01 0) rfl, zp_bd (r := 0) (G := G) rfl, zp_pos rfl]
  · have hp2 : G 32 33 = 1 := by rw [← hd]; exact hp
    have no : ∀ (hx : (f_S_isInPicture x y G = some (0, G) ∧ f_M_there x y G = some (0, G)) ∨ (f_S_isInPicture x y G = some (1, G) ∧ f_M_there x y G = some (1, G) ∧ (p < 0 ∨ nI (1 + 2 * yy) ≤ p))), ∃ (r : Int32) (G1 G2 : zx_G), f_S_sample p x y G = some (r, G1) ∧ f_M_sample p x y G1 = some (r, G2) ∧ zi_Inv G2 := by
      intro hx
      refine ⟨-1, G, G, ?_, ?_, hI⟩
      · unfold f_S_sample f_S_sample_24
        rcases hx with ⟨e1, -⟩ | ⟨e1, -, e2⟩
        · rw [zp_bd e1, zp_pos rfl]
        · rw [zp_bd e1, zp_neg (by decide)]
          by_cases q : p < 0
          · rw [zp_pos q]
          · rw [zp_neg q, b2, zp_neg (Int32.not_lt.mpr (e2.resolve_left q))]
      · unfold f_M_sample f_M_sample_45 f_M_sample_46
        rcases hx with ⟨-, e1⟩ | ⟨-, e1, e2⟩
        · rw [zp_bd e1, zp_pos rfl]
        · rw [zp_bd e1, zp_neg (by decide)]
          by_cases q : p < 0
          · rw [zp_pos q]
          · have e3 : (1 : Int32) + (2 : Int32) * G 32 16 = nI (1 + 2 * yy) := by
              rw [b1, show (2 : Int32) = nI 2 from rfl, pk_mul, show (1 : Int32) = nI 1 from rfl, nI_add]
            rw [zp_neg q, e3, zp_pos (e2.resolve_left q)]
    rcases zi_in x y a4 a6 hp hp2 b6 b5 b8 b7 with hx | ⟨a, b, ha, hb, rfl, rfl, e1, e2⟩
    · exact no (Or.inl hx)
    by_cases q1 : p < 0
    · exact no (Or.inr ⟨e1, e2, Or.inl q1⟩)
    by_cases q2 : nI (1 + 2 * yy) ≤ p
    · exact no (Or.inr ⟨e1, e2, Or.inr q2⟩)
    obtain ⟨c, hc, rfl⟩ := nI_of q1
    have hcl : c < 1 + 2 * yy := by rw [nI_leI (by omega) hc] at q2; omega
    have iS : ((nI c * (256 : Int32)) + (nI b * (16 : Int32))) + nI a = nI (256 * c + 16 * b + a) := by
      rw [show (256 : Int32) = nI 256 from rfl, show (16 : Int32) = nI 16 from rfl, pk_mul, pk_mul, nI_add, nI_add]
      congr 1; omega
    have iM : (((256 : Int32) * nI c) + ((16 : Int32) * nI b)) + nI a = nI (256 * c + 16 * b + a) := by
      rw [show (256 : Int32) = nI 256 from rfl, show (16 : Int32) = nI 16 from rfl, pk_mul, pk_mul, nI_add, nI_add]
    refine ⟨G 18 (256 * c + 16 * b + a), G, G, ?_, ?_, hI⟩
    · unfold f_S_sample f_P_placeOf
      rw [zp_bd e1, zp_neg (by decide), zp_neg q1, b2, zp_pos (Int32.not_le.mp q2), zp_bd rfl, iS, zp_gd (zp_in (by omega) (by omega)), zp_cl (by omega)]
    · unfold f_M_sample f_M_sample_46
      have e3 : (1 : Int32) + (2 : Int32) * G 32 16 = nI (1 + 2 * yy) := by
        rw [b1, show (2 : Int32) = nI 2 from rfl, pk_mul, show (1 : Int32) = nI 1 from rfl, nI_add]
      rw [zp_bd e2, zp_neg (by decide), zp_neg q1, e3, zp_neg q2, iM, zp_gd (zp_in (by omega) (by omega)), zp_cl (by omega), c1 c b a hcl hb ha]
theorem zo_block (x y v : Int32) : zp_ok zi_Inv (f_S_block x y v) (f_M_block x y v) := by
  intro G hI
  obtain ⟨-, ⟨hd, hp⟩, -⟩ := id hI
  rcases hp with hp | ⟨hp, yy, t, w, h, a1, a2, a3, a4, a5, a6, b1, b2, b3, b4, b5, b6, b7, b8, c1, c2, -⟩
  · refine ⟨-1, G, G, ?_, ?_, hI⟩
    · unfold f_S_block f_S_isInPicture f_S_isInPicture_41 f_S_isInPicture_42 f_S_block_18
      rw [zp_pos hp, zp_gd (c := zx_01 0) rfl, zp_bd (r := 0) (G := G) rfl, zp_pos rfl]
    · unfold f_M_block f_M_there f_M_there_35 f_M_there_36 f_M_block_44 f_M_block_45
      rw [zp_pos (by rw [← hd]; exact hp), zp_gd (c := zx_01 0) rfl, zp_bd (r := 0) (G := G) rfl, zp_pos rfl]
  · have hp2 : G 32 33 = 1 := by rw [← hd]; exact hp
    have no : ∀ (hx : (f_S_isInPicture x y G = some (0, G) ∧ f_M_there x y G = some (0, G)) ∨ (f_S_isInPicture x y G = some (1, G) ∧ f_M_there x y G = some (1, G) ∧ (v < 0 ∨ (3 : Int32) < v))), ∃ (r : Int32) (G1 G2 : zx_G), f_S_block x y v G = some (r, G1) ∧ f_M_block x y v G1 = some (r, G2) ∧ zi_Inv G2 := by
      intro hx
      refine ⟨-1, G, G, ?_, ?_, hI⟩
      · unfold f_S_block f_S_block_18
        rcases hx with ⟨e1, -⟩ | ⟨e1, -, e2⟩
        · rw [zp_bd e1, zp_pos rfl]
        · rw [zp_bd e1, zp_neg (by decide)]
          by_cases q : v < 0
          · rw [zp_pos q]
          · rw [zp_neg q, zp_neg (Int32.not_le.mpr (e2.resolve_left q))]
      · unfold f_M_block f_M_block_44 f_M_block_45
        rcases hx with ⟨-, e1⟩ | ⟨-, e1, e2⟩
        · rw [zp_bd e1, zp_pos rfl]
        · rw [zp_bd e1, zp_neg (by decide)]
          by_cases q : v < 0
          · rw [zp_pos q]
          · rw [zp_neg q, zp_pos (e2.resolve_left q)]
    rcases zi_in x y a4 a6 hp hp2 b6 b5 b8 b7 with hx | ⟨a, b, ha, hb, rfl, rfl, e1, e2⟩
    · exact no (Or.inl hx)
    by_cases q1 : v < 0
    · exact no (Or.inr ⟨e1, e2, Or.inl q1⟩)
    by_cases q2 : (3 : Int32) < v
    · exact no (Or.inr ⟨e1, e2, Or.inr q2⟩)
    obtain ⟨c, hc, rfl⟩ := nI_of q1
    have hcl : c < 4 := by
      have q3 : ¬ 3 < c := fun z => q2 ((zp_clt (c := (3 : Int32)) 3 rfl hc (by omega)).mpr z)
      omega
    obtain ⟨o, ho, o1, o2, o3⟩ := c2 b a hb ha
    have sh : ∀ n : Nat, n < 2 ^ 31 → nI n >>> ((2 : Int32) &&& 31) = nI (n / 4) := fun n hn => pk_shrN hn _ 2 (by decide)
    have iS : ((nI b >>> ((2 : Int32) &&& 31)) * (4 : Int32)) + (nI a >>> ((2 : Int32) &&& 31)) = nI (b / 4 * 4 + a / 4) := by
      rw [sh b (by omega), sh a (by omega), show (4 : Int32) = nI 4 from rfl, pk_mul, nI_add]
    have iM : ((zx_div (nI b) (4 : Int32)) * (4 : Int32)) + (zx_div (nI a) (4 : Int32)) = nI (b / 4 * 4 + a / 4) := by
      unfold zx_div
      rw [show (4 : Int32) = nI 4 from rfl, pk_div (by omega) (by omega) (by omega), pk_div (by omega) (by omega) (by omega), pk_mul, nI_add]
    have jS : (nI o * (4 : Int32)) + nI c = nI (4 * o + c) := by
      rw [show (4 : Int32) = nI 4 from rfl, pk_mul, nI_add]; congr 1; omega
    have jM : ((4 : Int32) * nI (o + 1)) + nI c = nI (4 * (o + 1) + c) := by
      rw [show (4 : Int32) = nI 4 from rfl, pk_mul, nI_add]
    refine ⟨G 20 (4 * o + c), G, G, ?_, ?_, hI⟩
    · unfold f_S_block f_P_ownerAt f_P_tellOf
      rw [zp_bd e1, zp_neg (by decide), zp_neg q1, zp_pos (Int32.not_lt.mp q2), iS, zp_gd (zp_in (by omega) (by omega)), zp_bd rfl, zp_cl (by omega), o1, jS, zp_gd (zp_in (by omega) (by omega)), zp_bd rfl, zp_cl (by omega)]
    · unfold f_M_block f_M_block_45
      rw [zp_bd e2, zp_neg (by decide), zp_neg q1, zp_neg q2, zp_gd (c := zx_nz (4 : Int32)) rfl, zp_gd (c := zx_nz (4 : Int32)) rfl, iM, zp_gd (zp_in (by omega) (by omega)), zp_cl (by omega), o2, jM, zp_gd (zp_in (by omega) (by omega)), zp_cl (by omega), o3 c hcl]
theorem zm_tsize (c : Nat) (hc : c < 19) (G : zx_G) : f_M_tableSize (nI c) G = some (zx_tab0 c, G) := by
  have key : ∀ c, c < 19 → ∀ G : zx_G, f_M_tableSize (nI c) G = some (zx_tab0 c, G) := by
    intro c hc G
    have : c = 0 ∨ c = 1 ∨ c = 2 ∨ c = 3 ∨ c = 4 ∨ c = 5 ∨ c = 6 ∨ c = 7 ∨ c = 8 ∨ c = 9 ∨ c = 10 ∨ c = 11 ∨ c = 12 ∨ c = 13 ∨ c = 14 ∨ c = 15 ∨ c = 16 ∨ c = 17 ∨ c = 18 := by omega
    rcases this with rfl | rfl | rfl | rfl | rfl | rfl | rfl | rfl | rfl | rfl | rfl | rfl | rfl | rfl | rfl | rfl | rfl | rfl | rfl <;> rfl
  exact key c hc G
def zx_cnt (c : Nat) : Nat := ([2, 2, 6, 6, 6, 6, 7, 7, 2, 2, 4, 16, 16, 4, 4, 4, 4, 4, 4] : List Nat).getD c 0
theorem zx_cnt_tab : ∀ c, c < 19 → zx_tab0 c = nI (zx_cnt c) ∧ 2 ≤ zx_cnt c ∧ zx_cnt c ≤ 16 := by decide +kernel
theorem zo_table (t i : Int32) : zp_ok zi_Inv (f_S_table t i) (f_M_table t i) := by
  intro G hI
  obtain ⟨-, ⟨hd, hp⟩, -⟩ := id hI
  rcases hp with hp | ⟨hp, yy, tt, w, h, a1, a2, a3, a4, a5, a6, b1, b2, b3, b4, b5, b6, b7, b8, c1, c2, c3, c4, c5, c6⟩
  · exact ⟨-1, G, G, by unfold f_S_table f_S_table_20; rw [zp_pos hp], by unfold f_M_table f_M_table_43 f_M_table_44; rw [zp_pos (by rw [← hd]; exact hp)], hI⟩
  have e0 : ¬ G 0 9 = 0 := by rw [hp]; decide
  have e9 : ¬ G 32 33 = 0 := by rw [← hd]; exact e0
  unfold f_S_table f_S_table_20 f_C_numberOf f_C_numberOf_23 f_M_table f_M_table_43 f_M_table_44
  by_cases q1 : t < 0
  · exact ⟨-1, G, G, by rw [zp_neg e0, zp_pos q1, zp_bd rfl], by rw [zp_neg e9, zp_pos q1], hI⟩
  obtain ⟨c, hc, rfl⟩ := nI_of q1
  by_cases q2 : c < 19
  · have p2 : ¬ (19 : Int32) ≤ nI c := fun q => by have q3 := (zp_cle (c := (19 : Int32)) 19 rfl hc (by omega)).mp q; omega
    have p3 : ¬ (18 : Int32) < nI c := fun q => by have q3 := (zp_clt (c := (18 : Int32)) 18 rfl hc (by omega)).mp q; omega
    by_cases q3 : i < 0
    · exact ⟨-1, G, G, by rw [zp_neg e0, zp_neg q1, zp_neg p2, zp_pos q3, zp_bd rfl], by rw [zp_neg e9, zp_neg q1, zp_neg p3, zp_pos q3], hI⟩
    obtain ⟨j, hj, rfl⟩ := nI_of q3
    obtain ⟨t1, t2, t3⟩ := zx_cnt_tab c q2
    by_cases q4 : nI j < zx_tab0 c
    · have hjl : j < 16 := by rw [t1, nI_ltI hj (by omega)] at q4; omega
      have iS : (nI c * (16 : Int32)) + nI j = nI (16 * c + j) := by rw [show (16 : Int32) = nI 16 from rfl, pk_mul, nI_add]; congr 1; omega
      have iM : ((16 : Int32) * nI c) + nI j = nI (16 * c + j) := by rw [show (16 : Int32) = nI 16 from rfl, pk_mul, nI_add]
      refine ⟨G 15 (16 * c + j), G, G, ?_, ?_, hI⟩
      · rw [zp_neg e0, zp_neg q1, zp_neg p2, zp_neg q3, zp_gd (zp_in q2 (by omega)), zp_cl (by omega), zp_pos q4, iS, zp_gd (zp_in (by omega) (by omega)), zp_bd rfl, zp_cl (by omega)]
      · rw [zp_neg e9, zp_neg q1, zp_neg p3, zp_neg q3, zp_bd (zm_tsize c q2 G), zp_neg (Int32.not_le.mpr q4), iM, zp_gd (zp_in (by omega) (by omega)), zp_cl (by omega), c6 c j q2 q4 hjl]
    · refine ⟨-1, G, G, ?_, ?_, hI⟩
      · rw [zp_neg e0, zp_neg q1, zp_neg p2, zp_neg q3, zp_gd (zp_in q2 (by omega)), zp_cl (by omega), zp_neg q4, zp_bd rfl]
      · rw [zp_neg e9, zp_neg q1, zp_neg p3, zp_neg q3, zp_bd (zm_tsize c q2 G), zp_pos (Int32.not_lt.mp q4)]
  · have p2 : (19 : Int32) ≤ nI c := (zp_cle (c := (19 : Int32)) 19 rfl hc (by omega)).mpr (by omega)
    have p3 : (18 : Int32) < nI c := (zp_clt (c := (18 : Int32)) 18 rfl hc (by omega)).mpr (by omega)
    exact ⟨-1, G, G, by rw [zp_neg e0, zp_neg q1, zp_pos p2, zp_bd rfl], by rw [zp_neg e9, zp_neg q1, zp_pos p3], hI⟩
