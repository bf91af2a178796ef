/-! the sequence's head, on both sides -/
/-- where the links stand in the file -/
def zh_K (Gc Gm : zx_G) : Prop := (∃ k8 f8, k8 < 16 ∧ f8 + 1 < 240 ∧ Gc 8 8 = nI k8 ∧ Gm 32 13 = nI k8 ∧ Gc 4 k8 = nI f8 ∧ Gm 34 k8 = nI f8) ∧ (∃ k9 f9, k9 < 16 ∧ f9 < 240 ∧ Gc 8 9 = nI k9 ∧ Gm 32 14 = nI k9 ∧ Gc 4 k9 = nI f9 ∧ Gm 34 k9 = nI f9) ∧ ((Gc 8 10 = -1 ∧ Gm 32 15 = -1) ∨ ∃ k10 f10 v10, k10 < 16 ∧ f10 + v10 < 240 ∧ Gc 8 10 = nI k10 ∧ Gm 32 15 = nI k10 ∧ Gc 4 k10 = nI f10 ∧ Gm 34 k10 = nI f10 ∧ Gc 1 f10 = nI v10 ∧ Gm 33 f10 = nI v10) ∧ ∀ k, k < 240 → Gc 1 k = Gm 33 k
theorem zh_K.keep {Gc Gm Gc' Gm' : zx_G} (h : zh_K Gc Gm) (c1 : Gc' 1 = Gc 1) (c4 : Gc' 4 = Gc 4) (c8 : Gc' 8 = Gc 8) (m33 : Gm' 33 = Gm 33) (m34 : Gm' 34 = Gm 34) (m13 : Gm' 32 13 = Gm 32 13) (m14 : Gm' 32 14 = Gm 32 14) (m15 : Gm' 32 15 = Gm 32 15) : zh_K Gc' Gm' := by
  unfold zh_K
  rw [c1, c4, c8, m33, m34, m13, m14, m15]
  exact h
/-- the reference's comparison -/
def zh_t (G : zx_G) : Option (Int32 × zx_G) :=
  zx_gd (zx_in (G 32 13) 16) <|
  zx_lt (G 34 (Int32.toNatClampNeg (G 32 13))) fun x1_24 =>
  zx_gd (zx_in x1_24 240) <|
  zx_if (¬ (G 33 (Int32.toNatClampNeg x1_24)) = (G 32 18))
    (f_M_sequence_142 G)
    (zx_gd (zx_in (x1_24 + (1 : Int32)) 240) <|
    zx_if (¬ (G 33 (Int32.toNatClampNeg (x1_24 + (1 : Int32)))) = (G 32 19))
      (f_M_sequence_142 G)
      (zx_gd (zx_in (G 32 14) 16) <|
      zx_gd (zx_in (G 34 (Int32.toNatClampNeg (G 32 14))) 240) <|
      zx_if (¬ (G 33 (Int32.toNatClampNeg (G 34 (Int32.toNatClampNeg (G 32 14))))) = ((G 32 16) + ((4 : Int32) * (G 32 17))))
        (f_M_sequence_142 G)
        (f_M_sequence_143 (1 : Int32) G)))
theorem zh_239 {fl : Int32} (G : zx_G) (h : fl = 0 ∨ fl = 1) : f_M_sequence_239 fl G = some (0, if fl = 1 then G else zx_up G 32 10 (zh_code (G 32 10) 6)) := by
  unfold f_M_sequence_239 f_M_sequence_249
  rcases h with rfl | rfl
  · rw [zp_neg (show ¬ ¬ (0 : Int32) = 0 from fun z => z rfl), zp_bd (zh_fail 6 G), if_neg (by decide)]
  · rw [zp_pos (by decide), if_pos rfl]
theorem zh_191 {f v : Nat} {G : zx_G} (hv : f + v < 240) (h33 : G 33 f = nI v) : ∀ (rem x n : Nat) (x2 : Int32), x + rem = v + 1 → rem < n → (x2 = 0 ∨ x2 = 1) → ∃ fl, (fl = 0 ∨ fl = 1) ∧ f_M_sequence_191 n x2 (nI f) (nI x) G = f_M_sequence_239 fl G ∧ (fl = 1 ↔ (x2 = 1 ∧ ∀ y, x ≤ y → y ≤ v → G 33 (f + y) = (8 : Int32) + ((2 : Int32) * (G 32 17)))) := by
  intro rem
  induction rem with
  | zero =>
    intro x n x2 hx hn h2
    obtain ⟨n, rfl⟩ : ∃ k, n = k + 1 := ⟨n - 1, by omega⟩
    refine ⟨x2, h2, ?_, fun z => ⟨z, fun y a b => by omega⟩, fun z => z.1⟩
    rw [f_M_sequence_191, zp_gd (zp_in (by omega) (by omega)), zp_cl (by omega), h33, zp_pos (nI_lt (by omega) (by omega))]
  | succ rem ih =>
    intro x n x2 hx hn h2
    obtain ⟨n, rfl⟩ : ∃ k, n = k + 1 := ⟨n - 1, by omega⟩
    have k232 : ∀ s, f_M_sequence_232 (f_M_sequence_191 n) (nI f) (nI x) s G = f_M_sequence_191 n s (nI f) (nI (x + 1)) G := fun s => by
      unfold f_M_sequence_232
      rw [zp_lt, zp_lt, nI_1]
    rw [f_M_sequence_191, zp_gd (zp_in (by omega) (by omega)), zp_cl (j := f) (by omega), h33, zp_neg (nI_nlt (by omega) (by omega))]
    unfold f_M_sequence_231
    rw [k232, k232]
    rcases h2 with rfl | rfl
    · obtain ⟨fl, a1, a2, a3⟩ := ih (x + 1) n 0 (by omega) (by omega) (Or.inl rfl)
      refine ⟨fl, a1, by rw [zp_pos rfl]; exact a2, fun z => absurd (a3.mp z).1 (by decide), fun z => absurd z.1 (by decide)⟩
    · rw [zp_neg (show ¬ (1 : Int32) = 0 by decide), nI_add, zp_gd (zp_in (by omega) (by omega)), zp_cl (by omega)]
      by_cases c : G 33 (f + x) = (8 : Int32) + ((2 : Int32) * (G 32 17))
      · obtain ⟨fl, a1, a2, a3⟩ := ih (x + 1) n 1 (by omega) (by omega) (Or.inr rfl)
        refine ⟨fl, a1, by rw [zp_neg (fun z => z c)]; exact a2, fun z => ⟨rfl, fun y h1 h2 => ?_⟩, fun z => a3.mpr ⟨rfl, fun y h1 h2 => z.2 y (by omega) h2⟩⟩
        by_cases q : y = x
        · rw [q]; exact c
        · exact (a3.mp z).2 y (by omega) h2
      · obtain ⟨fl, a1, a2, a3⟩ := ih (x + 1) n 0 (by omega) (by omega) (Or.inl rfl)
        refine ⟨fl, a1, by rw [zp_pos c]; exact a2, fun z => absurd (a3.mp z).1 (by decide), fun z => absurd (z.2 x (by omega) (by omega)) c⟩
/-- what must agree, in the reference's words -/
def zh_ag (Gm : zx_G) (w h c pl dp : Int32) : Prop := (∃ k8 f8, Gm 32 13 = nI k8 ∧ k8 < 16 ∧ Gm 34 k8 = nI f8 ∧ f8 < 240 ∧ Gm 33 f8 = w ∧ Gm 33 (f8 + 1) = h) ∧ (∃ k9 f9, Gm 32 14 = nI k9 ∧ k9 < 16 ∧ Gm 34 k9 = nI f9 ∧ f9 < 240 ∧ Gm 33 f9 = c) ∧ (Gm 32 15 = -1 ∨ ∃ k10 f10 v10, Gm 32 15 = nI k10 ∧ k10 < 16 ∧ Gm 34 k10 = nI f10 ∧ f10 < 240 ∧ Gm 33 f10 = nI v10 ∧ v10 < 240 ∧ Gm 33 f10 = pl ∧ ∀ y, 1 ≤ y → y ≤ v10 → Gm 33 (f10 + y) = dp)
theorem zh_inj {a b : Nat} {v : Int32} (ha : a < 2 ^ 31) (hb : b < 2 ^ 31) (h1 : v = nI a) (h2 : v = nI b) : a = b := (nI_eq ha hb).mp (h1.symm.trans h2)
theorem zh_143 {Gc G : zx_G} (hK : zh_K Gc G) {fl : Int32} (hfl : fl = 0 ∨ fl = 1) : ∃ fl', (fl' = 0 ∨ fl' = 1) ∧ f_M_sequence_143 fl G = f_M_sequence_239 fl' G ∧ (fl' = 1 ↔ (fl = 1 ∧ (G 32 15 = -1 ∨ ∃ k10 f10 v10, G 32 15 = nI k10 ∧ k10 < 16 ∧ G 34 k10 = nI f10 ∧ f10 < 240 ∧ G 33 f10 = nI v10 ∧ v10 < 240 ∧ G 33 f10 = (1 : Int32) + ((2 : Int32) * (G 32 16)) ∧ ∀ y, 1 ≤ y → y ≤ v10 → G 33 (f10 + y) = (8 : Int32) + ((2 : Int32) * (G 32 17))))) := by
  obtain ⟨-, -, hx, -⟩ := hK
  rcases hx with ⟨-, x2⟩ | ⟨k10, f10, v10, k1, k2, -, x2, -, x4, -, x6⟩
  · refine ⟨fl, hfl, ?_, fun z => ⟨z, Or.inl x2⟩, fun z => z.1⟩
    unfold f_M_sequence_143
    rw [zp_lt, x2, zp_pos (by decide)]
  · have nx : ¬ G 32 15 = -1 := by rw [x2]; exact zb_nm1 (by omega)
    have pre : f_M_sequence_143 fl G = zx_if (fl = 0) (f_M_sequence_186 (nI f10) G) (zx_if (¬ nI v10 = ((1 : Int32) + ((2 : Int32) * (G 32 16)))) (f_M_sequence_186 (nI f10) G) (f_M_sequence_187 (nI f10) (1 : Int32) G)) := by
      unfold f_M_sequence_143
      rw [zp_lt, x2, zp_neg (nI_pos (by omega)), zp_gd (zp_in (by omega) (by omega)), zp_cl (by omega), x4, zp_lt, zp_gd (zp_in (by omega) (by omega)), zp_cl (by omega), x6]
    have k187 : ∀ s, f_M_sequence_187 (nI f10) s G = f_M_sequence_191 2048 s (nI f10) (nI 1) G := fun s => by
      unfold f_M_sequence_187
      rw [zp_lt, zp_lt]
      rfl
    unfold f_M_sequence_186 at pre
    rw [k187, k187] at pre
    by_cases c : fl = 1 ∧ nI v10 = (1 : Int32) + ((2 : Int32) * (G 32 16))
    · obtain ⟨fl', a1, a2, a3⟩ := zh_191 k2 x6 v10 1 2048 1 (by omega) (by omega) (Or.inr rfl)
      refine ⟨fl', a1, ?_, fun z => ⟨c.1, Or.inr ⟨k10, f10, v10, x2, k1, x4, by omega, x6, by omega, by rw [x6]; exact c.2, (a3.mp z).2⟩⟩, fun z => a3.mpr ⟨rfl, ?_⟩⟩
      · rw [pre, c.1, zp_neg (show ¬ (1 : Int32) = 0 by decide), zp_neg (fun z => z c.2)]
        exact a2
      · rcases z.2 with z | ⟨k, f, v, z1, z2, z3, z4, z5, z6, z7, z8⟩
        · exact absurd z nx
        · have e1 : k = k10 := zh_inj (by omega) (by omega) z1 x2
          subst e1
          have e2 : f = f10 := zh_inj (by omega) (by omega) z3 x4
          subst e2
          have e3 : v = v10 := zh_inj (by omega) (by omega) z5 x6
          subst e3
          exact z8
    · obtain ⟨fl', a1, a2, a3⟩ := zh_191 k2 x6 v10 1 2048 0 (by omega) (by omega) (Or.inl rfl)
      have n1 : ¬ fl' = 1 := fun z => absurd (a3.mp z).1 (by decide)
      refine ⟨fl', a1, ?_, fun z => absurd z n1, fun z => ?_⟩
      · rw [pre]
        by_cases q : fl = 0
        · rw [zp_pos q]; exact a2
        · have q1 : fl = 1 := hfl.resolve_left q
          rw [zp_neg q, zp_pos (show ¬ nI v10 = ((1 : Int32) + ((2 : Int32) * (G 32 16))) from fun w => c ⟨q1, w⟩)]
          exact a2
      · exfalso
        rcases z.2 with w | ⟨k, f, v, z1, z2, z3, z4, z5, z6, z7, z8⟩
        · exact nx w
        · have e1 : k = k10 := zh_inj (by omega) (by omega) z1 x2
          subst e1
          have e2 : f = f10 := zh_inj (by omega) (by omega) z3 x4
          subst e2
          exact c ⟨z.1, by rw [← x6]; exact z7⟩
theorem zh_tail {Gc G : zx_G} (hK : zh_K Gc G) : ∃ fl, (fl = 0 ∨ fl = 1) ∧ zh_t G = f_M_sequence_239 fl G ∧ (fl = 1 ↔ zh_ag G (G 32 18) (G 32 19) ((G 32 16) + ((4 : Int32) * (G 32 17))) ((1 : Int32) + ((2 : Int32) * (G 32 16))) ((8 : Int32) + ((2 : Int32) * (G 32 17)))) := by
  obtain ⟨⟨k8, f8, a1, a2, -, a4, -, a6⟩, ⟨k9, f9, b1, b2, -, b4, -, b6⟩, -, -⟩ := id hK
  obtain ⟨f0, z0, z1, z2⟩ := zh_143 (fl := 0) hK (Or.inl rfl)
  obtain ⟨f1, y0, y1, y2⟩ := zh_143 (fl := 1) hK (Or.inr rfl)
  have n0 : ¬ f0 = 1 := fun z => absurd (z2.mp z).1 (by decide)
  have pre : zh_t G = zx_if (¬ G 33 f8 = G 32 18) (f_M_sequence_239 f0 G) (zx_if (¬ G 33 (f8 + 1) = G 32 19) (f_M_sequence_239 f0 G) (zx_if (¬ G 33 f9 = ((G 32 16) + ((4 : Int32) * (G 32 17)))) (f_M_sequence_239 f0 G) (f_M_sequence_239 f1 G))) := by
    unfold zh_t f_M_sequence_142
    rw [a4, zp_gd (zp_in (by omega) (by omega)), zp_cl (j := k8) (by omega), a6, zp_lt, zp_gd (zp_in (by omega) (by omega)), zp_cl (j := f8) (by omega), nI_1, zp_gd (zp_in (by omega) (by omega)), zp_cl (j := f8 + 1) (by omega), b4, zp_gd (zp_in (by omega) (by omega)), zp_cl (j := k9) (by omega), b6, zp_gd (zp_in (by omega) (by omega)), zp_cl (j := f9) (by omega), z1, y1]
  have un : zh_ag G (G 32 18) (G 32 19) ((G 32 16) + ((4 : Int32) * (G 32 17))) ((1 : Int32) + ((2 : Int32) * (G 32 16))) ((8 : Int32) + ((2 : Int32) * (G 32 17))) → G 33 f8 = G 32 18 ∧ G 33 (f8 + 1) = G 32 19 ∧ G 33 f9 = ((G 32 16) + ((4 : Int32) * (G 32 17))) := by
    rintro ⟨⟨k, f, u1, u2, u3, u4, u5, u6⟩, ⟨k', f', w1, w2, w3, w4, w5⟩, -⟩
    have e1 : k = k8 := zh_inj (by omega) (by omega) u1 a4
    subst e1
    have e2 : f = f8 := zh_inj (by omega) (by omega) u3 a6
    subst e2
    have e3 : k' = k9 := zh_inj (by omega) (by omega) w1 b4
    subst e3
    have e4 : f' = f9 := zh_inj (by omega) (by omega) w3 b6
    subst e4
    exact ⟨u5, u6, w5⟩
  by_cases c1 : G 33 f8 = G 32 18
  · by_cases c2 : G 33 (f8 + 1) = G 32 19
    · by_cases c3 : G 33 f9 = ((G 32 16) + ((4 : Int32) * (G 32 17)))
      · refine ⟨f1, y0, by rw [pre, zp_neg (fun z => z c1), zp_neg (fun z => z c2), zp_neg (fun z => z c3)], fun z => ⟨⟨k8, f8, a4, a1, a6, by omega, c1, c2⟩, ⟨k9, f9, b4, b1, b6, b2, c3⟩, (y2.mp z).2⟩, fun z => y2.mpr ⟨rfl, z.2.2⟩⟩
      · exact ⟨f0, z0, by rw [pre, zp_neg (fun z => z c1), zp_neg (fun z => z c2), zp_pos c3], fun z => absurd z n0, fun z => absurd (un z).2.2 c3⟩
    · exact ⟨f0, z0, by rw [pre, zp_neg (fun z => z c1), zp_pos c2], fun z => absurd z n0, fun z => absurd (un z).2.1 c2⟩
  · exact ⟨f0, z0, by rw [pre, zp_pos c1], fun z => absurd z n0, fun z => absurd (un z).1 c1⟩
/-- the class's comparison -/
theorem zh_agrees {Gc Gm : zx_G} (hK : zh_K Gc Gm) (w h c pl dp : Int32) : ∃ r, (r = 0 ∨ r = 1) ∧ f_I_agrees w h c pl dp Gc = some (r, Gc) ∧ (r = 1 ↔ zh_ag Gm w h c pl dp) := by
  obtain ⟨⟨k8, f8, a1, a2, a3, a4, a5, a6⟩, ⟨k9, f9, b1, b2, b3, b4, b5, b6⟩, hx, hf⟩ := id hK
  have un : zh_ag Gm w h c pl dp → Gc 1 f8 = w ∧ Gc 1 (f8 + 1) = h ∧ Gc 1 f9 = c := by
    rintro ⟨⟨k, f, u1, u2, u3, u4, u5, u6⟩, ⟨k', f', w1, w2, w3, w4, w5⟩, -⟩
    have e1 : k = k8 := zh_inj (by omega) (by omega) u1 a4
    subst e1
    have e2 : f = f8 := zh_inj (by omega) (by omega) u3 a6
    subst e2
    have e3 : k' = k9 := zh_inj (by omega) (by omega) w1 b4
    subst e3
    have e4 : f' = f9 := zh_inj (by omega) (by omega) w3 b6
    subst e4
    rw [hf _ (by omega), hf _ (by omega), hf _ (by omega)]
    exact ⟨u5, u6, w5⟩
  have no : ∀ P : Prop, ¬ P → (∀ Q, Q = (some (0, Gc) : Option (Int32 × zx_G)) → ∃ r : Int32, (r = 0 ∨ r = 1) ∧ Q = some (r, Gc) ∧ (r = 1 ↔ P)) := fun P hP Q hQ => ⟨0, Or.inl rfl, hQ, fun z => absurd z (by decide), fun z => absurd z hP⟩
  have pre : f_I_agrees w h c pl dp Gc = zx_if (¬ Gc 1 f8 = w) (some (0, Gc)) (zx_if (Gc 1 (f8 + 1) = h) (zx_if (Gc 1 f9 = c) (zx_if (¬ (Gc 8 10) = (-1 : Int32)) (zx_gd (zx_in (Gc 8 10) 16) <| zx_lt (Gc 4 (Int32.toNatClampNeg (Gc 8 10))) fun x7_12 => zx_gd (zx_in x7_12 240) <| zx_if ((Gc 1 (Int32.toNatClampNeg x7_12)) = pl) (zx_lt (1 : Int32) fun x8_15 => f_I_agrees_104 2048 pl dp x7_12 x8_15 Gc) (zx_gd (zx_01 (0 : Int32)) <| some ((0 : Int32), Gc))) (zx_gd (zx_01 (1 : Int32)) <| some ((1 : Int32), Gc))) (some (0, Gc))) (some (0, Gc))) := by
    have e38 : f_I_agrees_38 Gc = some (0, Gc) := rfl
    unfold f_I_agrees
    rw [e38, a3, zp_gd (zp_in (by omega) (by omega)), zp_cl (j := k8) (by omega), a5, zp_lt, zp_gd (zp_in (by omega) (by omega)), zp_cl (j := f8) (by omega), nI_1, zp_gd (zp_in (by omega) (by omega)), zp_cl (j := f8 + 1) (by omega), b3, zp_gd (zp_in (by omega) (by omega)), zp_cl (j := k9) (by omega), b5, zp_gd (zp_in (by omega) (by omega)), zp_cl (j := f9) (by omega), zp_gd (c := zx_01 (0 : Int32)) (by decide)]
  by_cases c1 : Gc 1 f8 = w
  · by_cases c2 : Gc 1 (f8 + 1) = h
    · by_cases c3 : Gc 1 f9 = c
      · have p1 : (∃ k8 f8, Gm 32 13 = nI k8 ∧ k8 < 16 ∧ Gm 34 k8 = nI f8 ∧ f8 < 240 ∧ Gm 33 f8 = w ∧ Gm 33 (f8 + 1) = h) := ⟨k8, f8, a4, a1, a6, by omega, by rw [← hf _ (by omega)]; exact c1, by rw [← hf _ (by omega)]; exact c2⟩
        have p2 : (∃ k9 f9, Gm 32 14 = nI k9 ∧ k9 < 16 ∧ Gm 34 k9 = nI f9 ∧ f9 < 240 ∧ Gm 33 f9 = c) := ⟨k9, f9, b4, b1, b6, b2, by rw [← hf _ (by omega)]; exact c3⟩
        rw [pre, zp_neg (show ¬ ¬ Gc 1 f8 = w from fun z => z c1), zp_pos c2, zp_pos c3]
        rcases hx with ⟨x1, x2⟩ | ⟨k10, f10, v10, k1, k2, x1, x2, x3, x4, x5, x6⟩
        · exact ⟨1, Or.inr rfl, by rw [x1, zp_neg (show ¬ ¬ (-1 : Int32) = (-1 : Int32) from fun z => z rfl)]; rfl, fun _ => ⟨p1, p2, Or.inl x2⟩, fun _ => rfl⟩
        · have nx : ¬ Gm 32 15 = -1 := by rw [x2]; exact zb_nm1 (by omega)
          have un3 : zh_ag Gm w h c pl dp → nI v10 = pl ∧ ∀ y, 1 ≤ y → y ≤ v10 → Gc 1 (f10 + y) = dp := by
            rintro ⟨-, -, z | ⟨k, f, v, z1, z2, z3, z4, z5, z6, z7, z8⟩⟩
            · exact absurd z nx
            · have e1 : k = k10 := zh_inj (by omega) (by omega) z1 x2
              subst e1
              have e2 : f = f10 := zh_inj (by omega) (by omega) z3 x4
              subst e2
              have e3 : v = v10 := zh_inj (by omega) (by omega) z5 x6
              subst e3
              exact ⟨by rw [← x6]; exact z7, fun y h1 h2 => by rw [hf _ (by omega)]; exact z8 y h1 h2⟩
          rw [x1, zp_pos (zb_nm1 (by omega)), zp_gd (zp_in (by omega) (by omega)), zp_cl (j := k10) (by omega), x3, zp_lt, zp_gd (zp_in (by omega) (by omega)), zp_cl (j := f10) (by omega), x5]
          by_cases c4 : nI v10 = pl
          · have loop : ∀ (rem x n : Nat), x + rem = v10 + 1 → rem < n → ∃ r : Int32, (r = 0 ∨ r = 1) ∧ f_I_agrees_104 n pl dp (nI f10) (nI x) Gc = some (r, Gc) ∧ (r = 1 ↔ ∀ y, x ≤ y → y ≤ v10 → Gc 1 (f10 + y) = dp) := by
              intro rem
              induction rem with
              | zero =>
                intro x n hx hn
                obtain ⟨n, rfl⟩ : ∃ k, n = k + 1 := ⟨n - 1, by omega⟩
                refine ⟨1, Or.inr rfl, ?_, fun _ y h1 h2 => by omega, fun _ => rfl⟩
                rw [f_I_agrees_104, ← c4, zp_pos (nI_lt (by omega) (by omega))]; rfl
              | succ rem ih =>
                intro x n hx hn
                obtain ⟨n, rfl⟩ : ∃ k, n = k + 1 := ⟨n - 1, by omega⟩
                rw [f_I_agrees_104, ← c4, zp_neg (nI_nlt (by omega) (by omega)), nI_add, zp_gd (zp_in (by omega) (by omega)), zp_cl (by omega)]
                by_cases q : Gc 1 (f10 + x) = dp
                · obtain ⟨r, r1, r2, r3⟩ := ih (x + 1) n (by omega) (by omega)
                  refine ⟨r, r1, by rw [zp_pos q, zp_lt, nI_1, c4]; exact r2, fun z y h1 h2 => ?_, fun z => r3.mpr (fun y h1 h2 => z y (by omega) h2)⟩
                  by_cases e : y = x
                  · rw [e]; exact q
                  · exact r3.mp z y (by omega) h2
                · exact ⟨0, Or.inl rfl, by rw [zp_neg q]; rfl, fun z => absurd z (by decide), fun z => absurd (z x (by omega) (by omega)) q⟩
            obtain ⟨r, r1, r2, r3⟩ := loop v10 1 2048 (by omega) (by omega)
            refine ⟨r, r1, by rw [zp_pos c4, zp_lt]; exact r2, fun z => ⟨p1, p2, Or.inr ⟨k10, f10, v10, x2, k1, x4, by omega, x6, by omega, by rw [x6]; exact c4, fun y h1 h2 => by rw [← hf _ (by omega)]; exact r3.mp z y h1 h2⟩⟩, fun z => r3.mpr (un3 z).2⟩
          · exact no _ (fun z => c4 (un3 z).1) _ (by rw [zp_neg c4]; rfl)
      · exact no _ (fun z => c3 (un z).2.2) _ (by rw [pre, zp_neg (show ¬ ¬ Gc 1 f8 = w from fun z => z c1), zp_pos c2, zp_neg c3])
    · exact no _ (fun z => c2 (un z).2.1) _ (by rw [pre, zp_neg (show ¬ ¬ Gc 1 f8 = w from fun z => z c1), zp_neg c2])
  · exact no _ (fun z => c1 (un z).1) _ (by rw [pre, zp_pos c1])
