/-! the units: one unit, the whole stream -/
def zu_Fd (Gc Gm : zx_G) : Prop := ∃ y t w h so : Nat, y ≤ 1 ∧ t ≤ 1 ∧ 1 ≤ w ∧ w ≤ 16 ∧ 1 ≤ h ∧ h ≤ 16 ∧ so ≤ 1 ∧ Gc 11 5 = nI so ∧ Gc 11 6 = nI (1 + 2 * y) ∧ Gc 11 7 = nI w ∧ Gc 11 8 = nI h ∧ Gc 11 9 = nI (8 + 2 * t) ∧ Gm 32 16 = nI y ∧ Gm 32 17 = nI t ∧ Gm 32 18 = nI w ∧ Gm 32 19 = nI h ∧ Gm 32 20 = nI so
def zu_Fm (Bc Bm Gc Gm : zx_G) : Prop := (∀ q, q ≠ 11 → q ≠ 12 → q ≠ 13 → Gc q = Bc q) ∧ (∀ q, q ≠ 32 → Gm q = Bm q) ∧ ∀ q, q < 10 ∨ (12 < q ∧ q < 16) ∨ 26 < q → Gm 32 q = Bm 32 q
def zu_S (dl at_ sq : Nat) (Bc Bm Gc Gm : zx_G) : Prop := zu_U at_ dl Gc Gm ∧ Gm 32 10 = 0 ∧ zh_K Gc Gm ∧ zu_Fm Bc Bm Gc Gm ∧ Gc 11 4 = 0 ∧ sq ≤ 1 ∧ Gc 11 3 = nI sq ∧ (sq = 1 → zu_Fd Gc Gm)
/-- what the header leaves when a frame is found -/
def zu_E (dl : Nat) (Bc Bm Gc Gm : zx_G) : Prop := zu_Fm Bc Bm Gc Gm ∧ Gm 32 10 = 0 ∧ zu_Fd Gc Gm ∧ ∃ q s lv sg fr to : Nat, q ≤ 63 ∧ s ≤ 1 ∧ lv ≤ 7 ∧ sg ≤ 3 ∧ fr ≤ 201 ∧ to ≤ dl ∧ Gc 11 10 = nI q ∧ Gm 32 21 = nI q ∧ Gc 11 11 = nI s ∧ Gm 32 22 = nI s ∧ Gc 11 12 = nI lv ∧ Gm 32 23 = nI lv ∧ Gc 11 13 = nI sg ∧ Gm 32 24 = nI sg ∧ Gc 11 14 = nI fr ∧ Gm 32 25 = nI (8 * fr) ∧ Gc 11 15 = nI to ∧ Gm 32 26 = nI (8 * to)
/-- the three ends of a unit -/
def zu_O (dl at_ n : Nat) (Bc Bm : zx_G) (C M : Option (Int32 × zx_G)) : Prop := ∃ (Gc' : zx_G) (v : Int32), C = some (v, Gc') ∧ ((¬ v = 0 ∧ ∃ Gm', M = some (0, Gm') ∧ Gm' 32 10 = v) ∨ (v = 0 ∧ Gc' 11 4 = 1 ∧ ∃ Gm', M = some (0, Gm') ∧ zu_E dl Bc Bm Gc' Gm') ∨ (v = 0 ∧ ∃ (Gm' : zx_G) (at' sq' : Nat), at_ < at' ∧ M = f_M_units_6 (n + 1) (nI at') (nI sq') (1 : Int32) Gm' ∧ zu_S dl at' sq' Bc Bm Gc' Gm'))
theorem zu_tail {n at_ c sq sq' kd : Nat} {x4 : Int32} {G : zx_G} (hk : x4 >>> ((3 : Int32) &&& 31) = nI kd) (hkd : kd < 32) (hsq : sq ≤ 1) (hsq' : sq' = if kd = 1 then 1 else sq) : f_M_units_291 (f_M_units_6 n) (nI at_) (nI sq) x4 (nI c) G = f_M_units_6 n (nI (at_ + c)) (nI sq') (if kd = 6 then 0 else 1) G := by
  have e6 : nI kd = (6 : Int32) ↔ kd = 6 := zp_eqc (c := (6 : Int32)) 6 rfl (by omega) (by omega)
  have e1 : nI kd = (1 : Int32) ↔ kd = 1 := zp_eqc (c := (1 : Int32)) 1 rfl (by omega) (by omega)
  have k308 : ∀ x2, f_M_units_308 (f_M_units_6 n) (nI at_) x4 (nI c) x2 G = f_M_units_6 n (nI (at_ + c)) x2 (if kd = 6 then 0 else 1) G := fun x2 => by
    unfold f_M_units_308 f_M_units_323 f_M_units_329
    rw [zp_lt, hk, zp_lt, zp_lt, zp_lt, zp_lt, nI_add]
    by_cases q : kd = 6
    · rw [zp_pos (e6.mpr q), if_pos q]
    · rw [zp_neg (fun z => q (e6.mp z)), if_neg q]
  unfold f_M_units_291 f_M_units_303
  rw [k308, k308, hk]
  by_cases q : sq = 0
  · rw [q, zp_neg (show ¬ ¬ nI 0 = 0 from fun z => z rfl)]
    by_cases q1 : kd = 1
    · rw [zp_neg (fun z => z (e1.mpr q1)), hsq', if_pos q1]; rfl
    · rw [zp_pos (show ¬ nI kd = (1 : Int32) from fun z => q1 (e1.mp z)), hsq', if_neg q1, q]; rfl
  · have s1 : sq = 1 := by omega
    rw [s1, zp_pos (show ¬ nI 1 = 0 by decide), hsq', s1]
    by_cases q1 : kd = 1
    · rw [if_pos q1]; rfl
    · rw [if_neg q1]; rfl
theorem zu_open {f e : Nat} {G : zx_G} (hf : f ≤ 200) (he : e ≤ 200) : f_U_open_13 (nI f) (nI e) G = some (0, zx_up (zx_up (zx_up G 13 1 (nI f)) 13 2 (nI e)) 13 3 (0 : Int32)) := by
  have e1 : zx_mmax (nI f) (0 : Int32) = nI f := by
    unfold zx_mmax
    rw [if_neg (nI_pos (by omega))]
  have e2 : zx_mmin (nI e) (200 : Int32) = nI e := by
    unfold zx_mmin
    rw [if_neg (show ¬ (200 : Int32) < nI e from nI_nlt (a := 200) he (by omega))]
  unfold f_U_open_13
  rw [zp_lt, zp_lt, zp_lt, e1, e2]
set_option maxRecDepth 100000 in
theorem zu_body {dl at0 at_ sq n B c : Nat} {x4 : Int32} {Bc Bm Gc Gm : zx_G} (hS : zu_S dl at_ sq Bc Bm Gc Gm) (hB : B < 128) (h4 : x4 >>> ((3 : Int32) &&& 31) = nI (B / 8)) (hc : c < 2 ^ 21) (h0at : at0 < at_) : zu_O dl at0 n Bc Bm (f_H_readUnit_50 (nI B) (nI c) Gc) (f_M_units_204 (f_M_units_6 (n + 1)) (nI at_) (nI sq) (1 : Int32) x4 (nI c) Gm) := by
  obtain ⟨⟨u1, u2, u3, u4, u5, u6⟩, h0, hK, hFm, hf4, hsq, hs3, hFd⟩ := id hS
  have eB : nI B >>> ((3 : Int32) &&& 31) = nI (B / 8) := pk_shrN (by omega) _ 3 (by decide)
  have e6 : nI (B / 8) = (6 : Int32) ↔ B / 8 = 6 := zp_eqc (c := (6 : Int32)) 6 rfl (by omega) (by omega)
  have e1 : nI (B / 8) = (1 : Int32) ↔ B / 8 = 1 := zp_eqc (c := (1 : Int32)) 1 rfl (by omega) (by omega)
  by_cases cc : c ≤ dl - at_
  rotate_left
  · -- too long
    have eS : f_U_skip_12 (nI c) Gc = some (0, Gc) := by
      unfold f_U_skip_12
      rw [zp_neg (nI_pos (by omega)), u3, u4, pk_sub u1, zp_neg (nI_ge (by omega) (by omega))]
      rfl
    refine ⟨Gc, 7, ?_, Or.inl ⟨by decide, zx_up Gm 32 10 (7 : Int32), ?_, zp_us⟩⟩
    · unfold f_H_readUnit_50
      rw [zp_lt, zp_lt, zp_bd eS, zp_neg (show ¬ ¬ (0 : Int32) = 0 from fun z => z rfl)]
    · unfold f_M_units_204
      rw [u5, pk_sub u1, zp_neg (nI_ge (by omega) (by omega)), zp_bd (zb_fail1 h0 7)]
      exact zu_dead221 (by rw [zp_us]; decide)
  have cdl : c ≤ 200 := by omega
  have eS : f_U_skip_12 (nI c) Gc = some (1, zx_up Gc 12 1 (nI (at_ + c))) := by
    unfold f_U_skip_12
    rw [zp_neg (nI_pos (by omega)), u3, u4, pk_sub u1, zp_pos (nI_le cc (by omega)), zp_lt, nI_add]
    rfl
  obtain ⟨C3, hC3⟩ : ∃ C3, C3 = zx_up (zx_up (zx_up (zx_up Gc 12 1 (nI (at_ + c))) 13 1 (nI at_)) 13 2 (nI (at_ + c))) 13 3 (0 : Int32) := ⟨_, rfl⟩
  obtain ⟨M3, hM3⟩ : ∃ M3, M3 = zx_up (zx_up Gm 32 11 (nI (8 * at_))) 32 12 (nI (8 * (at_ + c))) := ⟨_, rfl⟩
  have C3r : ∀ q, q ≠ 12 → q ≠ 13 → C3 q = Gc q := fun q a b => by rw [hC3, zp_ur b, zp_ur b, zp_ur b, zp_ur a]
  have M3r : ∀ q, q ≠ 32 → M3 q = Gm q := fun q a => by rw [hM3, zp_ur a, zp_ur a]
  have M3k : ∀ q, q ≠ 11 → q ≠ 12 → M3 32 q = Gm 32 q := fun q a b => by rw [hM3, zp_uk b, zp_uk a]
  have pC : f_H_readUnit_50 (nI B) (nI c) Gc = zx_if (¬ nI (B / 8) = (1 : Int32)) (zx_if (¬ nI (B / 8) = (6 : Int32)) (some ((0 : Int32), C3)) (zx_if ((C3 11 3) = 0) (f_H_readUnit_123 (7 : Int32) C3) (zx_bd (f_H_readFrame C3) fun r_15 G_14 => f_H_readUnit_123 r_15 G_14))) (zx_bd (f_H_readSequence C3) fun r_18 G_17 => some (r_18, G_17)) := by
    unfold f_H_readUnit_50
    rw [zp_lt, zp_lt, zp_bd eS, zp_pos (show ¬ (1 : Int32) = 0 by decide), u3, nI_add, zp_bd (zu_open (by omega) (by omega)), ← hC3, eB, zp_lt]
  have h03 : M3 32 10 = 0 := by rw [M3k 10 (by omega) (by omega)]; exact h0
  have p247 : ∀ G, f_M_units_247 (f_M_units_6 (n + 1)) (nI at_) (nI sq) x4 (nI c) G = zx_if (¬ nI (B / 8) = (1 : Int32)) (f_M_units_278 (f_M_units_6 (n + 1)) (nI at_) (nI sq) x4 (nI c) (zx_up (zx_up G 32 11 (nI (8 * at_))) 32 12 (nI (8 * (at_ + c))))) (zx_bd (f_M_sequence (zx_up (zx_up G 32 11 (nI (8 * at_))) 32 12 (nI (8 * (at_ + c))))) fun _ G_4 => f_M_units_278 (f_M_units_6 (n + 1)) (nI at_) (nI sq) x4 (nI c) G_4) := fun G => by
    unfold f_M_units_247
    rw [show (8 : Int32) * nI at_ = nI (8 * at_) from pk_mul 8 _, nI_add, show (8 : Int32) * nI (at_ + c) = nI (8 * (at_ + c)) from pk_mul 8 _, zp_lt, zp_lt, h4]
  have pM : f_M_units_204 (f_M_units_6 (n + 1)) (nI at_) (nI sq) (1 : Int32) x4 (nI c) Gm = zx_if (¬ nI (B / 8) = (6 : Int32)) (f_M_units_247 (f_M_units_6 (n + 1)) (nI at_) (nI sq) x4 (nI c) Gm) (zx_if (¬ nI sq = 0) (f_M_units_247 (f_M_units_6 (n + 1)) (nI at_) (nI sq) x4 (nI c) Gm) (f_M_units_247 (f_M_units_6 (n + 1)) (nI at_) (nI sq) x4 (nI c) (zx_up Gm 32 10 (7 : Int32)))) := by
    unfold f_M_units_204 f_M_units_221
    rw [u5, pk_sub u1, zp_pos (nI_le cc (by omega)), zp_neg (show ¬ ¬ Gm 32 10 = 0 from fun z => z h0), h4, zp_bd (zb_fail1 h0 7)]
  have hC : zh_C (8 * at_) (at_ + c) C3 := ⟨by omega, by omega, by rw [hC3, zp_uk (by omega), zp_uk (by omega), zp_us, show 8 * at_ / 8 = at_ by omega], by rw [hC3, zp_uk (by omega), zp_us], by rw [hC3, zp_us, show 8 * at_ % 8 = 0 by omega]; rfl⟩
  have hM : zh_M (8 * at_) (at_ + c) M3 := ⟨by omega, by omega, by rw [hM3, zp_uk (by omega), zp_us], by rw [hM3, zp_us]⟩
  have hd : ∀ j, j < at_ + c → C3 9 j = M3 39 j := fun j hj => by rw [C3r 9 (by omega) (by omega), M3r 39 (by omega)]; exact (u6 j (by omega)).1
  have hK3 : zh_K C3 M3 := hK.keep (C3r 1 (by omega) (by omega)) (C3r 4 (by omega) (by omega)) (C3r 8 (by omega) (by omega)) (M3r 33 (by omega)) (M3r 34 (by omega)) (M3k 13 (by omega) (by omega)) (M3k 14 (by omega) (by omega)) (M3k 15 (by omega) (by omega))
  have c121 : C3 12 1 = nI (at_ + c) := by rw [hC3, zp_ur (by omega), zp_ur (by omega), zp_ur (by omega), zp_us]
  have c122 : C3 12 2 = nI dl := by rw [hC3, zp_ur (by omega), zp_ur (by omega), zp_ur (by omega), zp_uk (by omega)]; exact u4
  by_cases k1 : B / 8 = 1
  · -- a sequence
    have n6 : ¬ nI (B / 8) = (6 : Int32) := fun z => by have := e6.mp z; omega
    obtain ⟨C4, M4, v, s1, s2, s3, s4⟩ := zh_seq hC hM hd h03 hK3
    have eM : f_M_units_204 (f_M_units_6 (n + 1)) (nI at_) (nI sq) (1 : Int32) x4 (nI c) Gm = f_M_units_6 (n + 1) (nI (at_ + c)) (nI 1) (1 : Int32) M4 := by
      rw [pM, zp_pos n6, p247, zp_neg (fun z => z (e1.mpr k1)), ← hM3, zp_bd s2]
      unfold f_M_units_278
      rw [h4, zp_pos n6, zu_tail (sq' := 1) h4 (by omega) hsq (by rw [if_pos k1]), if_neg (by omega)]
    have eC : f_H_readUnit_50 (nI B) (nI c) Gc = some (v, C4) := by
      rw [pC, zp_neg (fun z => z (e1.mpr k1)), zp_bd s1]
    refine ⟨C4, v, eC, ?_⟩
    by_cases qv : v = 0
    · right; right
      obtain ⟨q1, q2, q3, q4, y, t, w, h, so, r⟩ := s4 qv
      obtain ⟨r1, r2, r3, r4, r5, r6, r7, x3, x5, x6, x7, x8, x9, m16, m17, m18, m19, m20⟩ := r
      refine ⟨qv, M4, at_ + c, 1, by omega, eM, ⟨by omega, u2, by rw [q1 12 (by omega) (by omega)]; exact c121, by rw [q1 12 (by omega) (by omega)]; exact c122, by rw [q4 8 (by omega), M3k 8 (by omega) (by omega)]; exact u5, ?_⟩, s3.trans qv, hK3.keep (q1 1 (by omega) (by omega)) (q1 4 (by omega) (by omega)) (q1 8 (by omega) (by omega)) (q3 33 (by omega)) (q3 34 (by omega)) (q4 13 (by omega)) (q4 14 (by omega)) (q4 15 (by omega)), ⟨fun q a b c => by rw [q1 q a c, C3r q b c]; exact hFm.1 q a b c, fun q a => by rw [q3 q a, M3r q a]; exact hFm.2.1 q a, fun q a => by rw [q4 q (by omega), M3k q (by omega) (by omega)]; exact hFm.2.2 q a⟩, by rw [q2 4 (by omega), C3r 11 (by omega) (by omega)]; exact hf4, by omega, x3, fun _ => ⟨y, t, w, h, so, r1, r2, r3, r4, r5, r6, r7, x5, x6, x7, x8, x9, m16, m17, m18, m19, m20⟩⟩
      rw [q1 9 (by omega) (by omega), C3r 9 (by omega) (by omega), q3 39 (by omega), M3r 39 (by omega)]
      exact u6
    · left
      exact ⟨qv, M4, eM.trans (zu_dead6 (by rw [s3]; exact qv)), s3⟩
  · have n1 : ¬ nI (B / 8) = (1 : Int32) := fun z => k1 (e1.mp z)
    by_cases k6 : B / 8 = 6
    · have y6 : nI (B / 8) = (6 : Int32) := e6.mpr k6
      have c33 : C3 11 3 = nI sq := by rw [C3r 11 (by omega) (by omega)]; exact hs3
      by_cases q0 : sq = 0
      · -- a frame ahead of a sequence
        have d7 : ¬ zx_up (zx_up (zx_up Gm 32 10 (7 : Int32)) 32 11 (nI (8 * at_))) 32 12 (nI (8 * (at_ + c))) 32 10 = 0 := by rw [zp_uk (by omega), zp_uk (by omega), zp_us]; decide
        obtain ⟨M4, f1, f2⟩ := zh_d0 (p := 8 * at_) (e := at_ + c) (G := zx_up (zx_up (zx_up Gm 32 10 (7 : Int32)) 32 11 (nI (8 * at_))) 32 12 (nI (8 * (at_ + c)))) ⟨by omega, by omega, by rw [zp_uk (by omega), zp_us], zp_us⟩ d7
        have c7 : M4 32 10 = 7 := by rw [f2, zp_uk (by omega), zp_uk (by omega), zp_us]
        refine ⟨C3, 7, ?_, Or.inl ⟨by decide, M4, ?_, c7⟩⟩
        · rw [pC, zp_pos n1, zp_neg (fun z => z y6), c33, q0, zp_pos (show nI 0 = 0 from rfl)]
          rfl
        · rw [pM, zp_neg (fun z => z y6), q0, zp_neg (show ¬ ¬ nI 0 = 0 from fun z => z rfl), ← q0, p247, zp_pos n1]
          unfold f_M_units_278
          rw [h4, zp_neg (fun z => z y6), zp_bd f1, zu_tail (sq' := sq) h4 (by omega) hsq (by rw [if_neg k1])]
          exact zu_dead6 (by rw [c7]; decide)
      · have s1 : sq = 1 := by omega
        obtain ⟨y, t, w, h, so, r1, r2, r3, r4, r5, r6, r7, x5, x6, x7, x8, x9, m16, m17, m18, m19, m20⟩ := hFd s1
        obtain ⟨C4, M4, v, f1, f2, f3, f4⟩ := zh_frame (so := so) hC hM hd h03 r7 (by rw [C3r 11 (by omega) (by omega)]; exact x5) (by rw [M3k 20 (by omega) (by omega)]; exact m20)
        have eM : f_M_units_204 (f_M_units_6 (n + 1)) (nI at_) (nI sq) (1 : Int32) x4 (nI c) Gm = f_M_units_6 (n + 1) (nI (at_ + c)) (nI sq) (0 : Int32) M4 := by
          rw [pM, zp_neg (fun z => z y6), zp_pos (show ¬ nI sq = 0 by rw [s1]; decide), p247, zp_pos n1, ← hM3]
          unfold f_M_units_278
          rw [h4, zp_neg (fun z => z y6), zp_bd f2, zu_tail (sq' := sq) h4 (by omega) hsq (by rw [if_neg k1]), if_pos k6]
        have eM2 : f_M_units_204 (f_M_units_6 (n + 1)) (nI at_) (nI sq) (1 : Int32) x4 (nI c) Gm = some (0, M4) := by
          rw [eM, f_M_units_6, zp_pos rfl]
          rfl
        have eC : f_H_readUnit_50 (nI B) (nI c) Gc = some (v, C4) := by
          rw [pC, zp_pos n1, zp_neg (fun z => z y6), c33, zp_neg (show ¬ nI sq = 0 by rw [s1]; decide), zp_bd f1]
          rfl
        refine ⟨C4, v, eC, ?_⟩
        by_cases qv : v = 0
        · right; left
          obtain ⟨g1, g2, g3, g4, q, s, lv, sg, fr, w1, w2, w3, w4, w5, z1, z2, z3, z4, z5, z6, z7, z8, z9, z10, z11, z12, z13⟩ := f4 qv
          refine ⟨qv, z13, M4, eM2, ⟨fun q a b c => by rw [g1 q a c, C3r q b c]; exact hFm.1 q a b c, fun q a => by rw [g3 q a, M3r q a]; exact hFm.2.1 q a, fun q a => by rw [g4 q (by omega), M3k q (by omega) (by omega)]; exact hFm.2.2 q a⟩, f3.trans qv, ⟨y, t, w, h, so, r1, r2, r3, r4, r5, r6, r7, ?_, ?_, ?_, ?_, ?_, ?_, ?_, ?_, ?_, ?_⟩, q, s, lv, sg, fr, at_ + c, w1, w2, w3, w4, w5, by omega, z1, z2, z3, z4, z5, z6, z7, z8, z9, z10, z11, z12⟩
          · rw [g2 5 (by omega), C3r 11 (by omega) (by omega)]; exact x5
          · rw [g2 6 (by omega), C3r 11 (by omega) (by omega)]; exact x6
          · rw [g2 7 (by omega), C3r 11 (by omega) (by omega)]; exact x7
          · rw [g2 8 (by omega), C3r 11 (by omega) (by omega)]; exact x8
          · rw [g2 9 (by omega), C3r 11 (by omega) (by omega)]; exact x9
          · rw [g4 16 (by omega), M3k 16 (by omega) (by omega)]; exact m16
          · rw [g4 17 (by omega), M3k 17 (by omega) (by omega)]; exact m17
          · rw [g4 18 (by omega), M3k 18 (by omega) (by omega)]; exact m18
          · rw [g4 19 (by omega), M3k 19 (by omega) (by omega)]; exact m19
          · rw [g4 20 (by omega), M3k 20 (by omega) (by omega)]; exact m20
        · left
          exact ⟨qv, M4, eM2, f3⟩
    · -- another unit
      have n6 : ¬ nI (B / 8) = (6 : Int32) := fun z => k6 (e6.mp z)
      refine ⟨C3, 0, by rw [pC, zp_pos n1, zp_pos n6], Or.inr (Or.inr ⟨rfl, M3, at_ + c, sq, by omega, ?_, ⟨by omega, u2, c121, c122, by rw [M3k 8 (by omega) (by omega)]; exact u5, ?_⟩, h03, hK3, ⟨fun q a b c => by rw [C3r q b c]; exact hFm.1 q a b c, fun q a => by rw [M3r q a]; exact hFm.2.1 q a, fun q a => by rw [M3k q (by omega) (by omega)]; exact hFm.2.2 q a⟩, by rw [C3r 11 (by omega) (by omega)]; exact hf4, hsq, by rw [C3r 11 (by omega) (by omega)]; exact hs3, fun z => ?_⟩)⟩
      · rw [pM, zp_pos n6, p247, zp_pos n1, ← hM3]
        unfold f_M_units_278
        rw [h4, zp_pos n6, zu_tail (sq' := sq) h4 (by omega) hsq (by rw [if_neg k1]), if_neg k6]
      · rw [C3r 9 (by omega) (by omega), M3r 39 (by omega)]; exact u6
      · obtain ⟨y, t, w, h, so, r1, r2, r3, r4, r5, r6, r7, x5, x6, x7, x8, x9, m16, m17, m18, m19, m20⟩ := hFd z
        refine ⟨y, t, w, h, so, r1, r2, r3, r4, r5, r6, r7, ?_, ?_, ?_, ?_, ?_, ?_, ?_, ?_, ?_, ?_⟩
        · rw [C3r 11 (by omega) (by omega)]; exact x5
        · rw [C3r 11 (by omega) (by omega)]; exact x6
        · rw [C3r 11 (by omega) (by omega)]; exact x7
        · rw [C3r 11 (by omega) (by omega)]; exact x8
        · rw [C3r 11 (by omega) (by omega)]; exact x9
        · rw [M3k 16 (by omega) (by omega)]; exact m16
        · rw [M3k 17 (by omega) (by omega)]; exact m17
        · rw [M3k 18 (by omega) (by omega)]; exact m18
        · rw [M3k 19 (by omega) (by omega)]; exact m19
        · rw [M3k 20 (by omega) (by omega)]; exact m20
theorem zu_S.cur {dl at_ at' sq : Nat} {Bc Bm Gc Gm Gc' : zx_G} (h : zu_S dl at_ sq Bc Bm Gc Gm) (hU : zu_U at' dl Gc' Gm) (hr : ∀ q, q ≠ 12 → Gc' q = Gc q) : zu_S dl at' sq Bc Bm Gc' Gm := by
  obtain ⟨-, h0, hK, hFm, hf4, hsq, hs3, hFd⟩ := h
  refine ⟨hU, h0, hK.keep (hr 1 (by omega)) (hr 4 (by omega)) (hr 8 (by omega)) rfl rfl rfl rfl rfl, ⟨fun q a b c => by rw [hr q b]; exact hFm.1 q a b c, hFm.2.1, hFm.2.2⟩, by rw [hr 11 (by omega)]; exact hf4, hsq, by rw [hr 11 (by omega)]; exact hs3, fun z => ?_⟩
  unfold zu_Fd
  rw [hr 11 (by omega)]
  exact hFd z
theorem zu_unit {dl at_ sq n : Nat} {Bc Bm Gc Gm : zx_G} (hS : zu_S dl at_ sq Bc Bm Gc Gm) : zu_O dl at_ n Bc Bm (f_H_readUnit Gc) (f_M_units_6 (n + 2) (nI at_) (nI sq) (1 : Int32) Gm) := by
  obtain ⟨⟨u1, u2, u3, u4, u5, u6⟩, h0, -⟩ := id hS
  have n10 : ¬ (1 : Int32) = 0 := by decide
  have l128 : ∀ b : Nat, b < 256 → (nI b < (128 : Int32) ↔ b < 128) := fun b hb => zp_ltc (c := (128 : Int32)) 128 rfl (by omega) (by omega)
  -- the reference dies with v
  have dies : ∀ (v : Int32) (x4 : Int32), ¬ v = 0 → ∃ G', f_M_units_68 (f_M_units_6 (n + 1)) (nI at_) (nI sq) (1 : Int32) x4 (zx_up Gm 32 10 v) = some (0, G') ∧ G' 32 10 = v := fun v x4 hv => by
    obtain ⟨G', a1, a2⟩ := zu_dead68 (n := n) (x1 := nI at_) (x2 := nI sq) (x3 := (1 : Int32)) (x4 := x4) (G := zx_up Gm 32 10 v) (by rw [zp_us]; exact hv)
    exact ⟨G', a1, by rw [a2, zp_us]⟩
  rcases zu_next hS.1 with ⟨t1, b, b1, b2, b3⟩ | ⟨t1, b3⟩
  · have pM : f_M_units_6 (n + 2) (nI at_) (nI sq) (1 : Int32) Gm = f_M_units_37 (f_M_units_6 (n + 1)) (nI at_) (nI sq) (1 : Int32) (nI b) Gm := by
      rw [f_M_units_6, zp_neg n10, zp_neg (show ¬ ¬ Gm 32 10 = 0 from fun z => z h0), u5, zp_neg (nI_ge t1 (by omega)), zp_gd (zp_in (by omega) (by omega)), zp_cl (by omega), b2]
    have hU1 := hS.1.step t1
    have hS1 := hS.cur hU1 (fun q hq => zp_ur hq)
    by_cases c1 : b < 128
    · have l1 := (l128 b b1).mpr c1
      by_cases c4 : (nI b &&& (4 : Int32)) = 0
      · have p68 : f_M_units_6 (n + 2) (nI at_) (nI sq) (1 : Int32) Gm = f_M_units_82 (f_M_units_6 (n + 1)) 2048 (nI (at_ + 1)) (nI sq) (1 : Int32) (nI b) (nI dl - nI (at_ + 1)) (0 : Int32) Gm := by
          rw [pM]
          unfold f_M_units_37 f_M_units_68
          rw [zp_lt, zp_pos l1, zp_pos c4, zp_lt, zp_lt, zp_lt, nI_1, u5]
        have eB : nI b >>> ((3 : Int32) &&& 31) = nI (b / 8) := pk_shrN (by omega) _ 3 (by decide)
        have pC : f_H_readUnit Gc = zx_if ((nI b &&& (2 : Int32)) = 0) (zx_bd (f_U_left_12 (zx_up Gc 12 1 (nI (at_ + 1)))) fun r_10 G_9 => f_H_readUnit_50 (nI b) r_10 G_9) (zx_bd (f_H_readCount (zx_up Gc 12 1 (nI (at_ + 1)))) fun r_13 G_12 => f_H_readUnit_50 (nI b) r_13 G_12) := by
          unfold f_H_readUnit
          rw [zp_bd b3, zp_lt, zp_neg (nI_pos (by omega)), zp_pos l1, zp_pos c4]
        by_cases c2 : (nI b &&& (2 : Int32)) = 0
        · -- to the end of the data
          have eL : f_U_left_12 (zx_up Gc 12 1 (nI (at_ + 1))) = some (nI (dl - (at_ + 1)), zx_up Gc 12 1 (nI (at_ + 1))) := by
            unfold f_U_left_12
            rw [zp_us, zp_uk (by omega), u4, pk_sub (by omega)]
          have e82 : f_M_units_82 (f_M_units_6 (n + 1)) 2048 (nI (at_ + 1)) (nI sq) (1 : Int32) (nI b) (nI dl - nI (at_ + 1)) (0 : Int32) Gm = f_M_units_204 (f_M_units_6 (n + 1)) (nI (at_ + 1)) (nI sq) (1 : Int32) (nI b) (nI (dl - (at_ + 1))) Gm := by
            show f_M_units_82 (f_M_units_6 (n + 1)) (2047 + 1) _ _ _ _ _ _ _ = _
            rw [f_M_units_82, zp_neg (by decide), zp_pos c2, pk_sub (by omega)]
          rw [pC, zp_pos c2, zp_bd eL, p68, e82]
          exact zu_body hS1 c1 eB (by omega) (by omega)
        · -- a count
          obtain ⟨d1, d2⟩ := (zu_bits b b1).resolve_left c2
          -- the accumulated count is dropped at its first byte
          have drop : ∀ v : Int32, f_M_units_82 (f_M_units_6 (n + 1)) 2048 (nI (at_ + 1)) (nI sq) (1 : Int32) (nI b) v (0 : Int32) Gm = f_M_units_82 (f_M_units_6 (n + 1)) 2048 (nI (at_ + 1)) (nI sq) (1 : Int32) (nI b) (nI 0) (nI 0) Gm ∨ (at_ + 1 = dl ∧ ∃ Gm', f_M_units_82 (f_M_units_6 (n + 1)) 2048 (nI (at_ + 1)) (nI sq) (1 : Int32) (nI b) v (0 : Int32) Gm = some (0, Gm') ∧ Gm' 32 10 = 7) := by
            intro v
            by_cases ce : at_ + 1 = dl
            · right
              refine ⟨ce, ?_⟩
              show ∃ Gm', f_M_units_82 (f_M_units_6 (n + 1)) (2047 + 1) _ _ _ _ _ _ _ = some (0, Gm') ∧ Gm' 32 10 = 7
              rw [f_M_units_82, zp_neg (by decide), zp_neg c2, zp_neg (show ¬ ¬ Gm 32 10 = 0 from fun z => z h0), u5, zp_pos (nI_le (by omega) (by omega))]
              unfold f_M_units_122 f_M_units_146 f_M_units_152 f_M_units_179 f_M_units_198
              rw [zp_lt, u5, zp_pos (nI_le (by omega) (by omega)), zp_bd (zb_fail1 h0 7), zp_neg (show ¬ ¬ (0 : Int32) = 0 from fun z => z rfl), zp_lt, zp_lt, zp_pos (by decide), zp_lt]
              obtain ⟨G', a1, a2⟩ := zu_dead82 (n := n) (m := 2046) (x1 := nI (at_ + 1) + (1 : Int32)) (x2 := nI sq) (x3 := (1 : Int32)) (x4 := nI b) (x5 := ((255 : Int32) &&& (127 : Int32))) (x6 := (0 : Int32) + (1 : Int32)) (G := zx_up Gm 32 10 (7 : Int32)) (by rw [zp_us]; decide)
              exact ⟨G', a1, by rw [a2, zp_us]⟩
            · left
              obtain ⟨-, b', b1', b2'⟩ := u6 (at_ + 1) (by omega)
              show f_M_units_82 (f_M_units_6 (n + 1)) (2047 + 1) _ _ _ _ _ _ _ = f_M_units_82 (f_M_units_6 (n + 1)) (2047 + 1) _ _ _ _ _ (0 : Int32) _
              rw [f_M_units_82, f_M_units_82, zp_neg (by decide), zp_neg c2, zp_neg (show ¬ ¬ Gm 32 10 = 0 from fun z => z h0), u5, zp_neg (nI_ge (by omega) (by omega)), zp_gd (zp_in (by omega) (by omega)), zp_neg (by decide), zp_neg c2, zp_neg (show ¬ ¬ Gm 32 10 = 0 from fun z => z h0), zp_neg (nI_ge (by omega) (by omega)), zp_gd (zp_in (by omega) (by omega)), zp_cl (by omega), b2']
              unfold f_M_units_122 f_M_units_152
              rw [zp_lt, zp_lt, u5, zp_neg (nI_ge (by omega) (by omega)), zp_pos (show ¬ (0 : Int32) = (2 : Int32) by decide), zp_neg (show ¬ ¬ (0 : Int32) = 0 from fun z => z rfl), zp_neg (nI_ge (by omega) (by omega)), zp_pos (show ¬ (0 : Int32) = (2 : Int32) by decide), zp_neg (show ¬ ¬ (0 : Int32) = 0 from fun z => z rfl)]
          obtain ⟨C2, k1, k2⟩ := zu_count (n := n) (x2 := nI sq) (x3 := (1 : Int32)) c2 d1 3 0 (at_ + 1) 0 2048 2048 (zx_up Gc 12 1 (nI (at_ + 1))) Gm (by omega) (by omega) (by omega) (by decide) hU1 h0
          have eCnt : ∀ r, f_H_readCount_4 2048 (nI 0) (nI (7 * 0)) (zx_up Gc 12 1 (nI (at_ + 1))) = r → f_H_readCount (zx_up Gc 12 1 (nI (at_ + 1))) = r := fun r hr => by
            unfold f_H_readCount
            rw [zp_lt, zp_lt]
            exact hr
          rcases k2 with ⟨c, at', k2, k3, k4, k5, k6⟩ | ⟨k2, k3⟩
          · have hS2 : zu_S dl at' sq Bc Bm C2 Gm := hS1.cur k6 k1
            rcases drop (nI dl - nI (at_ + 1)) with z | ⟨z, -⟩
            · rw [pC, zp_neg c2, zp_bd (eCnt _ k4), p68, z, k5]
              exact zu_body hS2 c1 (d2.trans eB) k2 (by omega)
            · -- the cursor is at the end: the class cannot have a count
              exfalso
              have : f_H_readCount_4 2048 (nI 0) (nI (7 * 0)) (zx_up Gc 12 1 (nI (at_ + 1))) = some (-1, zx_up Gc 12 1 (nI (at_ + 1))) := by
                show f_H_readCount_4 (2047 + 1) _ _ _ = _
                have hnb : f_U_nextByte_12 (zx_up Gc 12 1 (nI (at_ + 1))) = some (-1, zx_up Gc 12 1 (nI (at_ + 1))) := by
                  rcases zu_next hU1 with ⟨w, -⟩ | ⟨-, w⟩
                  · omega
                  · exact w
                rw [f_H_readCount_4, zp_neg (by decide), zp_bd hnb, zp_lt, zp_neg (by decide)]
              rw [this] at k4
              have h9 : (-1 : Int32) = nI c := congrArg (fun o : Option (Int32 × zx_G) => (o.getD (0, Gm)).1) k4
              exact absurd h9.symm (zb_nm1 (Nat.lt_trans k2 (by decide)))
          · have eS : f_U_skip_12 (-1 : Int32) C2 = some (0, C2) := by
              unfold f_U_skip_12
              rw [zp_pos (by decide)]
              rfl
            have e50 : f_H_readUnit Gc = some (7, C2) := by
              rw [pC, zp_neg c2, zp_bd (eCnt _ k2)]
              unfold f_H_readUnit_50
              rw [zp_lt, zp_lt, zp_bd eS, zp_neg (show ¬ ¬ (0 : Int32) = 0 from fun z => z rfl)]
            obtain ⟨Gm', w1, w2⟩ := k3 (by omega)
            rcases drop (nI dl - nI (at_ + 1)) with z | ⟨-, Gm'', z1, z2⟩
            · exact ⟨C2, 7, e50, Or.inl ⟨by decide, Gm', by rw [p68, z]; exact w1, w2⟩⟩
            · exact ⟨C2, 7, e50, Or.inl ⟨by decide, Gm'', by rw [p68]; exact z1, z2⟩⟩
      · obtain ⟨G', a1, a2⟩ := dies 5 (nI b) (by decide)
        refine ⟨zx_up Gc 12 1 (nI (at_ + 1)), 5, ?_, Or.inl ⟨by decide, G', ?_, a2⟩⟩
        · unfold f_H_readUnit
          rw [zp_bd b3, zp_lt, zp_neg (nI_pos (by omega)), zp_pos l1, zp_neg c4]
        · rw [pM]
          unfold f_M_units_37
          rw [zp_lt, zp_pos l1, zp_neg c4, zp_bd (zb_fail1 h0 5)]
          exact a1
    · have l1 : ¬ nI b < (128 : Int32) := fun z => c1 ((l128 b b1).mp z)
      obtain ⟨G', a1, a2⟩ := dies 7 (nI b) (by decide)
      refine ⟨zx_up Gc 12 1 (nI (at_ + 1)), 7, ?_, Or.inl ⟨by decide, G', ?_, a2⟩⟩
      · unfold f_H_readUnit f_H_readUnit_19
        rw [zp_bd b3, zp_lt, zp_neg (nI_pos (by omega)), zp_neg l1]
      · rw [pM]
        unfold f_M_units_37
        rw [zp_lt, zp_neg l1, zp_bd (zb_fail1 h0 7)]
        exact a1
  · obtain ⟨G', a1, a2⟩ := dies 7 (255 : Int32) (by decide)
    refine ⟨Gc, 7, ?_, Or.inl ⟨by decide, G', ?_, a2⟩⟩
    · unfold f_H_readUnit f_H_readUnit_19
      rw [zp_bd b3, zp_lt, zp_pos (by decide)]
    · rw [f_M_units_6, zp_neg n10, zp_neg (show ¬ ¬ Gm 32 10 = 0 from fun z => z h0), u5, zp_pos (nI_le (by omega) (by omega))]
      unfold f_M_units_37
      rw [zp_lt, zp_neg (by decide), zp_bd (zb_fail1 h0 7)]
      exact a1
theorem zu_loop {dl : Nat} {Bc Bm : zx_G} : ∀ (rem i n1 n2 at_ sq : Nat) (Gc Gm : zx_G), dl - at_ ≤ rem → rem < n1 → rem + 2 < n2 → i ≤ at_ → zu_S dl at_ sq Bc Bm Gc Gm → ∃ (Gc' Gm' : zx_G) (v : Int32), f_H_read_27 n1 (nI i) Gc = some (v, Gc') ∧ f_M_units_6 n2 (nI at_) (nI sq) (1 : Int32) Gm = some (0, Gm') ∧ Gm' 32 10 = v ∧ (v = 0 → zu_E dl Bc Bm Gc' Gm') := by
  intro rem
  induction rem with
  | zero =>
    intro i n1 n2 at_ sq Gc Gm hr hn1 hn2 hi hS
    obtain ⟨n1, rfl⟩ : ∃ k, n1 = k + 1 := ⟨n1 - 1, by omega⟩
    obtain ⟨n2, rfl⟩ : ∃ k, n2 = k + 2 := ⟨n2 - 2, by omega⟩
    obtain ⟨u1, u2, -⟩ := hS.1
    have n200 : ¬ (200 : Int32) < nI i := nI_nlt (a := 200) (by omega) (by omega)
    obtain ⟨Gc', v, a1, a2⟩ := zu_unit (n := n2) hS
    have pC : f_H_read_27 (n1 + 1) (nI i) Gc = zx_if (¬ v = 0) (f_H_read_50 v Gc') (zx_if ((Gc' 11 4) = 0) (zx_lt (nI i + (1 : Int32)) fun x1_8 => f_H_read_27 n1 x1_8 Gc') (f_H_read_50 v Gc')) := by
      rw [f_H_read_27, zp_neg n200, zp_bd a1, zp_lt]
    rcases a2 with ⟨b1, Gm', b2, b3⟩ | ⟨b1, b2, Gm', b3, b4⟩ | ⟨b1, Gm', at', sq', b2, b3, b4⟩
    · exact ⟨Gc', Gm', v, by rw [pC, zp_pos b1]; rfl, b2, b3, fun z => absurd z b1⟩
    · exact ⟨Gc', Gm', v, by rw [pC, zp_neg (fun z => z b1), b2, zp_neg (by decide)]; rfl, b3, b4.2.1.trans b1.symm, fun _ => b4⟩
    · have := b4.1.1
      omega
  | succ rem ih =>
    intro i n1 n2 at_ sq Gc Gm hr hn1 hn2 hi hS
    obtain ⟨n1, rfl⟩ : ∃ k, n1 = k + 1 := ⟨n1 - 1, by omega⟩
    obtain ⟨n2, rfl⟩ : ∃ k, n2 = k + 2 := ⟨n2 - 2, by omega⟩
    obtain ⟨u1, u2, -⟩ := hS.1
    have n200 : ¬ (200 : Int32) < nI i := nI_nlt (a := 200) (by omega) (by omega)
    obtain ⟨Gc', v, a1, a2⟩ := zu_unit (n := n2) hS
    have pC : f_H_read_27 (n1 + 1) (nI i) Gc = zx_if (¬ v = 0) (f_H_read_50 v Gc') (zx_if ((Gc' 11 4) = 0) (zx_lt (nI i + (1 : Int32)) fun x1_8 => f_H_read_27 n1 x1_8 Gc') (f_H_read_50 v Gc')) := by
      rw [f_H_read_27, zp_neg n200, zp_bd a1, zp_lt]
    rcases a2 with ⟨b1, Gm', b2, b3⟩ | ⟨b1, b2, Gm', b3, b4⟩ | ⟨b1, Gm', at', sq', b2, b3, b4⟩
    · exact ⟨Gc', Gm', v, by rw [pC, zp_pos b1]; rfl, b2, b3, fun z => absurd z b1⟩
    · exact ⟨Gc', Gm', v, by rw [pC, zp_neg (fun z => z b1), b2, zp_neg (by decide)]; rfl, b3, b4.2.1.trans b1.symm, fun _ => b4⟩
    · rw [pC, zp_neg (fun z => z b1), b4.2.2.2.2.1, zp_pos rfl, zp_lt, nI_1, b3]
      exact ih (i + 1) n1 (n2 + 1) at' sq' Gc' Gm' (by omega) (by omega) (by omega) (by omega) b4
