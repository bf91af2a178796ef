/-! the boxes: both sides split the file alike -/
/-- the file on both sides -/
def zb_F (L : Nat) (Gc Gm : zx_G) : Prop := L ≤ 240 ∧ Gm 32 0 = nI L ∧ (∀ k, k < 240 → Gc 1 k = Gm 33 k) ∧ ∀ k, k < 240 → ∃ b, b < 256 ∧ Gm 33 k = nI b
/-- one box on both sides -/
def zb_B (L k : Nat) (Gc Gm : zx_G) : Prop := ∃ ty f e l : Nat, ty < 256 ∧ 2 ≤ f ∧ f ≤ e ∧ e ≤ L ∧ 1 ≤ l ∧ l ≤ 4 ∧ Gc 3 k = nI ty ∧ Gm 36 k = nI ty ∧ Gc 4 k = nI f ∧ Gm 34 k = nI f ∧ Gc 5 k = nI e ∧ Gm 35 k = nI e ∧ Gc 7 k = nI l ∧ Gm 38 k = nI l ∧ Gc 6 k = Gm 37 k ∧ (Gc 6 k = -1 ∨ ∃ j, j < k ∧ Gc 6 k = nI j)
def zb_R (L n : Nat) (Gc Gm : zx_G) : Prop := n ≤ 16 ∧ Gc 2 6 = nI n ∧ Gm 32 2 = nI n ∧ ∀ k, k < n → zb_B L k Gc Gm
theorem zb_fail1 {G : zx_G} (h : G 32 10 = 0) (v : Int32) : f_M_fail v G = some (0, zx_up G 32 10 v) := by
  unfold f_M_fail f_M_fail_16
  rw [zp_neg (fun z => z h), zp_lt]
theorem zb_stretch {L b : Nat} {hd : Int32} {l : Nat} (hL : L ≤ 240) (hb : b ≤ L) (hl : 1 ≤ l) (hl2 : l ≤ 5) : ∀ (k n x c n1 n2 : Nat) (Gc Gm : zx_G), n + k = 16 → k < n1 → k + 1 < n2 → c ≤ n → zb_F L Gc Gm → zb_R L n Gc Gm → Gm 32 10 = 0 → (hd = -1 ∨ ∃ j, j < n ∧ hd = nI j) → x ≤ b →
    ∃ Gc' Gm', f_M_stretch_3 n2 (nI b) hd (nI l) (nI x) Gm = some (0, Gm') ∧ ((∃ n', n ≤ n' ∧ f_B_readStretch_25 n1 (nI b) hd (nI l) (nI x) (nI c) Gc = some (1, Gc') ∧ zb_R L n' Gc' Gm' ∧ Gm' 32 10 = 0 ∧ zb_F L Gc' Gm') ∨ (f_B_readStretch_25 n1 (nI b) hd (nI l) (nI x) (nI c) Gc = some (0, Gc') ∧ Gm' 32 10 = 1)) := by
  intro k
  induction k with
  | zero =>
    intro n x c n1 n2 Gc Gm hn hn1 hn2 hc hF hR h0 hhd hx
    obtain ⟨n1, rfl⟩ : ∃ k, n1 = k + 1 := ⟨n1 - 1, by omega⟩
    obtain ⟨n2, rfl⟩ : ∃ k, n2 = k + 2 := ⟨n2 - 2, by omega⟩
    have n16 : n = 16 := by omega
    obtain ⟨-, f0, f1, f2⟩ := id hF
    obtain ⟨r0, r1, r2, r3⟩ := id hR
    have c1 : ¬ (16 : Int32) < nI c := fun z => by have := (zp_clt (c := (16 : Int32)) 16 rfl (by omega) (by omega)).mp z; omega
    rw [f_B_readStretch_25, zp_neg c1]
    by_cases cx : b ≤ x
    · refine ⟨Gc, Gm, ?_, Or.inl ⟨n, by omega, by rw [zp_pos (nI_le cx (by omega))]; rfl, hR, h0, hF⟩⟩
      rw [f_M_stretch_3, zp_pos (nI_le cx (by omega))]
      rfl
    · have eM : f_M_stretch_3 (n2 + 2) (nI b) hd (nI l) (nI x) Gm = some (0, zx_up Gm 32 10 (1 : Int32)) := by
        have t72 : f_M_stretch_72 (f_M_stretch_3 (n2 + 1)) (nI b) hd (nI l) (nI x) Gm = some (0, zx_up Gm 32 10 (1 : Int32)) := by
          unfold f_M_stretch_72 f_M_stretch_163
          rw [zp_bd (zb_fail1 h0 1), f_M_stretch_3, zp_neg (nI_ge (by omega) (by omega)), zp_us, zp_pos (by decide)]
          rfl
        have t40 : ∀ s, f_M_stretch_40 (f_M_stretch_3 (n2 + 1)) (nI b) hd (nI l) (nI x) s Gm = some (0, zx_up Gm 32 10 (1 : Int32)) := by
          intro s
          unfold f_M_stretch_40
          rw [zp_lt]
          by_cases q1 : s < (2 : Int32)
          · rw [zp_pos q1, t72]
          · rw [zp_neg q1]
            by_cases q2 : nI b < nI x + s
            · rw [zp_pos q2, t72]
            · rw [zp_neg q2, r2, n16, zp_pos (by decide), t72]
        rw [f_M_stretch_3, zp_neg (nI_ge (by omega) (by omega)), zp_neg (fun z => z h0), zp_gd (zp_in (by omega) (by omega))]
        by_cases q : Gm 33 (Int32.toNatClampNeg (nI x)) = 0
        · rw [zp_neg (fun z => z q), t40]
        · rw [zp_pos q, zp_gd (zp_in (by omega) (by omega)), t40]
      refine ⟨Gc, zx_up Gm 32 10 (1 : Int32), eM, Or.inr ⟨?_, zp_us⟩⟩
      rw [zp_neg (nI_ge (by omega) (by omega))]
      by_cases q : nI b - nI x < (2 : Int32)
      · rw [zp_pos q]; rfl
      · rw [zp_neg q, r1, n16, zp_pos (by decide)]; rfl
  | succ k ih =>
    intro n x c n1 n2 Gc Gm hn hn1 hn2 hc hF hR h0 hhd hx
    obtain ⟨n1, rfl⟩ : ∃ k, n1 = k + 1 := ⟨n1 - 1, by omega⟩
    obtain ⟨n2, rfl⟩ : ∃ k, n2 = k + 2 := ⟨n2 - 2, by omega⟩
    obtain ⟨-, f0, f1, f2⟩ := id hF
    obtain ⟨r0, r1, r2, r3⟩ := id hR
    have c1 : ¬ (16 : Int32) < nI c := fun z => by have := (zp_clt (c := (16 : Int32)) 16 rfl (by omega) (by omega)).mp z; omega
    rw [f_B_readStretch_25, zp_neg c1]
    by_cases cx : b ≤ x
    · refine ⟨Gc, Gm, ?_, Or.inl ⟨n, by omega, by rw [zp_pos (nI_le cx (by omega))]; rfl, hR, h0, hF⟩⟩
      rw [f_M_stretch_3, zp_pos (nI_le cx (by omega))]
      rfl
    · have t72 : f_M_stretch_72 (f_M_stretch_3 (n2 + 1)) (nI b) hd (nI l) (nI x) Gm = some (0, zx_up Gm 32 10 (1 : Int32)) := by
        unfold f_M_stretch_72 f_M_stretch_163
        rw [zp_bd (zb_fail1 h0 1), f_M_stretch_3, zp_neg (nI_ge (by omega) (by omega)), zp_us, zp_pos (by decide)]
        rfl
      obtain ⟨v, v1, v2⟩ := f2 x (by omega)
      have v3 : Gc 1 x = nI v := (f1 x (by omega)).trans v2
      -- the size of the box
      obtain ⟨s, s1, s2, s3, s4⟩ : ∃ s : Nat, s ≤ 255 ∧ (s = v ∨ (v = 0 ∧ s = b - x)) ∧ f_M_stretch_3 (n2 + 2) (nI b) hd (nI l) (nI x) Gm = f_M_stretch_40 (f_M_stretch_3 (n2 + 1)) (nI b) hd (nI l) (nI x) (nI s) Gm ∧ zx_if (¬ (Gc 1 (Int32.toNatClampNeg (nI x))) = 0) (zx_gd (zx_in (nI x) 240) <| f_B_readStretch_87 (f_B_readStretch_25 n1) (nI b) hd (nI l) (nI x) (nI c) (Gc 1 (Int32.toNatClampNeg (nI x))) Gc) (f_B_readStretch_87 (f_B_readStretch_25 n1) (nI b) hd (nI l) (nI x) (nI c) (nI b - nI x) Gc) = f_B_readStretch_87 (f_B_readStretch_25 n1) (nI b) hd (nI l) (nI x) (nI c) (nI s) Gc := by
        rw [f_M_stretch_3, zp_neg (nI_ge (by omega) (by omega)), zp_neg (fun z => z h0), zp_gd (zp_in (by omega) (by omega)), zp_cl (by omega), v2, v3]
        by_cases q : v = 0
        · refine ⟨b - x, by omega, Or.inr ⟨q, rfl⟩, ?_, ?_⟩
          · rw [q, zp_neg (show ¬ ¬ nI 0 = 0 from fun z => z rfl), pk_sub (by omega)]
          · rw [q, zp_neg (show ¬ ¬ nI 0 = 0 from fun z => z rfl), pk_sub (by omega)]
        · refine ⟨v, by omega, Or.inl rfl, ?_, ?_⟩
          · rw [zp_pos (nI_ne0 (by omega) (by omega)), zp_gd (zp_in (by omega) (by omega))]
          · rw [zp_pos (nI_ne0 (by omega) (by omega)), zp_gd (zp_in (by omega) (by omega))]
      have l2 : nI s < (2 : Int32) ↔ s < 2 := zp_ltc (c := (2 : Int32)) 2 rfl (by omega) (by omega)
      by_cases q : s < 2 ∨ b < x + s ∨ 5 ≤ l
      · -- both fail
        have eM : f_M_stretch_3 (n2 + 2) (nI b) hd (nI l) (nI x) Gm = some (0, zx_up Gm 32 10 (1 : Int32)) := by
          rw [s3]
          unfold f_M_stretch_40
          rw [zp_lt]
          by_cases q1 : s < 2
          · rw [zp_pos (l2.mpr q1), t72]
          · rw [zp_neg (fun z => q1 (l2.mp z)), nI_add]
            by_cases q2 : b < x + s
            · rw [zp_pos (nI_lt q2 (by omega)), t72]
            · rw [zp_neg (nI_nlt (by omega) (by omega)), r2, zp_neg (zd_c16 (by omega)), zp_neg (show ¬ nI l < (5 : Int32) from fun z => by have := (zp_ltc (c := (5 : Int32)) 5 rfl (by omega) (by omega)).mp z; omega), t72]
        refine ⟨Gc, zx_up Gm 32 10 (1 : Int32), eM, Or.inr ⟨?_, zp_us⟩⟩
        rw [zp_neg (nI_ge (by omega) (by omega)), pk_sub (by omega), r1, zp_neg (c := (16 : Int32) ≤ nI n) (zd_c16 (by omega))]
        by_cases q0 : nI (b - x) < (2 : Int32)
        · rw [zp_pos q0]; rfl
        · rw [zp_neg q0]
          by_cases q1 : l ≤ 4
          · rw [zp_pos (show nI l ≤ (4 : Int32) from (zp_lec (c := (4 : Int32)) 4 rfl (by omega) (by omega)).mpr q1), zp_gd (zp_in (by omega) (by omega)), ← pk_sub (show x ≤ b by omega), s4]
            unfold f_B_readStretch_87
            rw [zp_lt]
            by_cases q2 : s < 2
            · rw [zp_pos (l2.mpr q2)]; rfl
            · rw [zp_neg (fun z => q2 (l2.mp z)), pk_sub (by omega), zp_neg (nI_ge (by omega) (by omega))]; rfl
          · rw [zp_neg (show ¬ nI l ≤ (4 : Int32) from fun z => q1 ((zp_lec (c := (4 : Int32)) 4 rfl (by omega) (by omega)).mp z))]; rfl
      · -- a box is added
        have s5 : 2 ≤ s ∧ x + s ≤ b ∧ l ≤ 4 := by omega
        obtain ⟨u, u1, u2⟩ := f2 (x + 1) (by omega)
        have u3 : Gc 1 (x + 1) = nI u := (f1 (x + 1) (by omega)).trans u2
        -- the two new states
        obtain ⟨Gc1, hGc1⟩ : ∃ Gc1, Gc1 = zx_up (zx_up (zx_up (zx_up (zx_up (zx_up Gc 3 n (nI u)) 4 n (nI (x + 2))) 5 n (nI (x + s))) 6 n hd) 7 n (nI l)) 2 6 (nI (n + 1)) := ⟨_, rfl⟩
        obtain ⟨Gm1, hGm1⟩ : ∃ Gm1, Gm1 = zx_up (zx_up (zx_up (zx_up (zx_up (zx_up Gm 34 n (nI (x + 2))) 35 n (nI (x + s))) 36 n (nI u)) 37 n hd) 38 n (nI l)) 32 2 (nI (n + 1)) := ⟨_, rfl⟩
        have eC : zx_if (¬ (Gc 1 (Int32.toNatClampNeg (nI x))) = 0) (zx_gd (zx_in (nI x) 240) <| f_B_readStretch_87 (f_B_readStretch_25 n1) (nI b) hd (nI l) (nI x) (nI c) (Gc 1 (Int32.toNatClampNeg (nI x))) Gc) (f_B_readStretch_87 (f_B_readStretch_25 n1) (nI b) hd (nI l) (nI x) (nI c) (nI b - nI x) Gc) = f_B_readStretch_25 n1 (nI b) hd (nI l) (nI (x + s)) (nI (c + 1)) Gc1 := by
          rw [s4]
          unfold f_B_readStretch_87
          rw [zp_lt, zp_neg (fun z => by have := l2.mp z; omega), pk_sub (by omega), zp_pos (nI_le (by omega) (by omega)), nI_1, zp_gd (zp_in (by omega) (by omega)), r1, zp_gd (zp_in (by omega) (by omega)), zp_lt, zp_cl (j := n) (by omega), zp_cl (j := x + 1) (by omega), u3, zp_ur (by omega), r1, zp_gd (zp_in (by omega) (by omega)), zp_lt, zp_cl (by omega), zp_ur (by omega), zp_ur (by omega), r1, zp_gd (zp_in (by omega) (by omega)), zp_lt, zp_cl (by omega), zp_ur (by omega), zp_ur (by omega), zp_ur (by omega), r1, zp_gd (zp_in (by omega) (by omega)), zp_lt, zp_cl (by omega), zp_ur (by omega), zp_ur (by omega), zp_ur (by omega), zp_ur (by omega), r1, zp_gd (zp_in (by omega) (by omega)), zp_lt, zp_cl (by omega), zp_ur (by omega), zp_ur (by omega), zp_ur (by omega), zp_ur (by omega), zp_ur (by omega), r1, zp_lt, zp_lt, zp_lt, nI_1, nI_1, nI_add, show nI x + (2 : Int32) = nI (x + 2) from nI_add x 2, hGc1]
        have eM : f_M_stretch_3 (n2 + 2) (nI b) hd (nI l) (nI x) Gm = f_M_stretch_3 (n2 + 1) (nI b) hd (nI l) (nI (x + s)) Gm1 := by
          have q1 : ∀ a, zx_up Gm 34 n a 32 2 = nI n := fun a => by rw [zp_ur (by omega)]; exact r2
          have q2 : ∀ a b, zx_up (zx_up Gm 34 n a) 35 n b 32 2 = nI n := fun a b => by rw [zp_ur (by omega)]; exact q1 a
          have q33 : ∀ a b, zx_up (zx_up Gm 34 n a) 35 n b 33 (x + 1) = nI u := fun a b => by rw [zp_ur (by omega), zp_ur (by omega)]; exact u2
          have q3 : ∀ a b c, zx_up (zx_up (zx_up Gm 34 n a) 35 n b) 36 n c 32 2 = nI n := fun a b c => by rw [zp_ur (by omega)]; exact q2 a b
          have q4 : ∀ a b c d, zx_up (zx_up (zx_up (zx_up Gm 34 n a) 35 n b) 36 n c) 37 n d 32 2 = nI n := fun a b c d => by rw [zp_ur (by omega)]; exact q3 a b c
          have q5 : ∀ a b c d e, zx_up (zx_up (zx_up (zx_up (zx_up Gm 34 n a) 35 n b) 36 n c) 37 n d) 38 n e 32 2 = nI n := fun a b c d e => by rw [zp_ur (by omega)]; exact q4 a b c d
          rw [s3]
          unfold f_M_stretch_40 f_M_stretch_163
          rw [zp_lt, zp_neg (fun z => by have := l2.mp z; omega), nI_add, zp_neg (nI_nlt (by omega) (by omega)), r2, zp_neg (zd_c16 (by omega)), zp_pos (show nI l < (5 : Int32) from (zp_ltc (c := (5 : Int32)) 5 rfl (by omega) (by omega)).mpr (by omega)), zp_gd (zp_in (by omega) (by omega)), zp_lt, zp_cl (by omega), q1, zp_gd (zp_in (by omega) (by omega)), zp_lt, zp_cl (by omega), nI_1, zp_gd (zp_in (by omega) (by omega)), q2, zp_gd (zp_in (by omega) (by omega)), zp_lt, zp_cl (j := n) (by omega), zp_cl (j := x + 1) (by omega), q33, q3, zp_gd (zp_in (by omega) (by omega)), zp_lt, zp_cl (by omega), q4, zp_gd (zp_in (by omega) (by omega)), zp_lt, zp_cl (by omega), q5, zp_lt, zp_lt, nI_1, show nI x + (2 : Int32) = nI (x + 2) from nI_add x 2, hGm1]
        have cr : ∀ r, r ≠ 2 → r ≠ 3 → r ≠ 4 → r ≠ 5 → r ≠ 6 → r ≠ 7 → Gc1 r = Gc r := fun r a b c d e f => by rw [hGc1, zp_ur a, zp_ur f, zp_ur e, zp_ur d, zp_ur c, zp_ur b]
        have mr : ∀ r, r ≠ 32 → r ≠ 34 → r ≠ 35 → r ≠ 36 → r ≠ 37 → r ≠ 38 → Gm1 r = Gm r := fun r a b c d e f => by rw [hGm1, zp_ur a, zp_ur f, zp_ur e, zp_ur d, zp_ur c, zp_ur b]
        have m32 : ∀ k, k ≠ 2 → Gm1 32 k = Gm 32 k := fun k hk => by rw [hGm1, zp_uk hk, zp_ur (by omega), zp_ur (by omega), zp_ur (by omega), zp_ur (by omega), zp_ur (by omega)]
        have k3 : ∀ k, Gc1 3 k = if k = n then nI u else Gc 3 k := fun k => by rw [hGc1, zp_ur (by omega), zp_ur (by omega), zp_ur (by omega), zp_ur (by omega), zp_ur (by omega), zp_row, zp_upd]
        have k4 : ∀ k, Gc1 4 k = if k = n then nI (x + 2) else Gc 4 k := fun k => by rw [hGc1, zp_ur (by omega), zp_ur (by omega), zp_ur (by omega), zp_ur (by omega), zp_row, zp_upd, zp_ur (by omega)]
        have k5 : ∀ k, Gc1 5 k = if k = n then nI (x + s) else Gc 5 k := fun k => by rw [hGc1, zp_ur (by omega), zp_ur (by omega), zp_ur (by omega), zp_row, zp_upd, zp_ur (by omega), zp_ur (by omega)]
        have k6 : ∀ k, Gc1 6 k = if k = n then hd else Gc 6 k := fun k => by rw [hGc1, zp_ur (by omega), zp_ur (by omega), zp_row, zp_upd, zp_ur (by omega), zp_ur (by omega), zp_ur (by omega)]
        have k7 : ∀ k, Gc1 7 k = if k = n then nI l else Gc 7 k := fun k => by rw [hGc1, zp_ur (by omega), zp_row, zp_upd, zp_ur (by omega), zp_ur (by omega), zp_ur (by omega), zp_ur (by omega)]
        have j34 : ∀ k, Gm1 34 k = if k = n then nI (x + 2) else Gm 34 k := fun k => by rw [hGm1, zp_ur (by omega), zp_ur (by omega), zp_ur (by omega), zp_ur (by omega), zp_ur (by omega), zp_row, zp_upd]
        have j35 : ∀ k, Gm1 35 k = if k = n then nI (x + s) else Gm 35 k := fun k => by rw [hGm1, zp_ur (by omega), zp_ur (by omega), zp_ur (by omega), zp_ur (by omega), zp_row, zp_upd, zp_ur (by omega)]
        have j36 : ∀ k, Gm1 36 k = if k = n then nI u else Gm 36 k := fun k => by rw [hGm1, zp_ur (by omega), zp_ur (by omega), zp_ur (by omega), zp_row, zp_upd, zp_ur (by omega), zp_ur (by omega)]
        have j37 : ∀ k, Gm1 37 k = if k = n then hd else Gm 37 k := fun k => by rw [hGm1, zp_ur (by omega), zp_ur (by omega), zp_row, zp_upd, zp_ur (by omega), zp_ur (by omega), zp_ur (by omega)]
        have j38 : ∀ k, Gm1 38 k = if k = n then nI l else Gm 38 k := fun k => by rw [hGm1, zp_ur (by omega), zp_row, zp_upd, zp_ur (by omega), zp_ur (by omega), zp_ur (by omega), zp_ur (by omega)]
        have hF1 : zb_F L Gc1 Gm1 := by
          refine ⟨hL, (m32 0 (by omega)).trans f0, ?_, ?_⟩
          · rw [cr 1 (by omega) (by omega) (by omega) (by omega) (by omega) (by omega), mr 33 (by omega) (by omega) (by omega) (by omega) (by omega) (by omega)]; exact f1
          · rw [mr 33 (by omega) (by omega) (by omega) (by omega) (by omega) (by omega)]; exact f2
        have hR1 : zb_R L (n + 1) Gc1 Gm1 := by
          refine ⟨by omega, by rw [hGc1, zp_us], by rw [hGm1, zp_us], fun k' hk' => ?_⟩
          by_cases e : k' = n
          · refine ⟨u, x + 2, x + s, l, u1, by omega, by omega, by omega, hl, s5.2.2, ?_⟩
            rw [k3, k4, k5, k6, k7, j34, j35, j36, j37, j38, if_pos e, if_pos e, if_pos e, if_pos e, if_pos e, if_pos e, if_pos e, if_pos e, if_pos e, if_pos e]
            refine ⟨rfl, rfl, rfl, rfl, rfl, rfl, rfl, rfl, rfl, ?_⟩
            rcases hhd with z | ⟨j, z1, z2⟩
            · exact Or.inl z
            · exact Or.inr ⟨j, by omega, z2⟩
          · obtain ⟨ty, f, e', l', h1, h2, h3, h4, h5, h6, h7⟩ := r3 k' (by omega)
            refine ⟨ty, f, e', l', h1, h2, h3, h4, h5, h6, ?_⟩
            rw [k3, k4, k5, k6, k7, j34, j35, j36, j37, j38, if_neg e, if_neg e, if_neg e, if_neg e, if_neg e, if_neg e, if_neg e, if_neg e, if_neg e, if_neg e]
            exact h7
        obtain ⟨Gc', Gm', w1, w2⟩ := ih (n + 1) (x + s) (c + 1) n1 (n2 + 1) Gc1 Gm1 (by omega) (by omega) (by omega) (by omega) hF1 hR1 ((m32 10 (by omega)).trans h0) (by rcases hhd with z | ⟨j, z1, z2⟩; exact Or.inl z; exact Or.inr ⟨j, by omega, z2⟩) (by omega)
        refine ⟨Gc', Gm', eM.trans w1, ?_⟩
        rw [zp_neg (nI_ge (by omega) (by omega)), zp_neg (show ¬ nI b - nI x < (2 : Int32) from fun z => by rw [pk_sub (by omega)] at z; have := (zp_ltc (c := (2 : Int32)) 2 rfl (by omega) (by omega)).mp z; omega), r1, zp_neg (show ¬ (16 : Int32) ≤ nI n from zd_c16 (by omega)), zp_pos (show nI l ≤ (4 : Int32) from (zp_lec (c := (4 : Int32)) 4 rfl (by omega) (by omega)).mpr s5.2.2), zp_gd (zp_in (by omega) (by omega)), eC]
        rcases w2 with ⟨n', w2, w3⟩ | w2
        · exact Or.inl ⟨n', by omega, w3⟩
        · exact Or.inr w2
