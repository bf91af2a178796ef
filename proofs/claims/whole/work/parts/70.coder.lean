/-! the arithmetic decoder: one bit, narrowing -/
/-- the tile's bytes: where they are, the same bytes on both sides -/
def zk_S (fr to : Nat) (Gc Gm : zx_G) : Prop := fr ≤ 201 ∧ to ≤ 200 ∧ Gc 14 3 = nI fr ∧ Gc 14 4 = nI to ∧ Gm 32 25 = nI (8 * fr) ∧ Gm 32 26 = nI (8 * to) ∧ ∀ k, k < to → Gc 9 k = Gm 39 k
/-- range, value, bits taken -/
def zk_V (rg vl bt : Nat) (Gc Gm : zx_G) : Prop := Gc 14 6 = nI rg ∧ Gm 32 27 = nI rg ∧ Gc 14 7 = nI vl ∧ Gm 32 28 = nI vl ∧ Gc 14 8 = nI bt ∧ Gm 32 29 = nI bt ∧ Gc 14 9 = Gm 32 30
def zk_b (d : Nat → Int32) (fr to bt : Nat) : Int32 := if to ≤ fr + bt / 8 then 0 else (d (fr + bt / 8) >>> (((7 : Int32) - nI (bt % 8)) &&& 31)) &&& (1 : Int32)
theorem zk_b01 (d : Nat → Int32) (fr to bt : Nat) : ∃ β, β ≤ 1 ∧ zk_b d fr to bt = nI β := by
  unfold zk_b
  by_cases h : to ≤ fr + bt / 8
  · rw [if_pos h]; exact ⟨0, by omega, rfl⟩
  · rw [if_neg h]
    obtain ⟨j, hj, e⟩ := pk_andE (d (fr + bt / 8) >>> (((7 : Int32) - nI (bt % 8)) &&& 31)) (m := (1 : Int32)) 1 rfl
    exact ⟨j, by omega, e⟩
theorem zk_takeC {fr to bt vl : Nat} {G : zx_G} (hf : fr ≤ 201) (ht : to ≤ 200) (hb : bt < 2 ^ 27) (h1 : G 14 3 = nI fr) (h2 : G 14 4 = nI to) (h3 : G 14 8 = nI bt) (h4 : G 14 7 = nI vl) : f_C_takeBit G = some (0, zx_up (zx_up G 14 7 (((2 : Int32) * nI vl) + zk_b (G 9) fr to bt)) 14 8 (nI (bt + 1))) := by
  unfold f_C_takeBit f_C_takeBit_43
  have e1 : nI fr + (nI bt >>> ((3 : Int32) &&& 31)) = nI (fr + bt / 8) := by
    rw [show nI bt >>> ((3 : Int32) &&& 31) = nI (bt / 8) from pk_shrN (by omega) _ 3 (by decide), nI_add]
  have e2 : nI bt &&& (7 : Int32) = nI (bt % 8) := pk_andN (by omega) 3 rfl
  rw [zp_lt, h1, h2, h3, e1, e2]
  unfold zk_b
  by_cases h : to ≤ fr + bt / 8
  · rw [zp_pos ((nI_leI (by omega) (by omega)).mpr h), if_pos h, zp_lt, zp_lt, zp_lt, h4, zp_uk (by omega), h3, nI_1]
  · rw [zp_neg (fun q => h ((nI_leI (by omega) (by omega)).mp q)), if_neg h, zp_gd (zp_in (by omega) (by omega)), zp_cl (by omega), zp_lt, zp_lt, zp_lt, h4, zp_uk (by omega), h3, nI_1]
theorem zk_takeM {fr to bt : Nat} {G : zx_G} (hf : fr ≤ 201) (ht : to ≤ 200) (hb : bt < 2 ^ 27) (h1 : G 32 25 = nI (8 * fr)) (h2 : G 32 26 = nI (8 * to)) (h3 : G 32 29 = nI bt) : f_M_nextBit G = some (zk_b (G 39) fr to bt, zx_up G 32 29 (nI (bt + 1))) := by
  unfold f_M_nextBit f_M_nextBit_51
  rw [zp_lt, zp_lt, h1, h3, nI_add, nI_1, zp_uk (by omega), h2]
  unfold zk_b
  by_cases h : to ≤ fr + bt / 8
  · rw [zp_pos ((nI_leI (by omega) (by omega)).mpr (by omega)), if_pos h]
  · have d1 : zx_div (nI (8 * fr + bt)) (8 : Int32) = nI (fr + bt / 8) := by
      unfold zx_div
      rw [show (8 : Int32) = nI 8 from rfl, pk_div (by omega) (by omega) (by omega)]
      congr 1; omega
    have d2 : zx_rem (nI (8 * fr + bt)) (8 : Int32) = nI (bt % 8) := by
      unfold zx_rem
      rw [show (8 : Int32) = nI 8 from rfl, pk_rem (by omega) (by omega) (by omega)]
      congr 1; omega
    rw [zp_neg (fun q => by have q2 := (nI_leI (by omega) (by omega)).mp q; omega), if_neg h, zp_gd (c := zx_nz (8 : Int32)) rfl, d1, d2, zp_gd (zp_in (by omega) (by omega)), zp_gd (c := zx_nz (8 : Int32)) rfl, zp_cl (by omega), zp_ur (by omega)]
theorem zk_b_eq {d e : Nat → Int32} (fr to bt : Nat) (h : ∀ k, k < to → d k = e k) : zk_b d fr to bt = zk_b e fr to bt := by
  unfold zk_b
  by_cases q : to ≤ fr + bt / 8
  · rw [if_pos q, if_pos q]
  · rw [if_neg q, if_neg q, h _ (by omega)]
theorem zk_dbl (n : Nat) : (2 : Int32) * nI n = nI (2 * n) := by rw [show (2 : Int32) = nI 2 from rfl, pk_mul]
/-- the loop of the narrowing: both sides double alike -/
theorem zk_loop {fr to : Nat} : ∀ (m i n1 n2 rg vl bt : Nat) (Gc Gm : zx_G), zk_S fr to Gc Gm → zk_V rg vl bt Gc Gm → 1 ≤ rg → rg ≤ 32768 → vl < rg → 16384 ≤ rg * 2 ^ m → i + m ≤ 14 → m < n1 → m < n2 → bt + m < 2 ^ 27 →
    ∃ (Gc' Gm' : zx_G) (rg' vl' bt' : Nat), f_C_narrow_29 n1 (nI i) Gc = some (0, Gc') ∧ f_M_narrow_27 n2 Gm = some (0, Gm') ∧ zk_V rg' vl' bt' Gc' Gm' ∧ 16384 ≤ rg' ∧ rg' ≤ 32768 ∧ vl' < rg' ∧ bt' ≤ bt + m := by
  intro m
  induction m with
  | zero =>
    intro i n1 n2 rg vl bt Gc Gm hS hV h1 h2 h3 h4 h5 h6 h7 h8
    obtain ⟨n1, rfl⟩ : ∃ k, n1 = k + 1 := ⟨n1 - 1, by omega⟩
    obtain ⟨n2, rfl⟩ : ∃ k, n2 = k + 1 := ⟨n2 - 1, by omega⟩
    have hr : (16384 : Int32) ≤ nI rg := (zp_cle (c := (16384 : Int32)) 16384 rfl (by omega) (by omega)).mpr (by omega)
    refine ⟨Gc, Gm, rg, vl, bt, ?_, ?_, hV, by omega, h2, h3, by omega⟩
    · rw [f_C_narrow_29, f_C_narrow_65]
      by_cases q : (14 : Int32) ≤ nI i
      · rw [zp_pos q]
      · rw [zp_neg q, hV.1, zp_pos hr]
    · rw [f_M_narrow_27, hV.2.1, zp_pos hr]
  | succ m ih =>
    intro i n1 n2 rg vl bt Gc Gm hS hV h1 h2 h3 h4 h5 h6 h7 h8
    obtain ⟨n1, rfl⟩ : ∃ k, n1 = k + 1 := ⟨n1 - 1, by omega⟩
    obtain ⟨n2, rfl⟩ : ∃ k, n2 = k + 1 := ⟨n2 - 1, by omega⟩
    have hi : ¬ (14 : Int32) ≤ nI i := fun q => by have q2 := (zp_cle (c := (14 : Int32)) 14 rfl (by omega) (by omega)).mp q; omega
    by_cases hr0 : 16384 ≤ rg
    · have hr : (16384 : Int32) ≤ nI rg := (zp_cle (c := (16384 : Int32)) 16384 rfl (by omega) (by omega)).mpr hr0
      refine ⟨Gc, Gm, rg, vl, bt, ?_, ?_, hV, hr0, h2, h3, by omega⟩
      · rw [f_C_narrow_29, f_C_narrow_65, zp_neg hi, hV.1, zp_pos hr]
      · rw [f_M_narrow_27, hV.2.1, zp_pos hr]
    · have hr : ¬ (16384 : Int32) ≤ nI rg := fun q => by have q2 := (zp_cle (c := (16384 : Int32)) 16384 rfl (by omega) (by omega)).mp q; omega
      obtain ⟨s1, s2, s3, s4, s5, s6, s7⟩ := id hS
      obtain ⟨v1, v2, v3, v4, v5, v6, v7⟩ := id hV
      obtain ⟨β, hβ, eβ⟩ := zk_b01 (Gm 39) fr to bt
      have tc := zk_takeC (G := zx_up Gc 14 6 (nI (2 * rg))) s1 s2 (by omega) (by simp [zp_at, s3]) (by simp [zp_at, s4]) (bt := bt) (by simp [zp_at, v5]) (vl := vl) (by simp [zp_at, v3])
      have tm := zk_takeM (G := zx_up Gm 32 27 (nI (2 * rg))) s1 s2 (by omega) (by simp [zp_at, s5]) (by simp [zp_at, s6]) (bt := bt) (by simp [zp_at, v6])
      rw [zp_ur (by omega), zk_b_eq fr to bt s7, eβ, zk_dbl, nI_add] at tc
      rw [zp_ur (by omega), eβ] at tm
      obtain ⟨Gc', Gm', rg', vl', bt', a1, a2, a3, a4, a5, a6, a7⟩ := ih (i + 1) n1 n2 (2 * rg) (2 * vl + β) (bt + 1) (zx_up (zx_up (zx_up Gc 14 6 (nI (2 * rg))) 14 7 (nI (2 * vl + β))) 14 8 (nI (bt + 1))) (zx_up (zx_up (zx_up Gm 32 27 (nI (2 * rg))) 32 29 (nI (bt + 1))) 32 28 (nI (2 * vl + β)))
        ⟨s1, s2, by simp [zp_at, s3], by simp [zp_at, s4], by simp [zp_at, s5], by simp [zp_at, s6], fun k hk => by simpa [zp_at] using s7 k hk⟩
        ⟨by simp [zp_at], by simp [zp_at], by simp [zp_at], by simp [zp_at], by simp [zp_at], by simp [zp_at], by simpa [zp_at] using v7⟩ (by omega) (by omega) (by omega) (by rw [Nat.pow_succ] at h4; rw [Nat.mul_comm 2 rg, Nat.mul_assoc, Nat.mul_comm 2]; exact h4) (by omega) (by omega) (by omega) (by omega)
      refine ⟨Gc', Gm', rg', vl', bt', ?_, ?_, a3, a4, a5, a6, by omega⟩
      · rw [f_C_narrow_29, zp_neg hi, v1, zp_neg hr, zp_lt, zk_dbl, zp_bd tc, zp_lt, nI_1]
        exact a1
      · rw [f_M_narrow_27, v2, zp_neg hr, zp_lt, zk_dbl, zp_bd tm, zp_lt]
        rw [show (zx_up Gm 32 27 (nI (2 * rg)) 32 28) = nI vl by simp [zp_at, v4], zk_dbl, nI_add]
        exact a2
