/-! a block is written down: its units on both sides -/
theorem zt_addC {bx by_ b : Nat} (hb : b = 1 ∨ b = 2 ∨ b = 4) (hx : bx + b ≤ 4) (hy : by_ + b ≤ 4) (v : Int32) : ∀ (rem r n : Nat) (G : zx_G), r + rem = b → rem < n → ∃ G', f_P_addBlock_9 n (nI (4 * bx)) (nI (4 * by_)) (nI (4 * b)) v (nI (4 * (by_ + r))) G = some (v, zx_up G' 17 3 (G' 17 3 + (1 : Int32))) ∧ (∀ ux uy, zt_in bx by_ b ux uy → by_ + r ≤ uy → G' 19 (4 * uy + ux) = v) ∧ (∀ q, q ≠ 19 → G' q = G q) ∧ ∀ j, (∀ ux uy, zt_in bx by_ b ux uy → by_ + r ≤ uy → j ≠ 4 * uy + ux) → G' 19 j = G 19 j := by
  intro rem
  induction rem with
  | zero =>
    intro r n G hr hn
    obtain ⟨n, rfl⟩ : ∃ k, n = k + 1 := ⟨n - 1, by omega⟩
    refine ⟨G, ?_, fun ux uy h1 h2 => ?_, fun _ _ => rfl, fun _ _ => rfl⟩
    · rw [f_P_addBlock_9, zp_pos (by rw [nI_add]; exact nI_le (by omega) (by omega)), zp_lt]
    · obtain ⟨h3, h4, h5, h6⟩ := h1
      omega
  | succ rem ih =>
    intro r n G hr hn
    obtain ⟨n, rfl⟩ : ∃ k, n = k + 1 := ⟨n - 1, by omega⟩
    have e4 : ∀ c : Nat, nI (4 * bx) + ((4 : Int32) * nI c) = nI (4 * (bx + c)) := fun c => by
      rw [show (4 : Int32) * nI c = nI (4 * c) from pk_mul 4 c, nI_add, ← Nat.mul_add]
    obtain ⟨G1, a1, -, a3, a4, a5⟩ := zt_put (fun k i H => f_P_addBlock_20 (f_P_addBlock_9 n) k (nI (4 * bx)) (nI (4 * by_)) (nI (4 * b)) v (nI (4 * (by_ + r))) (nI (4 * bx) + ((4 : Int32) * i)) H) (fun H => f_P_addBlock_9 n (nI (4 * bx)) (nI (4 * by_)) (nI (4 * b)) v (nI (4 * (by_ + (r + 1)))) H) 19 b (fun c => 4 * (by_ + r) + (bx + c)) (fun _ => v) (fun i j h1 h2 h3 => by have h4 : 4 * (by_ + r) + (bx + i) = 4 * (by_ + r) + (bx + j) := h3; omega) (fun _ => True) (fun _ _ _ _ => trivial)
      (fun k i H hi _ => by
        show f_P_addBlock_20 (f_P_addBlock_9 n) (k + 1) _ _ _ _ _ (nI (4 * bx) + ((4 : Int32) * nI i)) H = f_P_addBlock_20 (f_P_addBlock_9 n) k _ _ _ _ _ (nI (4 * bx) + ((4 : Int32) * nI (i + 1))) _
        rw [e4, e4, f_P_addBlock_20, zp_neg (by rw [nI_add]; exact nI_ge (by omega) (by omega)), show nI (4 * (bx + i)) >>> ((2 : Int32) &&& 31) = nI (4 * (bx + i) / 2 ^ 2) from pk_shrN (by omega) _ 2 (by decide), show 4 * (bx + i) / 2 ^ 2 = bx + i by omega, nI_add, zp_gd (zp_in (by omega) (by omega)), zp_lt, zp_lt, zp_cl (by omega), show nI (4 * (bx + i)) + (4 : Int32) = nI (4 * (bx + i) + 4) from nI_add _ 4, show 4 * (bx + i) + 4 = 4 * (bx + (i + 1)) by omega])
      (fun k H _ => by
        show f_P_addBlock_20 (f_P_addBlock_9 n) (k + 1) _ _ _ _ _ (nI (4 * bx) + ((4 : Int32) * nI b)) H = _
        rw [e4, f_P_addBlock_20, zp_pos (by rw [nI_add]; exact nI_le (by omega) (by omega)), zp_lt, show nI (4 * (by_ + r)) + (4 : Int32) = nI (4 * (by_ + r) + 4) from nI_add _ 4, show 4 * (by_ + r) + 4 = 4 * (by_ + (r + 1)) by omega]) b 0 2048 G trivial (by omega) (by omega)
    obtain ⟨G', c1, c2, c3, c4⟩ := ih (r + 1) n G1 (by omega) (by omega)
    refine ⟨G', ?_, fun ux uy h1 h2 => ?_, fun q hq => by rw [c3 q hq, a4 q hq], fun j hj => ?_⟩
    · rw [f_P_addBlock_9, zp_neg (by rw [nI_add]; exact nI_ge (by omega) (by omega)), zp_lt]
      have a1' : f_P_addBlock_20 (f_P_addBlock_9 n) 2048 (nI (4 * bx)) (nI (4 * by_)) (nI (4 * b)) v (nI (4 * (by_ + r))) (nI (4 * bx)) G = f_P_addBlock_9 n (nI (4 * bx)) (nI (4 * by_)) (nI (4 * b)) v (nI (4 * (by_ + (r + 1)))) G1 := by
        rw [show nI (4 * bx) = nI (4 * bx) + ((4 : Int32) * nI 0) from (e4 0).symm]
        rw [e4 0] at a1
        rw [e4 0]
        exact a1
      rw [a1']
      exact c1
    · by_cases c : by_ + (r + 1) ≤ uy
      · exact c2 ux uy h1 c
      · obtain ⟨h3, h4, h5, h6⟩ := h1
        rw [c4 _ (fun ux' uy' h7 h8 h9 => by obtain ⟨h10, h11, h12, h13⟩ := h7; omega)]
        have := a3 (ux - bx) (by omega) (by omega)
        rw [show 4 * uy + ux = 4 * (by_ + r) + (bx + (ux - bx)) by omega]
        exact this
    · rw [c4 j (fun ux uy h1 h2 => hj ux uy h1 (by omega)), a5 j (fun c h1 h2 => by
        have := hj (bx + c) (by_ + r) ⟨by omega, by omega, by omega, by omega⟩ (by omega)
        exact this)]
theorem zt_add {bx by_ b n : Nat} (hb : b = 1 ∨ b = 2 ∨ b = 4) (hx : bx + b ≤ 4) (hy : by_ + b ≤ 4) {G : zx_G} (hn : G 17 3 = nI n) : ∃ G', f_P_addBlock (nI (4 * bx)) (nI (4 * by_)) (nI (4 * b)) G = some (nI n, G') ∧ (∀ ux uy, zt_in bx by_ b ux uy → G' 19 (4 * uy + ux) = nI n) ∧ (∀ q, q ≠ 19 → q ≠ 17 → G' q = G q) ∧ (∀ j, (∀ ux uy, zt_in bx by_ b ux uy → j ≠ 4 * uy + ux) → G' 19 j = G 19 j) ∧ G' 17 3 = nI (n + 1) ∧ ∀ k, k ≠ 3 → G' 17 k = G 17 k := by
  obtain ⟨G', a1, a2, a3, a4⟩ := zt_addC hb hx hy (nI n) b 0 2048 G (by omega) (by omega)
  refine ⟨zx_up G' 17 3 (G' 17 3 + (1 : Int32)), ?_, fun ux uy h1 => ?_, fun q h1 h2 => by rw [zp_ur h2, a3 q h1], fun j hj => ?_, ?_, fun k hk => by rw [zp_uk hk, a3 17 (by omega)]⟩
  · unfold f_P_addBlock
    rw [zp_lt, zp_lt, hn]
    exact a1
  · rw [zp_ur (by omega)]
    exact a2 ux uy h1 (by have := h1.2.2.1; omega)
  · rw [zp_ur (by omega)]
    exact a4 j (fun ux uy h1 _ => hj ux uy h1)
  · rw [zp_us, a3 17 (by omega), hn, nI_1]
theorem zt_253 {bx by_ b n : Nat} (hb : b = 1 ∨ b = 2 ∨ b = 4) (hx : bx + b ≤ 4) (hy : by_ + b ≤ 4) {G : zx_G} (hn : G 32 37 = nI n) : ∃ G', f_M_readBlock_253 2048 (nI (4 * bx)) (nI (4 * by_)) (nI (4 * b)) (nI (4 * by_ + bx)) (0 : Int32) G = f_M_readBlock_300 2048 (nI (4 * bx)) (nI (4 * by_)) (nI (4 * b)) (0 : Int32) G' ∧ (∀ ux uy, zt_in bx by_ b ux uy → G' 44 (4 * uy + ux) = nI n) ∧ (∀ q, q ≠ 44 → G' q = G q) ∧ ∀ j, (∀ ux uy, zt_in bx by_ b ux uy → j ≠ 4 * uy + ux) → G' 44 j = G 44 j := by
  have hbb : b * b ≤ 16 := by rcases hb with rfl | rfl | rfl <;> omega
  have e1 : zx_div (nI (4 * b) * nI (4 * b)) (16 : Int32) = nI (b * b) := by
    rw [pk_mul]
    show nI _ / nI 16 = _
    rw [pk_div (by rcases hb with rfl | rfl | rfl <;> omega) (by omega) (by omega)]
    congr 1
    rcases hb with rfl | rfl | rfl <;> omega
  have e2 : zx_div (nI (4 * b)) (4 : Int32) = nI b := by
    show nI _ / nI 4 = _
    rw [pk_div (by omega) (by omega) (by omega)]
    congr 1
    omega
  have nz : zx_nz (nI b) = true := decide_eq_true (nI_ne0 (by omega) (by omega))
  have lt : ∀ i, i < b * b → i / b < b := fun i hi => Nat.div_lt_of_lt_mul hi
  have lm : ∀ i, i % b < b := fun i => Nat.mod_lt _ (by omega)
  obtain ⟨G', a1, -, a3, a4, a5⟩ := zt_put (fun k i H => f_M_readBlock_253 k (nI (4 * bx)) (nI (4 * by_)) (nI (4 * b)) (nI (4 * by_ + bx)) i H) (fun H => f_M_readBlock_300 2048 (nI (4 * bx)) (nI (4 * by_)) (nI (4 * b)) (0 : Int32) H) 44 (b * b) (fun i => 4 * (by_ + i / b) + (bx + i % b)) (fun _ => nI n) (fun i j h1 h2 h3 => by
      have h4 : 4 * (by_ + i / b) + (bx + i % b) = 4 * (by_ + j / b) + (bx + j % b) := h3
      have h5 := lt i h1
      have h6 := lt j h2
      have h7 := lm i
      have h8 := lm j
      have h9 := Nat.div_add_mod i b
      have h10 := Nat.div_add_mod j b
      have h11 : i / b = j / b := by omega
      have h12 : i % b = j % b := by omega
      rw [← h9, ← h10, h11, h12]) (fun H => H 32 37 = nI n) (fun H k _ h => by rw [zp_ur (by omega)]; exact h)
    (fun k i H hi hH => by
      show f_M_readBlock_253 (k + 1) _ _ _ _ (nI i) H = f_M_readBlock_253 k _ _ _ _ (nI (i + 1)) _
      have e3 : zx_div (nI i) (nI b) = nI (i / b) := pk_div (by omega) (by omega) (by omega)
      have e4 : zx_rem (nI i) (nI b) = nI (i % b) := pk_rem (by omega) (by omega) (by omega)
      have h5 := lt i hi
      have h6 := lm i
      rw [f_M_readBlock_253, zp_gd (by decide), e1, zp_neg (nI_ge hi (by omega)), zp_gd (by decide), e2, zp_gd nz, zp_gd (by decide), zp_gd nz, e3, e4, show nI (i / b) * (4 : Int32) = nI (i / b * 4) from pk_mul _ 4, nI_add, nI_add, show 4 * by_ + bx + i / b * 4 + i % b = 4 * (by_ + i / b) + (bx + i % b) by omega, zp_gd (zp_in (by omega) (by omega)), zp_lt, zp_lt, zp_cl (by omega), nI_1, hH])
    (fun k H _ => by
      show f_M_readBlock_253 (k + 1) _ _ _ _ (nI (b * b)) H = _
      rw [f_M_readBlock_253, zp_gd (by decide), e1, zp_pos (nI_le (Nat.le_refl _) (by omega)), zp_lt]) (b * b) 0 2048 G hn (by omega) (by omega)
  refine ⟨G', a1, fun ux uy h1 => ?_, a4, fun j hj => a5 j (fun k h1 h2 => ?_)⟩
  · obtain ⟨h2, h3, h4, h5⟩ := h1
    have hc := zt_ix (r := uy - by_) hb (show ux - bx < b by omega)
    have hr := zt_ix2 hb (show uy - by_ < b by omega)
    have h6 := a3 ((uy - by_) * b + (ux - bx)) (by omega) (by omega)
    have h7 : G' 44 (4 * (by_ + ((uy - by_) * b + (ux - bx)) / b) + (bx + ((uy - by_) * b + (ux - bx)) % b)) = nI n := h6
    rw [hc.1, hc.2, show 4 * (by_ + (uy - by_)) + (bx + (ux - bx)) = 4 * uy + ux by omega] at h7
    exact h7
  · have h3 := lt k h2
    have h4 := lm k
    exact hj (bx + k % b) (by_ + k / b) ⟨Nat.le_add_right _ _, by omega, Nat.le_add_right _ _, by omega⟩
