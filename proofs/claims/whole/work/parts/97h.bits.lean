/-! bits of the item's data, on both sides -/
def zh_bit (d : Nat → Int32) (p : Nat) : Nat := ((d (p / 8) >>> (((7 : Int32) - nI (p % 8)) &&& 31)) &&& (1 : Int32)).toNatClampNeg
def zh_val (d : Nat → Int32) (p : Nat) : Nat → Nat
  | 0 => 0
  | k + 1 => 2 * zh_val d p k + zh_bit d (p + k)
theorem zh_bit1 (d : Nat → Int32) (p : Nat) : zh_bit d p ≤ 1 ∧ (d (p / 8) >>> (((7 : Int32) - nI (p % 8)) &&& 31)) &&& (1 : Int32) = nI (zh_bit d p) := by
  obtain ⟨j, hj, e⟩ := pk_andE (d (p / 8) >>> (((7 : Int32) - nI (p % 8)) &&& 31)) (m := (1 : Int32)) 1 rfl
  unfold zh_bit
  rw [e, zp_cl (by omega)]
  exact ⟨by omega, rfl⟩
theorem zh_val_lt (d : Nat → Int32) (p : Nat) : ∀ k, zh_val d p k < 2 ^ k := by
  intro k
  induction k with
  | zero => show 0 < 1; omega
  | succ k ih =>
    have := (zh_bit1 d (p + k)).1
    show 2 * zh_val d p k + zh_bit d (p + k) < 2 ^ (k + 1)
    rw [Nat.pow_succ]
    omega
theorem zh_val_eq {d e : Nat → Int32} {p m : Nat} (h : ∀ k, k < m → d k = e k) : ∀ k, p + k ≤ 8 * m → zh_val d p k = zh_val e p k := by
  intro k
  induction k with
  | zero => intro _; rfl
  | succ k ih =>
    intro hk
    show 2 * zh_val d p k + zh_bit d (p + k) = 2 * zh_val e p k + zh_bit e (p + k)
    rw [ih (by omega)]
    unfold zh_bit
    rw [h _ (by omega)]
/-- the class's cursor over bits -/
def zh_C (p e : Nat) (G : zx_G) : Prop := p ≤ 8 * e ∧ e ≤ 200 ∧ G 13 1 = nI (p / 8) ∧ G 13 2 = nI e ∧ G 13 3 = nI (p % 8)
/-- the reference's -/
def zh_M (p e : Nat) (G : zx_G) : Prop := p ≤ 8 * e ∧ e ≤ 200 ∧ G 32 11 = nI p ∧ G 32 12 = nI (8 * e)
theorem zh_bitsC {e k : Nat} (hk : k ≤ 8) : ∀ (rem j n p : Nat) (G : zx_G), j + rem = k → rem < n → j ≤ p → zh_C p e G → ∃ G', (∀ q, q ≠ 13 → G' q = G q) ∧ ((p + rem ≤ 8 * e ∧ f_U_nextBits_13_4 n (nI k) (nI (zh_val (G 9) (p - j) j)) (nI j) G = some (nI (zh_val (G 9) (p - j) k), G') ∧ zh_C (p + rem) e G') ∨ (8 * e < p + rem ∧ f_U_nextBits_13_4 n (nI k) (nI (zh_val (G 9) (p - j) j)) (nI j) G = some (-1, G') ∧ zh_C (8 * e) e G')) := by
  intro rem
  induction rem with
  | zero =>
    intro j n p G hj hn hjp hC
    obtain ⟨n, rfl⟩ : ∃ k, n = k + 1 := ⟨n - 1, by omega⟩
    have : j = k := by omega
    subst this
    exact ⟨G, fun _ _ => rfl, Or.inl ⟨hC.1, by rw [f_U_nextBits_13_4, zp_pos (nI_le (Nat.le_refl _) (by omega))], hC⟩⟩
  | succ rem ih =>
    intro j n p G hj hn hjp hC
    obtain ⟨n, rfl⟩ : ∃ k, n = k + 1 := ⟨n - 1, by omega⟩
    obtain ⟨c1, c2, c3, c4, c5⟩ := id hC
    by_cases c : p = 8 * e
    · refine ⟨G, fun _ _ => rfl, Or.inr ⟨by omega, ?_, by rw [← c]; exact hC⟩⟩
      rw [f_U_nextBits_13_4, zp_neg (nI_ge (by omega) (by omega)), c3, c4, zp_neg (nI_nlt (by omega) (by omega))]
    · have k80 : ∀ v G, f_U_nextBits_13_80 (f_U_nextBits_13_4 n) (nI k) v (nI j) G = f_U_nextBits_13_4 n (nI k) v (nI (j + 1)) G := fun v G => by
        unfold f_U_nextBits_13_80
        rw [zp_lt, nI_1]
      have ev : ((2 : Int32) * nI (zh_val (G 9) (p - j) j)) + (((G 9 (p / 8)) >>> (((7 : Int32) - nI (p % 8)) &&& 31)) &&& (1 : Int32)) = nI (zh_val (G 9) (p - j) (j + 1)) := by
        rw [(zh_bit1 (G 9) p).2, zk_dbl, nI_add]
        show nI (2 * zh_val (G 9) (p - j) j + zh_bit (G 9) p) = nI (2 * zh_val (G 9) (p - j) j + zh_bit (G 9) (p - j + j))
        rw [show p - j + j = p by omega]
      obtain ⟨G1, g1, g2, g3⟩ : ∃ G1, f_U_nextBits_13_4 (n + 1) (nI k) (nI (zh_val (G 9) (p - j) j)) (nI j) G = f_U_nextBits_13_4 n (nI k) (nI (zh_val (G 9) (p - j) (j + 1))) (nI (j + 1)) G1 ∧ (∀ q, q ≠ 13 → G1 q = G q) ∧ zh_C (p + 1) e G1 := by
        rw [f_U_nextBits_13_4, zp_neg (nI_ge (by omega) (by omega)), c3, c4, zp_pos (nI_lt (by omega) (by omega)), zp_gd (zp_in (by omega) (by omega)), zp_cl (by omega), c5, ev, zp_lt, zp_lt, nI_1, zp_us]
        by_cases c8 : p % 8 + 1 = 8
        · refine ⟨zx_up (zx_up (zx_up G 13 3 (nI (p % 8 + 1))) 13 3 (0 : Int32)) 13 1 (nI (p / 8 + 1)), ?_, fun q hq => by rw [zp_ur hq, zp_ur hq, zp_ur hq], by omega, c2, ?_, ?_, ?_⟩
          · rw [c8, zp_neg (show ¬ ¬ nI 8 = (8 : Int32) from fun z => z rfl), zp_lt, zp_lt, k80, zp_uk (by omega), zp_uk (by omega), c3, nI_1]
          · rw [zp_us]; congr 1; omega
          · rw [zp_uk (by omega), zp_uk (by omega), zp_uk (by omega)]; exact c4
          · rw [zp_uk (by omega), zp_us, show (p + 1) % 8 = 0 by omega]; rfl
        · have n8 : ¬ nI (p % 8 + 1) = (8 : Int32) := fun z => c8 ((zp_eqc (c := (8 : Int32)) 8 rfl (by omega) (by omega)).mp z)
          refine ⟨zx_up G 13 3 (nI (p % 8 + 1)), ?_, fun q hq => zp_ur hq, by omega, c2, ?_, ?_, ?_⟩
          · rw [zp_pos n8, k80]
          · rw [zp_uk (by omega), c3]; congr 1; omega
          · rw [zp_uk (by omega)]; exact c4
          · rw [zp_us]; congr 1; omega
      obtain ⟨G', a1, a2⟩ := ih (j + 1) n (p + 1) G1 (by omega) (by omega) (by omega) g3
      rw [g2 9 (by omega), show p + 1 - (j + 1) = p - j by omega] at a2
      refine ⟨G', fun q hq => (a1 q hq).trans (g2 q hq), ?_⟩
      rw [g1]
      rcases a2 with ⟨b1, b2, b3⟩ | ⟨b1, b2, b3⟩
      · exact Or.inl ⟨by omega, b2, by rw [show p + (rem + 1) = p + 1 + rem by omega]; exact b3⟩
      · exact Or.inr ⟨by omega, b2, b3⟩
theorem zh_nextBits {e k p : Nat} {G : zx_G} (hk : k ≤ 8) (hC : zh_C p e G) : ∃ G', (∀ q, q ≠ 13 → G' q = G q) ∧ ((p + k ≤ 8 * e ∧ f_U_nextBits_13 (nI k) G = some (nI (zh_val (G 9) p k), G') ∧ zh_C (p + k) e G') ∨ (8 * e < p + k ∧ f_U_nextBits_13 (nI k) G = some (-1, G') ∧ zh_C (8 * e) e G')) := by
  obtain ⟨G', a1, a2⟩ := zh_bitsC hk k 0 2048 p G (by omega) (by omega) (by omega) hC
  refine ⟨G', a1, ?_⟩
  unfold f_U_nextBits_13
  rw [zp_lt, zp_lt]
  exact a2
/-- the code after a failure v -/
def zh_code (c v : Int32) : Int32 := if c = 0 then v else c
theorem zh_fail (v : Int32) (G : zx_G) : f_M_fail v G = some (0, zx_up G 32 10 (zh_code (G 32 10) v)) := by
  unfold zh_code
  by_cases c : G 32 10 = 0
  · rw [if_pos c]; exact zb_fail1 c v
  · rw [if_neg c]; exact zb_fail2 c v
/-- the reference's number -/
theorem zh_number {e k p : Nat} {G : zx_G} (hk : k ≤ 8) (hM : zh_M p e G) : ∃ G' r, f_M_number (nI k) G = some (r, G') ∧ (∀ q, q ≠ 32 → G' q = G q) ∧ (∀ q, q ≠ 10 → q ≠ 11 → G' 32 q = G 32 q) ∧ ((p + k ≤ 8 * e ∧ r = nI (zh_val (G 39) p k) ∧ zh_M (p + k) e G' ∧ G' 32 10 = G 32 10) ∨ (8 * e < p + k ∧ r = 0 ∧ zh_M (8 * e) e G' ∧ G' 32 10 = zh_code (G 32 10) 7)) := by
  have loop : ∀ (rem j n p : Nat) (G : zx_G), j + rem = k → rem < n → j ≤ p → zh_M p e G → ∃ G' r, f_M_number_4 n (nI k) (nI (zh_val (G 39) (p - j) j)) (nI j) G = some (r, G') ∧ (∀ q, q ≠ 32 → G' q = G q) ∧ (∀ q, q ≠ 10 → q ≠ 11 → G' 32 q = G 32 q) ∧ ((p + rem ≤ 8 * e ∧ r = nI (zh_val (G 39) (p - j) k) ∧ zh_M (p + rem) e G' ∧ G' 32 10 = G 32 10) ∨ (8 * e < p + rem ∧ r = 0 ∧ zh_M (8 * e) e G' ∧ G' 32 10 = zh_code (G 32 10) 7)) := by
    intro rem
    induction rem with
    | zero =>
      intro j n p G hj hn hjp hM
      obtain ⟨n, rfl⟩ : ∃ k, n = k + 1 := ⟨n - 1, by omega⟩
      have : j = k := by omega
      subst this
      exact ⟨G, _, by rw [f_M_number_4, zp_pos (nI_le (Nat.le_refl _) (by omega))], fun _ _ => rfl, fun _ _ _ => rfl, Or.inl ⟨hM.1, rfl, hM, rfl⟩⟩
    | succ rem ih =>
      intro j n p G hj hn hjp hM
      obtain ⟨n, rfl⟩ : ∃ k, n = k + 1 := ⟨n - 1, by omega⟩
      obtain ⟨c1, c2, c3, c4⟩ := id hM
      by_cases c : p = 8 * e
      · refine ⟨zx_up G 32 10 (zh_code (G 32 10) 7), 0, ?_, fun q hq => zp_ur hq, fun q a _ => zp_uk a, Or.inr ⟨by omega, rfl, ⟨by omega, c2, by rw [zp_uk (by omega), c3, c], by rw [zp_uk (by omega)]; exact c4⟩, zp_us⟩⟩
        rw [f_M_number_4, zp_neg (nI_ge (by omega) (by omega)), c3, c4, zp_neg (nI_nlt (by omega) (by omega)), zp_bd (zh_fail 7 G)]
      · have ev : ((2 : Int32) * nI (zh_val (G 39) (p - j) j)) + (((G 39 (p / 8)) >>> (((7 : Int32) - nI (p % 8)) &&& 31)) &&& (1 : Int32)) = nI (zh_val (G 39) (p - j) (j + 1)) := by
          rw [(zh_bit1 (G 39) p).2, zk_dbl, nI_add]
          show nI (2 * zh_val (G 39) (p - j) j + zh_bit (G 39) p) = nI (2 * zh_val (G 39) (p - j) j + zh_bit (G 39) (p - j + j))
          rw [show p - j + j = p by omega]
        have st : f_M_number_4 (n + 1) (nI k) (nI (zh_val (G 39) (p - j) j)) (nI j) G = f_M_number_4 n (nI k) (nI (zh_val (G 39) (p - j) (j + 1))) (nI (j + 1)) (zx_up G 32 11 (nI (p + 1))) := by
          rw [f_M_number_4, zp_neg (nI_ge (by omega) (by omega)), c3, c4, zp_pos (nI_lt (by omega) (by omega)), zp_gd (by decide), show zx_div (nI p) (8 : Int32) = nI (p / 8) from pk_div (d := 8) (by omega) (by omega) (by omega), show zx_rem (nI p) (8 : Int32) = nI (p % 8) from pk_rem (d := 8) (by omega) (by omega) (by omega), zp_gd (zp_in (by omega) (by omega)), zp_gd (by decide), zp_cl (by omega), ev, zp_lt, zp_lt, zp_lt, nI_1, nI_1]
        obtain ⟨G', r, a1, a2, a3, a4⟩ := ih (j + 1) n (p + 1) (zx_up G 32 11 (nI (p + 1))) (by omega) (by omega) (by omega) ⟨by omega, c2, zp_us, by rw [zp_uk (by omega)]; exact c4⟩
        rw [zp_ur (by omega), show p + 1 - (j + 1) = p - j by omega] at a1
        rw [zp_ur (by omega), show p + 1 - (j + 1) = p - j by omega, zp_uk (by omega)] at a4
        refine ⟨G', r, st.trans a1, fun q hq => (a2 q hq).trans (zp_ur hq), fun q a b => (a3 q a b).trans (zp_uk b), ?_⟩
        rcases a4 with ⟨b1, b2, b3, b4⟩ | ⟨b1, b2, b3, b4⟩
        · exact Or.inl ⟨by omega, b2, by rw [show p + (rem + 1) = p + 1 + rem by omega]; exact b3, b4⟩
        · exact Or.inr ⟨by omega, b2, b3, b4⟩
  obtain ⟨G', r, a1, a2⟩ := loop k 0 2048 p G (by omega) (by omega) (by omega) hM
  refine ⟨G', r, ?_, a2⟩
  unfold f_M_number
  rw [zp_lt, zp_lt]
  exact a1
/-- both read k bits; alive -/
theorem zh_both {e k p : Nat} {Gc Gm : zx_G} (hk : k ≤ 8) (hC : zh_C p e Gc) (hM : zh_M p e Gm) (hd : ∀ j, j < e → Gc 9 j = Gm 39 j) (h0 : Gm 32 10 = 0) : ∃ Gc' Gm', (∀ q, q ≠ 13 → Gc' q = Gc q) ∧ (∀ q, q ≠ 32 → Gm' q = Gm q) ∧ (∀ q, q ≠ 10 → q ≠ 11 → Gm' 32 q = Gm 32 q) ∧ ((∃ v, v < 2 ^ k ∧ f_U_nextBits_13 (nI k) Gc = some (nI v, Gc') ∧ f_M_number (nI k) Gm = some (nI v, Gm') ∧ zh_C (p + k) e Gc' ∧ zh_M (p + k) e Gm' ∧ Gm' 32 10 = 0) ∨ (f_U_nextBits_13 (nI k) Gc = some (-1, Gc') ∧ f_M_number (nI k) Gm = some (0, Gm') ∧ zh_C (8 * e) e Gc' ∧ zh_M (8 * e) e Gm' ∧ Gm' 32 10 = 7)) := by
  obtain ⟨Gc', a1, a2⟩ := zh_nextBits hk hC
  obtain ⟨Gm', r, b1, b2, b3, b4⟩ := zh_number hk hM
  refine ⟨Gc', Gm', a1, b2, b3, ?_⟩
  rcases a2 with ⟨c1, c2, c3⟩ | ⟨c1, c2, c3⟩
  · rcases b4 with ⟨d1, d2, d3, d4⟩ | ⟨d1, d2, d3, d4⟩
    · left
      refine ⟨zh_val (Gc 9) p k, zh_val_lt _ _ _, c2, ?_, c3, d3, d4.trans h0⟩
      rw [b1, d2, zh_val_eq hd k c1]
    · omega
  · rcases b4 with ⟨d1, d2, d3, d4⟩ | ⟨d1, d2, d3, d4⟩
    · omega
    · right
      exact ⟨c2, by rw [b1, d2], c3, d3, by rw [d4, h0]; rfl⟩
/-- at the end no bit is left -/
theorem zh_end {e k : Nat} {G : zx_G} (hk : k ≤ 8) (hk0 : 0 < k) (hC : zh_C (8 * e) e G) : ∃ G', (∀ q, q ≠ 13 → G' q = G q) ∧ f_U_nextBits_13 (nI k) G = some (-1, G') ∧ zh_C (8 * e) e G' := by
  obtain ⟨G', a1, a2⟩ := zh_nextBits hk hC
  rcases a2 with ⟨c1, c2, c3⟩ | ⟨c1, c2, c3⟩
  · omega
  · exact ⟨G', a1, c2, c3⟩
/-- the reference after a failure: it goes on, its code stays -/
theorem zh_dead {e k p : Nat} {G : zx_G} (hk : k ≤ 8) (hM : zh_M p e G) (h : ¬ G 32 10 = 0) : ∃ G' r p', f_M_number (nI k) G = some (r, G') ∧ (∀ q, q ≠ 32 → G' q = G q) ∧ (∀ q, q ≠ 11 → G' 32 q = G 32 q) ∧ zh_M p' e G' := by
  obtain ⟨G', r, b1, b2, b3, b4⟩ := zh_number hk hM
  have hc : zh_code (G 32 10) 7 = G 32 10 := if_neg h
  rcases b4 with ⟨d1, d2, d3, d4⟩ | ⟨d1, d2, d3, d4⟩
  · refine ⟨G', r, p + k, b1, b2, fun q a => ?_, d3⟩
    by_cases c : q = 10
    · rw [c]; exact d4
    · exact b3 q c a
  · refine ⟨G', r, 8 * e, b1, b2, fun q a => ?_, d3⟩
    by_cases c : q = 10
    · rw [c, d4, hc]
    · exact b3 q c a
theorem zh_deadB {e k p : Nat} {G : zx_G} (hk : k ≤ 8) (hM : zh_M p e G) (h : ¬ G 32 10 = 0) : ∃ G' p', f_M_barred (nI k) G = some (0, G') ∧ (∀ q, q ≠ 32 → G' q = G q) ∧ (∀ q, q ≠ 11 → G' 32 q = G 32 q) ∧ zh_M p' e G' := by
  obtain ⟨G1, r, p', a1, a2, a3, a4⟩ := zh_dead hk hM h
  unfold f_M_barred f_M_barred_13
  rw [zp_bd a1]
  by_cases c : r = 0
  · exact ⟨G1, p', by rw [zp_pos c], a2, a3, a4⟩
  · have h1 : ¬ G1 32 10 = 0 := by rw [a3 10 (by omega)]; exact h
    refine ⟨zx_up G1 32 10 (G1 32 10), p', by rw [zp_neg c, zp_bd (zb_fail2 h1 5)], fun q hq => by rw [zp_ur hq]; exact a2 q hq, fun q hq => ?_, a4.1, a4.2.1, by rw [zp_uk (by omega)]; exact a4.2.2.1, by rw [zp_uk (by omega)]; exact a4.2.2.2⟩
    by_cases d : q = 10
    · rw [d, zp_us]; exact a3 10 (by omega)
    · rw [zp_uk d]; exact a3 q hq
