/-! the arithmetic decoder: tables move, a symbol -/
theorem zk_idx (t i : Nat) : ((16 : Int32) * nI t) + nI i = nI (16 * t + i) := by rw [show (16 : Int32) = nI 16 from rfl, pk_mul, nI_add]
theorem zk_sh (c e : Nat) (hc : c < 2 ^ 31) (he : e < 32) : nI c >>> (nI e &&& 31) = nI (c / 2 ^ e) := by
  refine pk_shrN hc _ e ?_
  have key : ∀ e, e < 32 → ((nI e &&& 31).toBitVec.smod 32).toNat = e := by decide
  exact key e he
/-- the tables' numbers at one place are the same again -/
theorem zk_tab.put {Gc Gm Gc' Gm' : zx_G} {t i c : Nat} (h : zk_tab Gc Gm) (ht : t < 19) (hi : i + 1 < zx_cnt t) (hc : c ≤ 32768) (e1 : Gc' 15 = upd (Gc 15) (16 * t + i) (nI c)) (e2 : Gm' 40 = upd (Gm 40) (16 * t + i) (nI c)) : zk_tab Gc' Gm' := by
  intro t' i' ht' hi'
  have b1 := (zx_cnt_tab t ht).2.2
  have b2 := (zx_cnt_tab t' ht').2.2
  rw [e1, e2, zp_upd, zp_upd]
  by_cases q : 16 * t' + i' = 16 * t + i
  · rw [if_pos q, if_pos q]
    have : t' = t := by omega
    subst this
    exact ⟨c, hc, rfl, rfl, fun z => by omega⟩
  · rw [if_neg q, if_neg q]
    exact h t' i' ht' hi'
/-- one number moves -/
def zk_mv (k i e c : Nat) : Nat := if i < k then c - c / 2 ^ e else c + (32768 - c) / 2 ^ e
theorem zk_mv_le {k i e c : Nat} (hc : c ≤ 32768) : zk_mv k i e c ≤ 32768 := by
  unfold zk_mv
  have h1 : c / 2 ^ e ≤ c := Nat.div_le_self _ _
  have h2 : (32768 - c) / 2 ^ e ≤ 32768 - c := Nat.div_le_self _ _
  generalize c / 2 ^ e = a at h1 ⊢
  generalize (32768 - c) / 2 ^ e = b at h2 ⊢
  split <;> omega
theorem zk_adC {t k e L : Nat} (ht : t < 19) (hk : k < 2 ^ 30) (he : e < 32) : ∀ (rem n i : Nat) (Gc Gm : zx_G), zk_tab Gc Gm → L + 1 = zx_cnt t → i + rem = L → rem < n → Gm 32 22 = 0 → 
    ∃ (Gc' Gm' : zx_G), f_C_adapt_52 n (nI t) (nI k) (nI (16 * t)) (nI L) (nI e) (nI i) Gc = some (0, zx_up Gc' 16 t (Gc' 16 t + (1 : Int32))) ∧ f_M_symbol_146 n (nI t) (nI (L + 1)) (nI k) (nI e) (nI i) Gm = some (nI k, Gm') ∧ zk_tab Gc' Gm' ∧ (∀ q, q ≠ 15 → Gc' q = Gc q) ∧ (∀ q, q ≠ 40 → Gm' q = Gm q) := by
  intro rem
  have hcnt := (zx_cnt_tab t ht).2.2
  induction rem with
  | zero =>
    intro n i Gc Gm hT hL hi hn h22
    obtain ⟨n, rfl⟩ : ∃ k, n = k + 1 := ⟨n - 1, by omega⟩
    refine ⟨Gc, Gm, ?_, ?_, hT, fun _ _ => rfl, fun _ _ => rfl⟩
    · rw [f_C_adapt_52, zp_pos (nI_le (by omega) (by omega)), zp_gd (zp_in ht (by omega)), zp_gd (zp_in ht (by omega)), zp_lt, zp_cl (by omega)]
    · rw [f_M_symbol_146, f_M_symbol_221, nI_succ, show nI L + 1 - (1 : Int32) = nI L by rw [← nI_succ, nI_pred], zp_pos (nI_le (by omega) (by omega))]
  | succ rem ih =>
    intro n i Gc Gm hT hL hi hn h22
    obtain ⟨n, rfl⟩ : ∃ k, n = k + 1 := ⟨n - 1, by omega⟩
    obtain ⟨c, hc, c1, c2, -⟩ := hT t i ht (by omega)
    have p2 : 0 < 2 ^ e := Nat.pos_of_ne_zero (by simp)
    have sub1 : nI c - (nI c >>> (nI e &&& 31)) = nI (c - c / 2 ^ e) := by rw [zk_sh c e (by omega) he, pk_sub (Nat.div_le_self _ _)]
    have add1 : nI c + (((32768 : Int32) - nI c) >>> (nI e &&& 31)) = nI (c + (32768 - c) / 2 ^ e) := by
      rw [show (32768 : Int32) - nI c = nI (32768 - c) from pk_sub hc, zk_sh (32768 - c) e (by omega) he, nI_add]
    obtain ⟨Gc', Gm', a1, a2, a3, a4, a5⟩ := ih n (i + 1) (zx_up Gc 15 (16 * t + i) (nI (zk_mv k i e c))) (zx_up Gm 40 (16 * t + i) (nI (zk_mv k i e c))) (hT.put ht (by omega) (zk_mv_le hc) zp_row zp_row) hL (by omega) (by omega) (by simp [zp_at, h22])
    refine ⟨Gc', Gm', ?_, ?_, a3, fun q hq => by rw [a4 q hq, zp_ur hq], fun q hq => by rw [a5 q hq, zp_ur hq]⟩
    · rw [f_C_adapt_52, zp_neg (nI_ge (by omega) (by omega)), nI_add, zp_gd (zp_in (by omega) (by omega)), zp_lt, zp_cl (by omega), c1]
      unfold f_C_adapt_106
      by_cases q : i < k
      · rw [zp_pos (nI_lt q (by omega)), zp_gd (zp_in (by omega) (by omega)), zp_lt, zp_lt, zp_cl (by omega), sub1, nI_1]
        unfold zk_mv at a1
        rw [if_pos q] at a1
        exact a1
      · rw [zp_neg (nI_nlt (by omega) (by omega)), zp_gd (zp_in (by omega) (by omega)), zp_lt, zp_lt, zp_cl (by omega), add1, nI_1]
        unfold zk_mv at a1
        rw [if_neg q] at a1
        exact a1
    · rw [f_M_symbol_146, show nI (L + 1) - (1 : Int32) = nI L from nI_pred L, zp_neg (nI_ge (by omega) (by omega)), h22, zp_neg (by decide), zk_idx, zp_gd (zp_in (by omega) (by omega)), zp_lt, zp_cl (by omega), c2]
      unfold f_M_symbol_214
      by_cases q : i < k
      · rw [zp_pos (nI_lt q (by omega)), zp_gd (zp_in (by omega) (by omega)), zp_lt, zp_lt, zp_cl (by omega), sub1, nI_1]
        unfold zk_mv at a2
        rw [if_pos q] at a2
        exact a2
      · rw [zp_neg (nI_nlt (by omega) (by omega)), zp_gd (zp_in (by omega) (by omega)), zp_lt, zp_lt, zp_cl (by omega), add1, nI_1]
        unfold zk_mv at a2
        rw [if_neg q] at a2
        exact a2
/-- what a number cuts off of the range -/
theorem zk_cut {rg c : Nat} (h1 : rg ≤ 32768) (h2 : c ≤ 32768) : (nI rg * nI c) >>> ((15 : Int32) &&& 31) = nI (rg * c / 32768) := by
  have hm : rg * c ≤ 32768 * 32768 := Nat.mul_le_mul h1 h2
  rw [pk_mul]
  exact pk_shrN (by omega) _ 15 (by decide)
theorem zk_cut_le {rg c : Nat} (h2 : c ≤ 32768) : rg * c / 32768 ≤ rg := by
  have hm : rg * c ≤ rg * 32768 := Nat.mul_le_mul_left _ h2
  calc rg * c / 32768 ≤ rg * 32768 / 32768 := Nat.div_le_div_right hm
    _ = rg := Nat.mul_div_cancel _ (by omega)
/-- behind the search: narrowing, and the tables move -/
theorem zk_fin {fr to s rg vl bt t k L lo hi : Nat} {Gc Gm : zx_G} (hS : zk_S fr to Gc Gm) (hT : zk_T s Gc Gm) (hV : zk_V rg vl bt Gc Gm) (hrg : rg ≤ 32768) (ht : t < 19) (hL : L + 1 = zx_cnt t) (hk : k ≤ L) (h1 : lo ≤ vl) (h2 : vl < hi) (h3 : hi ≤ rg) (hb : bt + 14 < 2 ^ 27)
    (ehi : (Gm 32 27 * Gm 40 (16 * t + k)) >>> ((15 : Int32) &&& 31) = nI hi) :
    ∃ (Gc' Gm' : zx_G) (bt' : Nat), f_C_readSymbol_79 (nI t) (nI k) (nI lo) (nI hi) Gc = some (nI k, Gc') ∧ f_M_symbol_75 (nI t) (nI (L + 1)) (nI k) (nI lo) Gm = some (nI k, Gm') ∧ zk_R fr to s bt' Gc' Gm' ∧ bt' ≤ bt + 14 := by
  have hcnt := (zx_cnt_tab t ht).2.2
  have htab := (zx_cnt_tab t ht).1
  obtain ⟨G1, G2, bt', a1, a2, ⟨hS', hT', rg', vl', hV', r1, r2, r3⟩, a4⟩ := zk_narrow hS hT hV hrg h1 h2 h3 hb
  obtain ⟨t1, t2, t3, t4, t5⟩ := id hT'
  have uC : f_C_readSymbol_79 (nI t) (nI k) (nI lo) (nI hi) Gc = zx_if (¬ (G1 14 5) = 0) (some (nI k, G1)) (zx_bd (f_C_adapt (nI t) (nI k) G1) fun r_6 G_5 => some (nI k, G_5)) := by
    unfold f_C_readSymbol_79 f_C_readSymbol_101
    rw [zp_bd a1]
  have redC : ∀ (a b : Int32) (e : Nat), (4 : Int32) + a + b = nI e → ∀ G : zx_G, f_C_adapt_46 (nI t) (nI k) (nI (16 * t)) (nI L) ((4 : Int32) + a) b G = f_C_adapt_52 2048 (nI t) (nI k) (nI (16 * t)) (nI L) (nI e) (nI 0) G := by
    intro a b e h G
    unfold f_C_adapt_46
    rw [zp_lt, zp_lt, h]
    rfl
  have hd : ∀ G : zx_G, f_C_adapt (nI t) (nI k) G = zx_if (G 16 t ≤ (15 : Int32)) (f_C_adapt_31 (nI t) (nI k) (nI (16 * t)) (nI L) (4 : Int32) (0 : Int32) G) (f_C_adapt_31 (nI t) (nI k) (nI (16 * t)) (nI L) (4 : Int32) (1 : Int32) G) := by
    intro G
    unfold f_C_adapt
    rw [zp_lt, zp_gd (zp_in ht (by omega)), zp_lt, zp_gd (zp_in ht (by omega)), zp_cl (by omega), htab, ← hL, show nI (L + 1) - (1 : Int32) = nI L from nI_pred L, show nI t * (16 : Int32) = nI (16 * t) by rw [show (16 : Int32) = nI 16 from rfl, pk_mul, Nat.mul_comm]]
  have h31 : ∀ (a : Int32) (G : zx_G), f_C_adapt_31 (nI t) (nI k) (nI (16 * t)) (nI L) (4 : Int32) a G = zx_if (nI (L + 1) ≤ (4 : Int32)) (f_C_adapt_46 (nI t) (nI k) (nI (16 * t)) (nI L) ((4 : Int32) + a) (0 : Int32) G) (f_C_adapt_46 (nI t) (nI k) (nI (16 * t)) (nI L) ((4 : Int32) + a) (1 : Int32) G) := by
    intro a G
    unfold f_C_adapt_31
    rw [zp_gd (zp_in ht (by omega)), zp_cl (by omega), htab, ← hL]
  have redM : ∀ (a b : Int32) (e : Nat), (4 : Int32) + a + b = nI e → ∀ G : zx_G, f_M_symbol_130 (nI t) (nI (L + 1)) (nI k) ((4 : Int32) + a) b G = f_M_symbol_146 2048 (nI t) (nI (L + 1)) (nI k) (nI e) (nI 0) (zx_up G 41 t (G 41 t + (1 : Int32))) := by
    intro a b e h G
    unfold f_M_symbol_130
    rw [zp_lt, zp_gd (zp_in ht (by omega)), zp_gd (zp_in ht (by omega)), zp_lt, zp_lt, h, zp_cl (by omega)]
    rfl
  have uM : f_M_symbol_75 (nI t) (nI (L + 1)) (nI k) (nI lo) Gm = zx_if (G2 41 t ≤ (15 : Int32)) (f_M_symbol_119 (nI t) (nI (L + 1)) (nI k) (4 : Int32) (0 : Int32) G2) (f_M_symbol_119 (nI t) (nI (L + 1)) (nI k) (4 : Int32) (1 : Int32) G2) := by
    unfold f_M_symbol_75
    rw [zp_lt, zk_idx, zp_gd (zp_in (by omega) (by omega)), zp_cl (by omega), ehi, zp_bd a2, zp_gd (zp_in ht (by omega)), zp_cl (by omega)]
  have h119 : ∀ (a : Int32) (G : zx_G), f_M_symbol_119 (nI t) (nI (L + 1)) (nI k) (4 : Int32) a G = zx_if (nI (L + 1) ≤ (4 : Int32)) (f_M_symbol_130 (nI t) (nI (L + 1)) (nI k) ((4 : Int32) + a) (0 : Int32) G) (f_M_symbol_130 (nI t) (nI (L + 1)) (nI k) ((4 : Int32) + a) (1 : Int32) G) := fun a G => rfl
  have rate : ∃ e, e < 32 ∧ (f_M_symbol_75 (nI t) (nI (L + 1)) (nI k) (nI lo) Gm = f_M_symbol_146 2048 (nI t) (nI (L + 1)) (nI k) (nI e) (nI 0) (zx_up G2 41 t (G2 41 t + (1 : Int32)))) ∧ (G1 16 t = G2 41 t → f_C_adapt (nI t) (nI k) G1 = f_C_adapt_52 2048 (nI t) (nI k) (nI (16 * t)) (nI L) (nI e) (nI 0) G1) := by
    by_cases q1 : G2 41 t ≤ (15 : Int32)
    · by_cases q2 : nI (L + 1) ≤ (4 : Int32)
      · exact ⟨4, by omega, by rw [uM, zp_pos q1, h119, zp_pos q2, redM 0 0 4 rfl], fun hG => by rw [hd, hG, zp_pos q1, h31, zp_pos q2, redC 0 0 4 rfl]⟩
      · exact ⟨5, by omega, by rw [uM, zp_pos q1, h119, zp_neg q2, redM 0 1 5 rfl], fun hG => by rw [hd, hG, zp_pos q1, h31, zp_neg q2, redC 0 1 5 rfl]⟩
    · by_cases q2 : nI (L + 1) ≤ (4 : Int32)
      · exact ⟨5, by omega, by rw [uM, zp_neg q1, h119, zp_pos q2, redM 1 0 5 rfl], fun hG => by rw [hd, hG, zp_neg q1, h31, zp_pos q2, redC 1 0 5 rfl]⟩
      · exact ⟨6, by omega, by rw [uM, zp_neg q1, h119, zp_neg q2, redM 1 1 6 rfl], fun hG => by rw [hd, hG, zp_neg q1, h31, zp_neg q2, redC 1 1 6 rfl]⟩
  obtain ⟨e, he, eM, eC⟩ := rate
  have hs : s = 0 ∨ s = 1 := by omega
  rcases hs with rfl | rfl
  · have hu := t5 rfl t ht
    obtain ⟨G3, G4, b1, b2, b3, b4, b5⟩ := zk_adC (k := k) (e := e) (L := L) ht (by omega) he L 2048 0 G1 (zx_up G2 41 t (G2 41 t + (1 : Int32))) (fun t' i' h h' => by rw [zp_ur (by omega)]; exact t4 t' i' h h') hL (by omega) (by omega) (by rw [zp_ur (by omega)]; exact t3)
    refine ⟨zx_up G3 16 t (G3 16 t + (1 : Int32)), G4, bt', ?_, by rw [eM]; exact b2, ⟨?_, ⟨t1, ?_, ?_, ?_, ?_⟩, rg', vl', ?_, r1, r2, r3⟩, a4⟩
    · rw [uC, t2, zp_neg (by decide), eC hu, zp_bd b1]
    · exact hS'.keep (by rw [zp_ur (by omega), b4 14 (by omega)]) (by rw [zp_ur (by omega), b4 14 (by omega)]) (by rw [zp_ur (by omega), b4 9 (by omega)]) (by rw [b5 32 (by omega), zp_ur (by omega)]) (by rw [b5 32 (by omega), zp_ur (by omega)]) (by rw [b5 39 (by omega), zp_ur (by omega)])
    · rw [zp_ur (by omega), b4 14 (by omega)]; exact t2
    · rw [b5 32 (by omega), zp_ur (by omega)]; exact t3
    · intro t' i' h h'; rw [zp_ur (by omega)]; exact b3 t' i' h h'
    · intro _ t' h'
      rw [b5 41 (by omega), zp_row, zp_row, b4 16 (by omega), zp_upd, zp_upd]
      by_cases q : t' = t
      · rw [if_pos q, if_pos q, hu]
      · rw [if_neg q, if_neg q, t5 rfl t' h']
    · obtain ⟨v1, v2, v3, v4, v5, v6, v7⟩ := hV'
      have m32 : G4 32 = G2 32 := by rw [b5 32 (by omega), zp_ur (by omega)]
      have c14 : zx_up G3 16 t (G3 16 t + (1 : Int32)) 14 = G1 14 := by rw [zp_ur (by omega), b4 14 (by omega)]
      unfold zk_V
      rw [m32, c14]
      exact ⟨v1, v2, v3, v4, v5, v6, v7⟩
  · refine ⟨G1, zx_up G2 41 t (G2 41 t + (1 : Int32)), bt', ?_, ?_, ⟨?_, ⟨t1, t2, ?_, ?_, fun z => by omega⟩, rg', vl', ?_, r1, r2, r3⟩, a4⟩
    · rw [uC, t2, zp_pos (by decide)]
    · rw [eM, f_M_symbol_146, f_M_symbol_221, show nI (L + 1) - (1 : Int32) = nI L from nI_pred L, zp_neg (nI_ge (by have := (zx_cnt_tab t ht).2.1; omega) (by omega)), zp_ur (by omega), t3, zp_pos (by decide)]
    · exact hS'.keep rfl rfl rfl (by rw [zp_ur (by omega)]) (by rw [zp_ur (by omega)]) (by rw [zp_ur (by omega)])
    · rw [zp_ur (by omega)]; exact t3
    · intro t' i' h h'; rw [zp_ur (by omega)]; exact t4 t' i' h h'
    · unfold zk_V; rw [zp_ur (by omega)]; exact hV'
