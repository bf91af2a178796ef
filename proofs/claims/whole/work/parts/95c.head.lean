/-! a block's head: what both sides read and write down -/
theorem zk_symF {fr to s bt t : Nat} {Gc Gm : zx_G} (h : zk_R fr to s bt Gc Gm) (ht : t < 19) (hb : bt + 14 < 2 ^ 27) : ∃ (Gc' Gm' : zx_G) (bt' k : Nat), k < zx_cnt t ∧ f_C_readSymbol (nI t) Gc = some (nI k, Gc') ∧ f_M_symbol (nI t) Gm = some (nI k, Gm') ∧ zk_R fr to s bt' Gc' Gm' ∧ bt' ≤ bt + 14 ∧ (∀ r, r ≠ 14 → r ≠ 15 → r ≠ 16 → Gc' r = Gc r) ∧ (∀ r, r ≠ 32 → r ≠ 40 → r ≠ 41 → Gm' r = Gm r) ∧ ∀ k, k < 27 ∨ 30 < k → Gm' 32 k = Gm 32 k := by
  obtain ⟨Gc', Gm', bt', k, h0, h1, h2, h3, h4⟩ := zk_sym h ht hb
  have wc := w_C_readSymbol _ _ h1
  have wm := w_M_symbol _ _ h2
  have vm := v_M_symbol _ _ h2
  exact ⟨Gc', Gm', bt', k, h0, h1, h2, h3, h4, fun r a b c => wc r (by simp [R_C_readSymbol, a, b, c]), fun r a b c => wm r (by simp [R_M_symbol, a, b, c]), fun k hk => vm 32 k (by decide) (by simp [O_M_symbol]; omega)⟩
/-- the block n is being told: k of its words stand -/
def zt_Q (fr to s bt n k : Nat) (V : Nat → Nat) (Bc Bm Gc Gm : zx_G) : Prop := zk_R fr to s bt Gc Gm ∧ (∀ r, r ≠ 14 → r ≠ 15 → r ≠ 16 → r ≠ 20 → r ≠ 22 → Gc r = Bc r) ∧ (∀ r, r ≠ 32 → r ≠ 40 → r ≠ 41 → r ≠ 45 → r ≠ 46 → Gm r = Bm r) ∧ (∀ k, k < 27 ∨ 30 < k → Gm 32 k = Bm 32 k) ∧ (∀ j, j < 4 * n ∨ 4 * n + k ≤ j → Gc 20 j = Bc 20 j) ∧ (∀ j, j < 4 * (n + 1) ∨ 4 * (n + 1) + k ≤ j → Gm 45 j = Bm 45 j) ∧ ∀ v, v < k → Gc 20 (4 * n + v) = nI (V v) ∧ Gm 45 (4 * (n + 1) + v) = nI (V v)
theorem zt_Q.sym {fr to s bt n k t : Nat} {V : Nat → Nat} {Bc Bm Gc Gm : zx_G} (h : zt_Q fr to s bt n k V Bc Bm Gc Gm) (ht : t < 19) (hb : bt + 14 < 2 ^ 27) : ∃ (Gc' Gm' : zx_G) (bt' x : Nat), x < zx_cnt t ∧ f_C_readSymbol (nI t) Gc = some (nI x, Gc') ∧ f_M_symbol (nI t) Gm = some (nI x, Gm') ∧ bt' ≤ bt + 14 ∧ zt_Q fr to s bt' n k V Bc Bm Gc' Gm' ∧ Gc' 22 = Gc 22 ∧ Gm' 46 = Gm 46 := by
  obtain ⟨h1, h2, h3, h4, h5, h6, h7⟩ := h
  obtain ⟨Gc', Gm', bt', x, a0, a1, a2, a3, a4, a5, a6, a7⟩ := zk_symF h1 ht hb
  refine ⟨Gc', Gm', bt', x, a0, a1, a2, a4, ⟨a3, fun r b c d e f => (a5 r b c d).trans (h2 r b c d e f), fun r b c d e f => (a6 r b c d).trans (h3 r b c d e f), fun k hk => (a7 k hk).trans (h4 k hk), ?_, ?_, ?_⟩, a5 22 (by omega) (by omega) (by omega), a6 46 (by omega) (by omega) (by omega)⟩
  · rw [a5 20 (by omega) (by omega) (by omega)]; exact h5
  · rw [a6 45 (by omega) (by omega) (by omega)]; exact h6
  · rw [a5 20 (by omega) (by omega) (by omega), a6 45 (by omega) (by omega) (by omega)]; exact h7
theorem zt_Q.tell {fr to s bt n k : Nat} {V : Nat → Nat} {Bc Bm Gc Gm : zx_G} (h : zt_Q fr to s bt n k V Bc Bm Gc Gm) (x : Nat) : zt_Q fr to s bt n (k + 1) (fun v => if v = k then x else V v) Bc Bm (zx_up Gc 20 (4 * n + k) (nI x)) (zx_up Gm 45 (4 * (n + 1) + k) (nI x)) := by
  obtain ⟨h1, h2, h3, h4, h5, h6, h7⟩ := h
  refine ⟨h1.keep2 (zp_ur (by omega)) (zp_ur (by omega)) (zp_ur (by omega)) (zp_ur (by omega)) (by rw [zp_ur (by omega)]) (by rw [zp_ur (by omega)]) (by rw [zp_ur (by omega)]) (by rw [zp_ur (by omega)]) (by rw [zp_ur (by omega)]) (by rw [zp_ur (by omega)]) (by rw [zp_ur (by omega)]) (zp_ur (by omega)) (zp_ur (by omega)) (zp_ur (by omega)), fun r a b c d e => by rw [zp_ur d]; exact h2 r a b c d e, fun r a b c d e => by rw [zp_ur d]; exact h3 r a b c d e, fun k hk => by rw [zp_ur (by omega)]; exact h4 k hk, fun j hj => ?_, fun j hj => ?_, fun v hv => ?_⟩
  · rw [zp_uk (by omega)]; exact h5 j (by omega)
  · rw [zp_uk (by omega)]; exact h6 j (by omega)
  · by_cases c : v = k
    · subst c
      rw [zp_us, zp_us]
      show nI _ = nI (if v = v then x else V v) ∧ nI _ = nI (if v = v then x else V v)
      rw [if_pos rfl]
      exact ⟨rfl, rfl⟩
    · show zx_up Gc 20 (4 * n + k) (nI x) 20 (4 * n + v) = nI (if v = k then x else V v) ∧ zx_up Gm 45 (4 * (n + 1) + k) (nI x) 45 (4 * (n + 1) + v) = nI (if v = k then x else V v)
      rw [zp_uk (by omega), zp_uk (by omega), if_neg c]
      exact h7 v (by omega)
/-- shares written beside -/
theorem zt_Q.share {fr to s bt n k : Nat} {V : Nat → Nat} {Bc Bm Gc Gm Gc' Gm' : zx_G} (h : zt_Q fr to s bt n k V Bc Bm Gc Gm) (hc : ∀ r, r ≠ 22 → Gc' r = Gc r) (hm : ∀ r, r ≠ 46 → Gm' r = Gm r) : zt_Q fr to s bt n k V Bc Bm Gc' Gm' := by
  obtain ⟨h1, h2, h3, h4, h5, h6, h7⟩ := h
  refine ⟨h1.keep (hc 14 (by omega)) (hc 9 (by omega)) (hc 15 (by omega)) (hc 16 (by omega)) (hm 32 (by omega)) (hm 39 (by omega)) (hm 40 (by omega)) (hm 41 (by omega)), fun r a b c d e => by rw [hc r e]; exact h2 r a b c d e, fun r a b c d e => by rw [hm r e]; exact h3 r a b c d e, fun k hk => by rw [hm 32 (by omega)]; exact h4 k hk, by rw [hc 20 (by omega)]; exact h5, by rw [hm 45 (by omega)]; exact h6, by rw [hc 20 (by omega), hm 45 (by omega)]; exact h7⟩
theorem zt_tell {n v : Nat} (hn : n < 16) (hv : v < 4) (x : Int32) (G : zx_G) : f_P_tell (nI n) (nI v) x G = some (0, zx_up G 20 (4 * n + v) x) := by
  unfold f_P_tell
  rw [show nI n * (4 : Int32) = nI (n * 4) from pk_mul n 4, nI_add, zp_gd (zp_in (by omega) (by omega)), zp_lt, zp_cl (by omega), Nat.mul_comm n 4]
theorem zt_i45 {n v : Nat} : ((4 : Int32) * nI (n + 1)) + nI v = nI (4 * (n + 1) + v) := by rw [show (4 : Int32) * nI (n + 1) = nI (4 * (n + 1)) from pk_mul 4 _, nI_add]
/-- from the shares on -/
theorem zt_last {fr to s bt n q b bx by_ md1 : Nat} {V : Nat → Nat} {Bc Bm Gc Gm : zx_G} (h : zt_Q fr to s bt n 3 V Bc Bm Gc Gm) (hV2 : V 2 = md1) (hn : n < 16) (hmd : md1 ≤ 6) (hq : q ≤ 63) (hqc : Bc 11 10 = nI q) (hqm : Bm 32 21 = nI q) (hm : Bm 32 37 = nI (n + 1)) (hb : bt + 100 < 2 ^ 27) (hbb : b = 1 ∨ b = 2 ∨ b = 4) (hx : bx + b ≤ 4) (hy : by_ + b ≤ 4) :
    ∃ (Gc' Gm' : zx_G) (bt' ty : Nat), ty ≤ 3 ∧ bt' ≤ bt + 50 ∧ f_T_readBlock_156 2048 (nI n) (nI md1) (1 : Int32) Gc = some (nI n, Gc') ∧ f_M_readBlock_175 2048 (nI (4 * bx)) (nI (4 * by_)) (nI (4 * b)) (nI (4 * by_ + bx)) (0 : Int32) Gm = f_M_readBlock_253 2048 (nI (4 * bx)) (nI (4 * by_)) (nI (4 * b)) (nI (4 * by_ + bx)) (0 : Int32) Gm' ∧ zt_Q fr to s bt' n 4 (fun v => if v = 3 then ty else V v) Bc Bm Gc' Gm' ∧ (md1 = 6 → Gm' 46 0 = Gc' 22 1 ∧ Gm' 46 1 = Gc' 22 2) := by
  have e6 : nI md1 = (6 : Int32) ↔ md1 = 6 := zp_eqc (c := (6 : Int32)) 6 rfl (by omega) (by omega)
  -- the last word
  have fin : ∀ (bt : Nat) (Gc Gm : zx_G), zt_Q fr to s bt n 3 V Bc Bm Gc Gm → bt + 30 < 2 ^ 27 → ∃ (Gc' Gm' : zx_G) (bt' ty : Nat), ty ≤ 3 ∧ bt' ≤ bt + 14 ∧ (∀ k, f_T_readBlock_156 (k + 1) (nI n) (nI md1) (nI 3) Gc = some (nI n, Gc')) ∧ f_M_readBlock_220 (nI (4 * bx)) (nI (4 * by_)) (nI (4 * b)) (nI (4 * by_ + bx)) Gm = f_M_readBlock_253 2048 (nI (4 * bx)) (nI (4 * by_)) (nI (4 * b)) (nI (4 * by_ + bx)) (0 : Int32) Gm' ∧ zt_Q fr to s bt' n 4 (fun v => if v = 3 then ty else V v) Bc Bm Gc' Gm' ∧ Gc' 22 = Gc 22 ∧ Gm' 46 = Gm 46 := by
    intro bt Gc Gm h hb
    have q1 : Gc 11 10 = nI q := by rw [h.2.1 11 (by omega) (by omega) (by omega) (by omega) (by omega)]; exact hqc
    have q2 : Gm 32 21 = nI q := by rw [h.2.2.2.1 21 (by omega)]; exact hqm
    have q3 : Gm 32 37 = nI (n + 1) := by rw [h.2.2.2.1 37 (by omega)]; exact hm
    have t227 : ∀ (ty : Nat) (G : zx_G), f_T_readBlock_227 (nI n) (nI n) (3 : Int32) (nI ty) G = some (nI n, zx_up G 20 (4 * n + 3) (nI ty)) := fun ty G => by
      unfold f_T_readBlock_227
      rw [zp_bd (show f_P_tell (nI n) (3 : Int32) (nI ty) G = _ from zt_tell (v := 3) hn (by omega) (nI ty) G)]
    have t249 : ∀ (ty : Nat) (G : zx_G), f_M_readBlock_249 (nI (4 * bx)) (nI (4 * by_)) (nI (4 * b)) (nI (4 * by_ + bx)) (nI (4 * (n + 1) + 3)) (nI ty) G = f_M_readBlock_253 2048 (nI (4 * bx)) (nI (4 * by_)) (nI (4 * b)) (nI (4 * by_ + bx)) (0 : Int32) (zx_up G 45 (4 * (n + 1) + 3) (nI ty)) := fun ty G => by
      unfold f_M_readBlock_249
      rw [zp_gd (zp_in (by omega) (by omega)), zp_lt, zp_lt, zp_cl (by omega)]
    by_cases c : q = 0
    · refine ⟨zx_up Gc 20 (4 * n + 3) (nI 0), zx_up Gm 45 (4 * (n + 1) + 3) (nI 0), bt, 0, by omega, by omega, fun k => ?_, ?_, h.tell 0, zp_ur (by omega), zp_ur (by omega)⟩
      · rw [f_T_readBlock_156, zp_pos (by decide), q1, c, zp_pos (show nI 0 = 0 from rfl)]
        exact t227 0 Gc
      · unfold f_M_readBlock_220
        rw [q2, c, zp_pos (show nI 0 = 0 from rfl), q3, show ((4 : Int32) * nI (n + 1)) + (3 : Int32) = nI (4 * (n + 1) + 3) from zt_i45 (v := 3)]
        exact t249 0 Gm
    · obtain ⟨G1, M1, bt1, ty, a1, a2, a3, a4, a5, a6, a7⟩ := h.sym (t := 10) (by omega) (by omega)
      have hty : ty ≤ 3 := by have : zx_cnt 10 = 4 := rfl; omega
      have hc0 : ¬ nI q = 0 := nI_ne0 (by omega) (by omega)
      refine ⟨zx_up G1 20 (4 * n + 3) (nI ty), zx_up M1 45 (4 * (n + 1) + 3) (nI ty), bt1, ty, hty, a4, fun k => ?_, ?_, a5.tell ty, (zp_ur (by omega)).trans a6, (zp_ur (by omega)).trans a7⟩
      · rw [f_T_readBlock_156, zp_pos (by decide), q1, zp_neg hc0, zp_bd (show f_C_readSymbol (10 : Int32) Gc = _ from a2)]
        exact t227 ty G1
      · unfold f_M_readBlock_220
        rw [q2, zp_neg hc0, q3, show ((4 : Int32) * nI (n + 1)) + (3 : Int32) = nI (4 * (n + 1) + 3) from zt_i45 (v := 3), zp_bd (show f_M_symbol (10 : Int32) Gm = _ from a3)]
        exact t249 ty M1
  have t190 : ∀ (k x8 : Nat) (v : Int32) (G : zx_G), x8 < 3 → f_T_readBlock_190 (f_T_readBlock_156 k) (nI n) (nI md1) (nI x8) (nI x8) v G = f_T_readBlock_156 k (nI n) (nI md1) (nI (x8 + 1)) (zx_up G 22 x8 v) := fun k x8 v G h1 => by
    unfold f_T_readBlock_190
    rw [zp_gd (zp_in h1 (by omega)), zp_lt, zp_lt, zp_cl (by omega), nI_1]
  have m37 : Gm 32 37 = nI (n + 1) := by rw [h.2.2.2.1 37 (by omega)]; exact hm
  have w2 : Gm 45 (4 * (n + 1) + 2) = nI md1 := by rw [(h.2.2.2.2.2.2 2 (by omega)).2, hV2]
  by_cases c6 : md1 = 6
  · -- two shares are read
    obtain ⟨G1, M1, bt1, x, a1, a2, a3, a4, a5, a6, a7⟩ := h.sym (t := 7) (by omega) (by omega)
    have b5 := a5.share (Gc' := zx_up G1 22 1 (nI x - (3 : Int32))) (Gm' := zx_up M1 46 0 (nI x - (3 : Int32))) (fun r hr => zp_ur hr) (fun r hr => zp_ur hr)
    obtain ⟨G2, M2, bt2, x', c1, c2, c3, c4, c5, c6', c7⟩ := b5.sym (t := 7) (by omega) (by omega)
    have d5 := c5.share (Gc' := zx_up G2 22 2 (nI x' - (3 : Int32))) (Gm' := zx_up M2 46 1 (nI x' - (3 : Int32))) (fun r hr => zp_ur hr) (fun r hr => zp_ur hr)
    obtain ⟨G3, M3, bt3, ty, e1, e2, e3, e4, e5, e6', e7⟩ := fin bt2 _ _ d5 (by omega)
    have step : ∀ (k i : Nat) (M M' : zx_G) (x : Nat), i < 2 → M 32 37 = nI (n + 1) → M 45 (4 * (n + 1) + 2) = nI md1 → f_M_symbol (nI 7) M = some (nI x, M') → f_M_readBlock_175 (k + 1) (nI (4 * bx)) (nI (4 * by_)) (nI (4 * b)) (nI (4 * by_ + bx)) (nI i) M = f_M_readBlock_175 k (nI (4 * bx)) (nI (4 * by_)) (nI (4 * b)) (nI (4 * by_ + bx)) (nI (i + 1)) (zx_up M' 46 i (nI x - (3 : Int32))) := by
      intro k i M M' x hi g1 g2 g3
      rw [f_M_readBlock_175, zp_neg (show ¬ (2 : Int32) ≤ nI i from nI_ge (b := 2) hi (by omega)), g1, show ((4 : Int32) * nI (n + 1)) + (2 : Int32) = nI (4 * (n + 1) + 2) from zt_i45 (v := 2), zp_gd (zp_in (by omega) (by omega)), zp_cl (by omega), g2, zp_neg (fun z => z (e6.mpr c6)), zp_bd (show f_M_symbol (7 : Int32) M = _ from g3), zp_gd (zp_in hi (by omega)), zp_lt, zp_lt, zp_cl (by omega), nI_1]
    refine ⟨G3, M3, bt3, ty, e1, by omega, ?_, ?_, e5, fun _ => ?_⟩
    · show f_T_readBlock_156 (2047 + 1) _ _ (nI 1) Gc = _
      rw [f_T_readBlock_156, zp_neg (by decide), zp_neg (fun z => z (e6.mpr c6)), zp_bd (show f_C_readSymbol (7 : Int32) Gc = _ from a2), t190 2047 1 _ _ (by omega)]
      show f_T_readBlock_156 (2046 + 1) _ _ (nI 2) _ = _
      rw [f_T_readBlock_156, zp_neg (by decide), zp_neg (fun z => z (e6.mpr c6)), zp_bd (show f_C_readSymbol (7 : Int32) _ = _ from c2), t190 2046 2 _ _ (by omega)]
      exact e3 2045
    · show f_M_readBlock_175 (2047 + 1) _ _ _ _ (nI 0) Gm = _
      rw [step 2047 0 Gm M1 x (by omega) m37 w2 a3]
      show f_M_readBlock_175 (2046 + 1) _ _ _ _ (nI 1) _ = _
      rw [step 2046 1 _ M2 x' (by omega) (by rw [b5.2.2.2.1 37 (by omega)]; exact hm) (by rw [(b5.2.2.2.2.2.2 2 (by omega)).2, hV2]) c3]
      show f_M_readBlock_175 (2045 + 1) _ _ _ _ (nI 2) _ = _
      rw [f_M_readBlock_175, zp_pos (by decide)]
      exact e4
    · rw [e7, e6', zp_us, zp_us, zp_uk (by omega), zp_uk (by omega), c7, c6', zp_us, zp_us]
      exact ⟨rfl, rfl⟩
  · have d5 := h.share (Gc' := zx_up (zx_up Gc 22 1 (0 : Int32)) 22 2 (0 : Int32)) (Gm' := Gm) (fun r hr => by rw [zp_ur hr, zp_ur hr]) (fun r hr => rfl)
    obtain ⟨G3, M3, bt3, ty, e1, e2, e3, e4, e5, e6', e7⟩ := fin bt _ _ d5 (by omega)
    refine ⟨G3, M3, bt3, ty, e1, by omega, ?_, ?_, e5, fun z => absurd z c6⟩
    · show f_T_readBlock_156 (2047 + 1) _ _ (nI 1) Gc = _
      rw [f_T_readBlock_156, zp_neg (by decide), zp_pos (show ¬ nI md1 = (6 : Int32) from fun z => c6 (e6.mp z)), t190 2047 1 _ _ (by omega)]
      show f_T_readBlock_156 (2046 + 1) _ _ (nI 2) _ = _
      rw [f_T_readBlock_156, zp_neg (by decide), zp_pos (show ¬ nI md1 = (6 : Int32) from fun z => c6 (e6.mp z)), t190 2046 2 _ _ (by omega)]
      exact e3 2045
    · show f_M_readBlock_175 (2047 + 1) _ _ _ _ (nI 0) Gm = _
      rw [f_M_readBlock_175, zp_neg (by decide), m37, show ((4 : Int32) * nI (n + 1)) + (2 : Int32) = nI (4 * (n + 1) + 2) from zt_i45 (v := 2), zp_gd (zp_in (by omega) (by omega)), zp_cl (by omega), w2, zp_pos (show ¬ nI md1 = (6 : Int32) from fun z => c6 (e6.mp z))]
      exact e4
