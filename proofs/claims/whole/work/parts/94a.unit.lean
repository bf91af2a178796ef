/-! one unit: both predictions, the reference's writing -/
theorem zt_place (p x y : Nat) (G : zx_G) : f_P_placeOf (nI p) (nI x) (nI y) G = some (nI (256 * p + 16 * y + x), G) := by
  unfold f_P_placeOf
  rw [show nI p * (256 : Int32) = nI (p * 256) from pk_mul p 256, show nI y * (16 : Int32) = nI (y * 16) from pk_mul y 16, nI_add, nI_add, Nat.mul_comm p 256, Nat.mul_comm y 16]
theorem zt_mid {t : Nat} (ht : t ≤ 1) {v : Int32} (hv : v = nI (ze_top t)) : (v + (1 : Int32)) >>> ((1 : Int32) &&& 31) = nI (if t = 1 then 512 else 128) := by
  rw [hv, nI_1, show nI (ze_top t + 1) >>> ((1 : Int32) &&& 31) = nI ((ze_top t + 1) / 2 ^ 1) from pk_shrN (by have := ze_top_le t; omega) _ 1 (by decide)]
  unfold ze_top
  by_cases c : t = 1
  · rw [if_pos c, if_pos c]
  · rw [if_neg c, if_neg c]
theorem zt_pair {p x y md t c : Nat} {u l : Nat → Nat} {Gc Gm : zx_G} (hp : p ≤ 2) (hx : x ≤ 12) (hy : y ≤ 12) (ht : t ≤ 1) (hmd : md ≤ 6) (hT : Gc 17 4 = nI (ze_top t)) (h17 : Gm 32 17 = nI t) (hAc : zl_A (Gc 18) p x y u l c) (hAm : zl_A (Gm 42) p x y u l c) (hu : ∀ k, u k ≤ 1023) (hl : ∀ k, l k ≤ 1023) (hc : c ≤ 1023) (sh : Int32) :
    ∃ (Gc1 Gm1 : zx_G) (V : Nat → Int32), f_E_make (nI p) (nI x) (nI y) (nI md) sh Gc = some (0, Gc1) ∧ (∀ k, k < 16 → Gc1 27 k = zt_Pq md (Gc 17 4) sh (Gc 18) (16 * y + x) V k) ∧ f_M_edges (nI (256 * p)) (nI x) (nI y) Gm = some (0, Gm1) ∧ ∀ k, k < 16 → f_M_predicted (nI (if md = 6 then 0 else md)) (nI (k % 4)) (nI (k / 4)) Gm1 = some (V k, Gm1) := by
  obtain ⟨h, hh, hh2⟩ : ∃ h : Nat, h = (if t = 1 then 512 else 128) ∧ h ≤ 1023 := ⟨_, rfl, by split <;> omega⟩
  obtain ⟨G1, a1, a2, a3, a4⟩ := zl_look (h := h) hp hx hy (by rw [hh]; exact zt_mid ht hT) hAc
  obtain ⟨M1, b1, b2, b3, b4⟩ := zl_edges hp hx hy ht h17 hAm
  rw [← hh] at b2 b3 b4
  have ba : ∀ k, zl_a x y h u l k ≤ 1023 := fun k => by
    have h1 := hu k
    have h2 := hl 0
    unfold zl_a
    split
    · split <;> omega
    · omega
  have bl : ∀ k, zl_l x y h u l k ≤ 1023 := fun k => by
    have h1 := hu 0
    have h2 := hl k
    unfold zl_l
    split
    · split <;> omega
    · omega
  have bc : zl_c x y h u l c ≤ 1023 := by
    have h1 := hu 0
    have h2 := hl 0
    unfold zl_c
    split
    · split <;> omega
    · split <;> omega
  obtain ⟨G2, c1, c2, c3, c4⟩ := ze_mean (x2 := nI x) (x3 := nI y) (x4 := nI md) (x5 := sh) (G := G1) (fun j hj => ⟨ba j, a2 j hj⟩) (fun j hj => ⟨bl j, a3 j hj⟩)
  have hR : ze_R G2 M1 := ⟨zl_a x y h u l, zl_l x y h u l, zl_c x y h u l c, fun j hj => ⟨ba j, by rw [c2 28 (by omega)]; exact a2 j hj, b2 j hj⟩, fun j hj => ⟨bl j, by rw [c2 29 (by omega)]; exact a3 j hj, b3 j hj⟩, bc, by rw [c3 4 (by omega)]; exact a4, b4, by rw [c4, c2 28 (by omega), c2 29 (by omega)]⟩
  have hV : ∀ k : Nat, ∃ r : Int32, k < 16 → f_E_predicted (nI md) (nI (k % 4)) (nI (k / 4)) G2 = some (r, G2) ∧ f_M_predicted (nI (if md = 6 then 0 else md)) (nI (k % 4)) (nI (k / 4)) M1 = some (r, M1) := fun k => by
    by_cases hk : k < 16
    · obtain ⟨r, h1, h2⟩ := ze_pred (i := k % 4) (j := k / 4) hR hmd (by omega) (by omega)
      exact ⟨r, fun _ => ⟨h1, h2⟩⟩
    · exact ⟨0, fun q => absurd q hk⟩
  obtain ⟨V, hV⟩ := Classical.axiomOfChoice hV
  obtain ⟨G3, d1, d2, d3⟩ := ze_fill (x2 := nI x) (x3 := nI y) (x5 := sh) (V := V) (fun k hk => (hV k hk).1)
  have w1 := w_E_look _ _ _ _ a1
  have pre : f_E_make (nI p) (nI x) (nI y) (nI md) sh Gc = zx_if (¬ nI md = (6 : Int32)) (f_E_make_117 G3) (zx_bd (f_P_placeOf (0 : Int32) (nI x) (nI y) G3) fun r_4 G_3 => zx_bd (f_E_addShare r_4 sh G_3) fun r_7 G_6 => f_E_make_117 G_6) := by
    unfold f_E_make
    rw [zp_bd a1, zp_lt, zp_lt, c1, d1]
  have h6 : nI md = (6 : Int32) ↔ md = 6 := zp_eqc (c := (6 : Int32)) 6 rfl (by omega) (by omega)
  by_cases c6 : md = 6
  · obtain ⟨G4, e1, e2, e3⟩ := zt_share (b := 16 * y + x) (by omega) sh G3
    refine ⟨G4, M1, V, ?_, fun k hk => ?_, b1, fun k hk => (hV k hk).2⟩
    · rw [pre, zp_neg (fun z => z (h6.mpr c6)), zp_bd (show f_P_placeOf (0 : Int32) (nI x) (nI y) G3 = _ from zt_place 0 x y G3), show 256 * 0 + 16 * y + x = 16 * y + x by omega, zp_bd e1]
      rfl
    · rw [e2 k hk, d3 17 (by omega), d3 18 (by omega), c2 17 (by omega), c2 18 (by omega), w1 17 (by decide), w1 18 (by decide)]
      unfold zt_Pq
      rw [if_pos rfl, if_pos c6, d2 k hk]
  · refine ⟨G3, M1, V, ?_, fun k hk => ?_, b1, fun k hk => (hV k hk).2⟩
    · rw [pre, zp_pos (show ¬ nI md = (6 : Int32) from fun z => c6 (h6.mp z))]
      rfl
    · rw [d2 k hk]
      unfold zt_Pq
      rw [if_neg c6]
theorem zt_ixM (y x i : Nat) (hi : i < 16) : (((16 : Int32) * (nI y + nI (i / 4))) + nI x) + nI (i % 4) = nI (zt_at (16 * y + x) i) := by
  rw [nI_add, show (16 : Int32) * nI (y + i / 4) = nI (16 * (y + i / 4)) from pk_mul 16 _, nI_add, nI_add]
  unfold zt_at
  congr 1
  omega
theorem zt_ixM2 (p y x i : Nat) (hi : i < 16) : ((((256 : Int32) * nI p) + ((16 : Int32) * (nI y + nI (i / 4)))) + nI x) + nI (i % 4) = nI (zt_at (256 * p + 16 * y + x) i) := by
  rw [nI_add, show (16 : Int32) * nI (y + i / 4) = nI (16 * (y + i / 4)) from pk_mul 16 _, show (256 : Int32) * nI p = nI (256 * p) from pk_mul 256 p, nI_add, nI_add, nI_add]
  unfold zt_at
  congr 1
  omega
theorem zt_div4 {i : Nat} (hi : i < 16) : zx_div (nI i) (4 : Int32) = nI (i / 4) := pk_div (d := 4) (by omega) (by omega) (by omega)
theorem zt_rem4 {i : Nat} (hi : i < 16) : zx_rem (nI i) (4 : Int32) = nI (i % 4) := pk_rem (d := 4) (by omega) (by omega) (by omega)
theorem zt_sumM {x y : Nat} (hx : x ≤ 12) (hy : y ≤ 12) (x1 x4 : Int32) (G : zx_G) : f_M_piece_70 2048 x1 (nI x) (nI y) x4 (8 : Int32) (0 : Int32) G = f_M_piece_112 2048 x1 (nI x) (nI y) x4 (zt_sum (G 42) (16 * y + x) 16) (0 : Int32) G := by
  have sumL : ∀ (rem i n : Nat), i + rem = 16 → rem < n → f_M_piece_70 n x1 (nI x) (nI y) x4 (zt_sum (G 42) (16 * y + x) i) (nI i) G = f_M_piece_112 2048 x1 (nI x) (nI y) x4 (zt_sum (G 42) (16 * y + x) 16) (0 : Int32) G := by
    intro rem
    induction rem with
    | zero =>
      intro i n hi hn
      obtain ⟨n, rfl⟩ : ∃ k, n = k + 1 := ⟨n - 1, by omega⟩
      have : i = 16 := by omega
      subst this
      rw [f_M_piece_70, zp_pos (by decide), zp_lt]
    | succ rem ih =>
      intro i n hi hn
      obtain ⟨n, rfl⟩ : ∃ k, n = k + 1 := ⟨n - 1, by omega⟩
      have hat : zt_at (16 * y + x) i < 768 := zt_at_lt (by omega) (by omega)
      rw [f_M_piece_70, zp_neg (zd_c16 (by omega)), zp_gd (by decide), zp_gd (by decide), zt_div4 (by omega), zt_rem4 (by omega), zt_ixM y x i (by omega), zp_gd (zp_in hat (by omega)), zp_lt, zp_lt, zp_cl (by omega), nI_1]
      exact ih (i + 1) n (by omega) (by omega)
  exact sumL 16 0 2048 (by omega) (by omega)
/-- the reference's 16 samples of a unit -/
theorem zt_piece {p x y md t : Nat} {sh : Int32} {V : Nat → Int32} {G : zx_G} (hp : p ≤ 2) (hx : x ≤ 12) (hy : y ≤ 12) (ht : t ≤ 1) (hmd : md ≤ 6) (h17 : G 32 17 = nI t) (hV : ∀ k, k < 16 → f_M_predicted (nI (if md = 6 then 0 else md)) (nI (k % 4)) (nI (k / 4)) G = some (V k, G)) (h6 : md = 6 → 1 ≤ p ∧ G 46 (p - 1) = sh) :
    ∃ G', f_M_piece_70 2048 (nI p) (nI x) (nI y) (nI md) (8 : Int32) (0 : Int32) G = some (0, G') ∧ (∀ k, k < 16 → G' 42 (zt_at (256 * p + 16 * y + x) k) = zt_lim (nI (ze_top t)) (zt_Pq md (nI (ze_top t)) sh (G 42) (16 * y + x) V k + G 47 k)) ∧ (∀ q, q ≠ 42 → G' q = G q) ∧ ∀ j, (∀ k, k < 16 → j ≠ zt_at (256 * p + 16 * y + x) k) → G' 42 j = G 42 j := by
  have e6 : nI md = (6 : Int32) ↔ md = 6 := zp_eqc (c := (6 : Int32)) 6 rfl (by omega) (by omega)
  have hat : ∀ k, k < 16 → zt_at (256 * p + 16 * y + x) k < 768 := fun k hk => zt_at_lt hk (by omega)
  have hat0 : ∀ k, k < 16 → zt_at (16 * y + x) k < 256 := fun k hk => zt_at_lt hk (by omega)
  obtain ⟨G', a1, -, a3, a4, a5⟩ := zt_put (fun n i H => f_M_piece_112 n (nI p) (nI x) (nI y) (nI md) (zt_sum (G 42) (16 * y + x) 16) i H) (fun H => some (0, H)) 42 16 (zt_at (256 * p + 16 * y + x)) (fun k => zt_lim (nI (ze_top t)) (zt_Pq md (nI (ze_top t)) sh (G 42) (16 * y + x) V k + G 47 k)) (zt_at_inj _) (fun H => (∀ q, q ≠ 42 → H q = G q) ∧ (md = 6 → ∀ j, j < 256 → H 42 j = G 42 j))
    (fun H k _ h => ⟨fun q hq => by rw [zp_ur hq]; exact h.1 q hq, fun h1 j hj => by
      have h2 := (h6 h1).1
      have h3 : ¬ j = zt_at (256 * p + 16 * y + x) k := by unfold zt_at; omega
      rw [zp_uk h3]
      exact h.2 h1 j hj⟩)
    (fun n i H hi hH => by
      show f_M_piece_112 (n + 1) _ _ _ _ _ (nI i) H = f_M_piece_112 n _ _ _ _ _ (nI (i + 1)) _
      have pr : f_M_predicted (nI (if md = 6 then 0 else md)) (nI (i % 4)) (nI (i / 4)) H = some (V i, H) := by
        rw [ze_predM _ _ _ (by rw [hH.1 32 (by omega)]) (hH.1 49 (by omega)) (hH.1 50 (by omega)), hV i hi]
        rfl
      have wi : ∀ v, f_M_within v H = some (zt_lim (nI (ze_top t)) v, H) := fun v => (zt_within ht (by rw [hH.1 32 (by omega)]; exact h17) v).1
      have t212 : ∀ v x5, f_M_piece_212 (f_M_piece_112 n) (nI p) (nI x) (nI y) (nI md) x5 (nI i) (nI (i % 4)) (nI (i / 4)) v H = f_M_piece_112 n (nI p) (nI x) (nI y) (nI md) x5 (nI (i + 1)) (zx_up H 42 (zt_at (256 * p + 16 * y + x) i) (zt_lim (nI (ze_top t)) (v + G 47 i))) := by
        intro v x5
        unfold f_M_piece_212
        rw [zp_lt, zp_gd (zp_in hi (by omega)), zp_bd (wi _), zt_ixM2 p y x i hi, zp_gd (zp_in (hat i hi) (by omega)), zp_lt, zp_lt, zp_cl (j := i) (by omega), zp_cl (j := zt_at (256 * p + 16 * y + x) i) (by have := hat i hi; omega), hH.1 47 (by omega), nI_1]
      rw [f_M_piece_112, zp_neg (zd_c16 hi), zp_gd (by decide), zp_lt, zp_gd (by decide), zp_lt, zt_div4 hi, zt_rem4 hi, zt_ixM y x i hi, zp_gd (zp_in (j := zt_at (16 * y + x) i) (N := 768) (by have := hat0 i hi; omega) (by omega)), zp_lt, zp_cl (by have := hat0 i hi; omega)]
      by_cases c6 : md = 6
      · obtain ⟨hp1, hsh⟩ := h6 c6
        rw [if_pos c6] at pr
        have hpn : ¬ nI p = 0 := nI_ne0 (by omega) (by omega)
        rw [zp_neg (fun z => z (e6.mpr c6)), zp_bd (show f_M_predicted (0 : Int32) (nI (i % 4)) (nI (i / 4)) H = _ from pr), zp_pos hpn]
        unfold f_M_piece_182
        rw [show nI p - (1 : Int32) = nI (p - 1) from pk_sub (b := 1) (by omega), zp_gd (zp_in (by omega) (by omega)), zp_bd (wi _), t212, zp_cl (by omega), hH.1 46 (by omega), hsh, hH.2 c6 _ (hat0 i hi)]
        unfold zt_Pq
        rw [if_pos c6]
      · rw [if_neg c6] at pr
        rw [zp_pos (show ¬ nI md = (6 : Int32) from fun z => c6 (e6.mp z)), zp_bd pr, t212]
        unfold zt_Pq
        rw [if_neg c6])
    (fun n H _ => by
      show f_M_piece_112 (n + 1) _ _ _ _ _ (nI 16) H = _
      rw [f_M_piece_112, zp_pos (by decide)]) 16 0 2048 G ⟨fun _ _ => rfl, fun _ _ _ => rfl⟩ (by omega) (by omega)
  refine ⟨G', ?_, fun k hk => a3 k (by omega) hk, a4, fun j hj => a5 j (fun k _ h => hj k h)⟩
  rw [zt_sumM hx hy]
  exact a1
