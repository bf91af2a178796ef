/-! one unit: the luma's share, the mending -/
/-- a loop that writes the places pos 0 .. pos (N - 1) of a row -/
theorem zt_put {R : Type} (L : Nat → Int32 → zx_G → Option R) (E : zx_G → Option R) (row N : Nat) (pos : Nat → Nat) (W : Nat → Int32) (hinj : ∀ i j, i < N → j < N → pos i = pos j → i = j) (I : zx_G → Prop) (hI : ∀ G k, k < N → I G → I (zx_up G row (pos k) (W k))) (hs : ∀ n i G, i < N → I G → L (n + 1) (nI i) G = L n (nI (i + 1)) (zx_up G row (pos i) (W i))) (he : ∀ n G, I G → L (n + 1) (nI N) G = E G) :
    ∀ (rem i n : Nat) (G : zx_G), I G → i + rem = N → rem < n → ∃ G', L n (nI i) G = E G' ∧ I G' ∧ (∀ k, i ≤ k → k < N → G' row (pos k) = W k) ∧ (∀ q, q ≠ row → G' q = G q) ∧ ∀ j, (∀ k, i ≤ k → k < N → j ≠ pos k) → G' row j = G row j := by
  intro rem
  induction rem with
  | zero =>
    intro i n G hG hi hn
    obtain ⟨n, rfl⟩ : ∃ k, n = k + 1 := ⟨n - 1, by omega⟩
    have : i = N := by omega
    subst this
    exact ⟨G, he n G hG, hG, fun k h1 h2 => by omega, fun _ _ => rfl, fun _ _ => rfl⟩
  | succ rem ih =>
    intro i n G hG hi hn
    obtain ⟨n, rfl⟩ : ∃ k, n = k + 1 := ⟨n - 1, by omega⟩
    obtain ⟨G', a1, a2, a3, a4, a5⟩ := ih (i + 1) n (zx_up G row (pos i) (W i)) (hI _ _ (by omega) hG) (by omega) (by omega)
    refine ⟨G', by rw [hs n i G (by omega) hG]; exact a1, a2, fun k h1 h2 => ?_, fun q hq => by rw [a4 q hq, zp_ur hq], fun j hj => ?_⟩
    · by_cases q1 : k = i
      · subst q1
        rw [a5 (pos k) (fun k' h3 h4 he => by have := hinj _ _ (by omega) h4 he; omega), zp_us]
      · exact a3 k (by omega) h2
    · rw [a5 j (fun k h3 h4 => hj k (by omega) h4), zp_uk (hj i (by omega) (by omega))]
def zt_at (b k : Nat) : Nat := b + 16 * (k / 4) + k % 4
theorem zt_at_inj (b : Nat) : ∀ i j, i < 16 → j < 16 → zt_at b i = zt_at b j → i = j := by
  intro i j h1 h2 h3
  unfold zt_at at h3
  omega
theorem zt_at_lt {b k N : Nat} (hk : k < 16) (hb : b + 51 < N) : zt_at b k < N := by unfold zt_at; omega
def zt_sum (S : Nat → Int32) (b : Nat) : Nat → Int32
  | 0 => 8
  | k + 1 => zt_sum S b k + S (zt_at b k)
theorem zt_sum_eq {S T : Nat → Int32} {b : Nat} (h : ∀ k, k < 16 → S (zt_at b k) = T (zt_at b k)) : ∀ k, k ≤ 16 → zt_sum S b k = zt_sum T b k := by
  intro k
  induction k with
  | zero => intro _; rfl
  | succ k ih => intro hk; show zt_sum S b k + _ = zt_sum T b k + _; rw [ih (by omega), h k (by omega)]
def zt_lim (T v : Int32) : Int32 := zx_mmax (0 : Int32) (zx_mmin T v)
theorem zt_limC (v : Int32) (G : zx_G) : f_P_limited v G = some (zt_lim (G 17 4) v, G) := rfl
theorem zt_within {t : Nat} {Gm : zx_G} (ht : t ≤ 1) (h2 : Gm 32 17 = nI t) (v : Int32) : f_M_within v Gm = some (zt_lim (nI (ze_top t)) v, Gm) ∧ ∃ w, w ≤ ze_top t ∧ zt_lim (nI (ze_top t)) v = nI w := by
  obtain ⟨w, h3, h4, h5⟩ := ze_lim (Gc := fun _ _ => nI (ze_top t)) ht rfl h2 v
  rw [zt_limC] at h4
  have h6 : zt_lim (nI (ze_top t)) v = nI w := congrArg (fun o : Option (Int32 × zx_G) => (o.getD (0, Gm)).1) h4
  exact ⟨by rw [h6]; exact h5, w, h3, h6⟩
/-- the value of a sample ahead of its difference -/
def zt_Pq (md : Nat) (T sh : Int32) (S : Nat → Int32) (b : Nat) (V : Nat → Int32) (k : Nat) : Int32 := if md = 6 then zt_lim T (V k + (((sh * (S (zt_at b k) - (zt_sum S b 16 >>> ((4 : Int32) &&& 31)))) + (2 : Int32)) >>> ((2 : Int32) &&& 31))) else V k
theorem zt_ixC (b i : Nat) (hi : i < 16) : (nI b + ((nI i >>> ((2 : Int32) &&& 31)) * (16 : Int32))) + (nI i &&& (3 : Int32)) = nI (zt_at b i) := by
  rw [show nI i &&& (3 : Int32) = nI (i % 4) from pk_andN (by omega) 2 rfl, show nI i >>> ((2 : Int32) &&& 31) = nI (i / 4) from pk_shrN (by omega) _ 2 (by decide), show nI (i / 4) * (16 : Int32) = nI (i / 4 * 16) from pk_mul _ 16, nI_add, nI_add]
  unfold zt_at
  rw [Nat.mul_comm (i / 4) 16]
theorem zt_share {b : Nat} (hb : b + 51 < 768) (sh : Int32) (G : zx_G) : ∃ G', f_E_addShare (nI b) sh G = some (0, G') ∧ (∀ k, k < 16 → G' 27 k = zt_Pq 6 (G 17 4) sh (G 18) b (G 27) k) ∧ ∀ q, q ≠ 27 → G' q = G q := by
  have sumL : ∀ (rem i n : Nat), i + rem = 16 → rem < n → f_E_addShare_15 n (nI b) sh (zt_sum (G 18) b i) (nI i) G = f_E_addShare_58 2048 (nI b) sh (zt_sum (G 18) b 16 >>> ((4 : Int32) &&& 31)) (0 : Int32) G := by
    intro rem
    induction rem with
    | zero =>
      intro i n hi hn
      obtain ⟨n, rfl⟩ : ∃ k, n = k + 1 := ⟨n - 1, by omega⟩
      have : i = 16 := by omega
      subst this
      rw [f_E_addShare_15, zp_pos (by decide), zp_lt, zp_lt]
    | succ rem ih =>
      intro i n hi hn
      obtain ⟨n, rfl⟩ : ∃ k, n = k + 1 := ⟨n - 1, by omega⟩
      rw [f_E_addShare_15, zp_neg (zd_c16 (by omega)), zt_ixC b i (by omega), zp_gd (zp_in (zt_at_lt (by omega) hb) (by omega)), zp_lt, zp_lt, zp_cl (Nat.lt_trans (zt_at_lt (by omega) hb) (by omega)), nI_1]
      exact ih (i + 1) n (by omega) (by omega)
  obtain ⟨G', a1, -, a3, a4⟩ := zd_map (fun n x H => f_E_addShare_58 n (nI b) sh (zt_sum (G 18) b 16 >>> ((4 : Int32) &&& 31)) x H) (fun H => some (0, H)) 27 16 (fun i v => zt_lim (G 17 4) (v + (((sh * (G 18 (zt_at b i) - (zt_sum (G 18) b 16 >>> ((4 : Int32) &&& 31)))) + (2 : Int32)) >>> ((2 : Int32) &&& 31)))) (fun H => H 17 = G 17 ∧ H 18 = G 18) (fun H k x h => ⟨by rw [zp_ur (by omega)]; exact h.1, by rw [zp_ur (by omega)]; exact h.2⟩)
    (fun n i H hi hH => by
      show f_E_addShare_58 (n + 1) (nI b) sh _ (nI i) H = f_E_addShare_58 n (nI b) sh _ (nI (i + 1)) _
      rw [f_E_addShare_58, zp_neg (zd_c16 hi), zt_ixC b i hi, zp_gd (zp_in (zt_at_lt hi hb) (by omega)), zp_lt, zp_gd (zp_in hi (by omega)), zp_bd (zt_limC _ _), zp_gd (zp_in hi (by omega)), zp_lt, zp_lt, zp_cl (Nat.lt_trans (zt_at_lt hi hb) (by omega)), zp_cl (by omega), hH.1, hH.2, nI_1])
    (fun n H _ => by
      show f_E_addShare_58 (n + 1) (nI b) sh _ (nI 16) H = _
      rw [f_E_addShare_58, zp_pos (by decide)]) 16 0 2048 G ⟨rfl, rfl⟩ (by omega) (by omega)
  refine ⟨G', ?_, fun k hk => ?_, a4⟩
  · unfold f_E_addShare
    rw [zp_lt, zp_lt]
    exact (sumL 16 0 2048 (by omega) (by omega)).trans a1
  · rw [a3 k, if_pos (by omega)]
    unfold zt_Pq
    rw [if_pos rfl]
/-- the class's mending -/
theorem zt_mend {b : Nat} (hb : b + 51 < 768) (G : zx_G) : ∃ G', f_T_mend (nI b) G = some (0, G') ∧ (∀ k, k < 16 → G' 18 (zt_at b k) = zt_lim (G 17 4) (G 27 k + G 24 k)) ∧ (∀ q, q ≠ 18 → G' q = G q) ∧ ∀ j, (∀ k, k < 16 → j ≠ zt_at b k) → G' 18 j = G 18 j := by
  obtain ⟨G', a1, -, a3, a4, a5⟩ := zt_put (fun n x H => f_T_mend_2 n (nI b) x H) (fun H => some (0, H)) 18 16 (zt_at b) (fun k => zt_lim (G 17 4) (G 27 k + G 24 k)) (zt_at_inj b) (fun H => H 17 = G 17 ∧ H 27 = G 27 ∧ H 24 = G 24) (fun H k _ h => ⟨by rw [zp_ur (by omega)]; exact h.1, by rw [zp_ur (by omega)]; exact h.2.1, by rw [zp_ur (by omega)]; exact h.2.2⟩)
    (fun n i H hi hH => by
      show f_T_mend_2 (n + 1) (nI b) (nI i) H = f_T_mend_2 n (nI b) (nI (i + 1)) _
      rw [f_T_mend_2, zp_neg (zd_c16 hi), zt_ixC b i hi, zp_lt, zp_gd (zp_in hi (by omega)), zp_gd (zp_in hi (by omega)), zp_bd (zt_limC _ _), zp_gd (zp_in (zt_at_lt hi hb) (by omega)), zp_lt, zp_lt, zp_cl (Nat.lt_trans (zt_at_lt hi hb) (by omega)), zp_cl (by omega), hH.1, hH.2.1, hH.2.2, nI_1])
    (fun n H _ => by
      show f_T_mend_2 (n + 1) (nI b) (nI 16) H = _
      rw [f_T_mend_2, zp_pos (by decide)]) 16 0 2048 G ⟨rfl, rfl, rfl⟩ (by omega) (by omega)
  refine ⟨G', ?_, fun k hk => a3 k (by omega) hk, a4, fun j hj => a5 j (fun k _ h => hj k h)⟩
  unfold f_T_mend
  rw [zp_lt]
  exact a1
