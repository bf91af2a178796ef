/-! loops over a row; the lines of the differences -/
/-- a loop that walks over the first N places of a row -/
theorem zd_map {R : Type} (L : Nat → Int32 → zx_G → Option R) (E : zx_G → Option R) (row N : Nat) (F : Nat → Int32 → Int32) (I : zx_G → Prop) (hI : ∀ G k x, I G → I (zx_up G row k x)) (hs : ∀ n i G, i < N → I G → L (n + 1) (nI i) G = L n (nI (i + 1)) (zx_up G row i (F i (G row i)))) (he : ∀ n G, I G → L (n + 1) (nI N) G = E G) :
    ∀ (rem i n : Nat) (G : zx_G), I G → i + rem = N → rem < n → ∃ G', L n (nI i) G = E G' ∧ I G' ∧ (∀ k, G' row k = if i ≤ k ∧ k < N then F k (G row k) else G row k) ∧ ∀ q, q ≠ row → G' q = G q := by
  intro rem
  induction rem with
  | zero =>
    intro i n G hG hi hn
    obtain ⟨n, rfl⟩ : ∃ k, n = k + 1 := ⟨n - 1, by omega⟩
    have : i = N := by omega
    subst this
    exact ⟨G, he n G hG, hG, fun k => by rw [if_neg (by omega)], fun _ _ => rfl⟩
  | succ rem ih =>
    intro i n G hG hi hn
    obtain ⟨n, rfl⟩ : ∃ k, n = k + 1 := ⟨n - 1, by omega⟩
    obtain ⟨G', a1, a2, a3, a4⟩ := ih (i + 1) n (zx_up G row i (F i (G row i))) (hI _ _ _ hG) (by omega) (by omega)
    refine ⟨G', by rw [hs n i G (by omega) hG]; exact a1, a2, fun k => ?_, fun q hq => by rw [a4 q hq, zp_ur hq]⟩
    rw [a3 k, zp_row, zp_upd]
    by_cases q1 : k = i
    · subst q1
      rw [if_neg (by omega), if_pos rfl, if_pos (by omega)]
    · rw [if_neg q1]
      by_cases q2 : i + 1 ≤ k ∧ k < N
      · rw [if_pos q2, if_pos (by omega)]
      · rw [if_neg q2, if_neg (by omega)]
/-- four places of a row are written -/
def zd_ln (V : Nat → Int32) (a st : Nat) (F : Nat → Int32) : Nat → Int32 := upd (upd (upd (upd V a (F 0)) (a + st) (F 1)) (a + 2 * st) (F 2)) (a + 3 * st) (F 3)
theorem zd_ix (a i st : Nat) : nI a + (nI i * nI st) = nI (a + i * st) := by rw [pk_mul, nI_add]
def zd_w (i j : Nat) : Int32 := zx_tab2 (4 * i + j)
/-- the class's line: plain or waves -/
def zd_FC (p : Int32) (l : Nat → Int32) (i : Nat) : Int32 := (if p = 0 then (((((2048 : Int32) + zd_w i 0 * l 0) + zd_w i 1 * l 1) + zd_w i 2 * l 2) + zd_w i 3 * l 3) else (2048 : Int32) + (5793 : Int32) * l i) >>> ((12 : Int32) &&& 31)
theorem zd_line73 {k36 : Int32 → Int32 → Int32 → Int32 → zx_G → Option (Int32 × zx_G)} {x1 x2 p : Int32} {i : Nat} (hi : i < 4) (G : zx_G) : f_D_transformLine_73 k36 2048 x1 x2 p (nI i) (2048 : Int32) (0 : Int32) G = f_D_transformLine_109 k36 x1 x2 p (nI i) (((((2048 : Int32) + zd_w i 0 * G 25 0) + zd_w i 1 * G 25 1) + zd_w i 2 * G 25 2) + zd_w i 3 * G 25 3) G := by
  have st : ∀ (n j : Nat) (x : Int32), j < 4 → f_D_transformLine_73 k36 (n + 1) x1 x2 p (nI i) x (nI j) G = f_D_transformLine_73 k36 n x1 x2 p (nI i) (x + zd_w i j * G 25 j) (nI (j + 1)) G := by
    intro n j x hj
    rw [f_D_transformLine_73, zp_neg (fun q => by have q2 := (zp_cle (c := (4 : Int32)) 4 rfl (by omega) (by omega)).mp q; omega), show ((4 : Int32) * nI i) + nI j = nI (4 * i + j) by rw [show (4 : Int32) = nI 4 from rfl, pk_mul, nI_add], zp_gd (zp_in (by omega) (by omega)), zp_gd (zp_in (by omega) (by omega)), zp_lt, zp_lt, zp_cl (by omega), zp_cl (by omega), nI_1]
    rfl
  show f_D_transformLine_73 k36 (2047 + 1) x1 x2 p (nI i) (2048 : Int32) (nI 0) G = _
  rw [st 2047 0 _ (by omega)]
  show f_D_transformLine_73 k36 (2046 + 1) x1 x2 p (nI i) _ (nI 1) G = _
  rw [st 2046 1 _ (by omega)]
  show f_D_transformLine_73 k36 (2045 + 1) x1 x2 p (nI i) _ (nI 2) G = _
  rw [st 2045 2 _ (by omega)]
  show f_D_transformLine_73 k36 (2044 + 1) x1 x2 p (nI i) _ (nI 3) G = _
  rw [st 2044 3 _ (by omega)]
  show f_D_transformLine_73 k36 (2043 + 1) x1 x2 p (nI i) _ (nI 4) G = _
  rw [f_D_transformLine_73, zp_pos (by decide)]
theorem zd_line {a st : Nat} (ha : a + 3 * st < 16) (p : Int32) (G : zx_G) : ∃ G', f_D_transformLine (nI a) (nI st) p G = some (0, G') ∧ G' 24 = zd_ln (G 24) a st (zd_FC p (fun j => G 24 (a + j * st))) := by
  have h109 : ∀ (k36 : Int32 → Int32 → Int32 → Int32 → zx_G → Option (Int32 × zx_G)) (i : Nat) (x : Int32) (G : zx_G), i < 4 → f_D_transformLine_109 k36 (nI a) (nI st) p (nI i) x G = k36 (nI a) (nI st) p (nI (i + 1)) (zx_up G 24 (a + i * st) (x >>> ((12 : Int32) &&& 31))) := by
    intro k36 i x G hi
    have hb : a + i * st < 16 := by
      have : i * st ≤ 3 * st := Nat.mul_le_mul_right _ (by omega)
      omega
    unfold f_D_transformLine_109
    rw [zd_ix, zp_gd (zp_in hb (by omega)), zp_lt, zp_lt, zp_cl (by omega), nI_1]
  have h36 : ∀ (n i : Nat) (G : zx_G), i < 4 → f_D_transformLine_36 (n + 1) (nI a) (nI st) p (nI i) G = f_D_transformLine_36 n (nI a) (nI st) p (nI (i + 1)) (zx_up G 24 (a + i * st) (zd_FC p (G 25) i)) := by
    intro n i G hi
    rw [f_D_transformLine_36, zp_neg (fun q => by have q2 := (zp_cle (c := (4 : Int32)) 4 rfl (by omega) (by omega)).mp q; omega), zp_lt]
    unfold zd_FC
    by_cases hp : p = 0
    · rw [zp_pos hp, zp_lt, zd_line73 hi, h109 _ _ _ _ hi, if_pos hp]
    · rw [zp_neg hp, zp_gd (zp_in hi (by omega)), zp_lt, h109 _ _ _ _ hi, zp_cl (by omega), if_neg hp]
  have h3 : ∀ (n i : Nat) (G : zx_G), i < 4 → f_D_transformLine_3 (n + 1) (nI a) (nI st) p (nI i) G = f_D_transformLine_3 n (nI a) (nI st) p (nI (i + 1)) (zx_up G 25 i (G 24 (a + i * st))) := by
    intro n i G hi
    have hb : a + i * st < 16 := by
      have : i * st ≤ 3 * st := Nat.mul_le_mul_right _ (by omega)
      omega
    rw [f_D_transformLine_3, zp_neg (fun q => by have q2 := (zp_cle (c := (4 : Int32)) 4 rfl (by omega) (by omega)).mp q; omega), zd_ix, zp_gd (zp_in hb (by omega)), zp_gd (zp_in hi (by omega)), zp_lt, zp_lt, zp_cl (by omega), zp_cl (by omega), nI_1]
  obtain ⟨G1, e1, e2, e3, e4⟩ : ∃ G1, f_D_transformLine (nI a) (nI st) p G = f_D_transformLine_36 2048 (nI a) (nI st) p (nI 0) G1 ∧ (∀ j, j < 4 → G1 25 j = G 24 (a + j * st)) ∧ G1 24 = G 24 ∧ True := by
    refine ⟨zx_up (zx_up (zx_up (zx_up G 25 0 (G 24 (a + 0 * st))) 25 1 (G 24 (a + 1 * st))) 25 2 (G 24 (a + 2 * st))) 25 3 (G 24 (a + 3 * st)), ?_, ?_, by rw [zp_ur (by omega), zp_ur (by omega), zp_ur (by omega), zp_ur (by omega)], trivial⟩
    · unfold f_D_transformLine
      rw [zp_lt]
      show f_D_transformLine_3 (2047 + 1) _ _ _ (nI 0) _ = _
      rw [h3 2047 0 _ (by omega)]
      show f_D_transformLine_3 (2046 + 1) _ _ _ (nI 1) _ = _
      rw [h3 2046 1 _ (by omega), zp_ur (p' := 24) (by omega)]
      show f_D_transformLine_3 (2045 + 1) _ _ _ (nI 2) _ = _
      rw [h3 2045 2 _ (by omega), zp_ur (p' := 24) (by omega), zp_ur (p' := 24) (by omega)]
      show f_D_transformLine_3 (2044 + 1) _ _ _ (nI 3) _ = _
      rw [h3 2044 3 _ (by omega), zp_ur (p' := 24) (by omega), zp_ur (p' := 24) (by omega), zp_ur (p' := 24) (by omega)]
      show f_D_transformLine_3 (2043 + 1) _ _ _ (nI 4) _ = _
      rw [f_D_transformLine_3, zp_pos (by decide), zp_lt]
      rfl
    · intro j hj
      have : j = 0 ∨ j = 1 ∨ j = 2 ∨ j = 3 := by omega
      rcases this with rfl | rfl | rfl | rfl <;> simp [zp_at]
  have eF : ∀ (H : zx_G), H 25 = G1 25 → ∀ i, i < 4 → zd_FC p (H 25) i = zd_FC p (fun j => G 24 (a + j * st)) i := by
    intro H hH i hi
    unfold zd_FC
    rw [hH, e2 0 (by omega), e2 1 (by omega), e2 2 (by omega), e2 3 (by omega), e2 i hi]
  refine ⟨zx_up (zx_up (zx_up (zx_up G1 24 (a + 0 * st) (zd_FC p (fun j => G 24 (a + j * st)) 0)) 24 (a + 1 * st) (zd_FC p (fun j => G 24 (a + j * st)) 1)) 24 (a + 2 * st) (zd_FC p (fun j => G 24 (a + j * st)) 2)) 24 (a + 3 * st) (zd_FC p (fun j => G 24 (a + j * st)) 3), ?_, ?_⟩
  · rw [e1]
    show f_D_transformLine_36 (2047 + 1) _ _ _ (nI 0) _ = _
    rw [h36 2047 0 _ (by omega), eF G1 rfl 0 (by omega)]
    show f_D_transformLine_36 (2046 + 1) _ _ _ (nI 1) _ = _
    rw [h36 2046 1 _ (by omega), eF _ (by rw [zp_ur (by omega)]) 1 (by omega)]
    show f_D_transformLine_36 (2045 + 1) _ _ _ (nI 2) _ = _
    rw [h36 2045 2 _ (by omega), eF _ (by rw [zp_ur (by omega), zp_ur (by omega)]) 2 (by omega)]
    show f_D_transformLine_36 (2044 + 1) _ _ _ (nI 3) _ = _
    rw [h36 2044 3 _ (by omega), eF _ (by rw [zp_ur (by omega), zp_ur (by omega), zp_ur (by omega)]) 3 (by omega)]
    show f_D_transformLine_36 (2043 + 1) _ _ _ (nI 4) _ = _
    rw [f_D_transformLine_36, zp_pos (by decide)]
  · rw [zp_row, zp_row, zp_row, zp_row, e3]
    unfold zd_ln
    rw [Nat.zero_mul, Nat.one_mul]
    rfl
