/-! the filter: softening a plane; the whole filter -/
theorem zf_softC {p w h : Nat} {s : Int32} (hp : p ≤ 2) (hw : w ≤ 16) (hh : h ≤ 16) {B : zx_G} (h7 : B 11 7 = nI w) (h8 : B 11 8 = nI h) : ∃ G', f_F_soften (nI p) s B = some (0, G') ∧ (∀ x y, x < w → y < h → G' 18 (256 * p + 16 * y + x) = zf_soft s w h (fun a b => B 18 (256 * p + 16 * b + a)) x y) ∧ (∀ j, (∀ x y, x < w → y < h → j ≠ 256 * p + 16 * y + x) → G' 18 j = B 18 j) ∧ ∀ q, q ≠ 18 → q ≠ 31 → G' q = B q := by
  have copy : ∀ (rem y n : Nat) (G : zx_G), y + rem = h → rem < n → (∀ q, q ≠ 18 → q ≠ 31 → G q = B q) → (∀ x y', x < w → y' < h → G 31 (16 * y' + x) = zf_soft s w h (fun a b => B 18 (256 * p + 16 * b + a)) x y') → (∀ x y', x < w → y' < y → G 18 (256 * p + 16 * y' + x) = zf_soft s w h (fun a b => B 18 (256 * p + 16 * b + a)) x y') → (∀ j, (∀ x y, x < w → y < h → j ≠ 256 * p + 16 * y + x) → G 18 j = B 18 j) → ∃ G', f_F_soften_216 n (nI p) (nI y) G = some (0, G') ∧ (∀ x y, x < w → y < h → G' 18 (256 * p + 16 * y + x) = zf_soft s w h (fun a b => B 18 (256 * p + 16 * b + a)) x y) ∧ (∀ j, (∀ x y, x < w → y < h → j ≠ 256 * p + 16 * y + x) → G' 18 j = B 18 j) ∧ ∀ q, q ≠ 18 → q ≠ 31 → G' q = B q := by
    intro rem
    induction rem with
    | zero =>
      intro y n G hy hn i1 i2 i3 i4
      obtain ⟨n, rfl⟩ : ∃ k, n = k + 1 := ⟨n - 1, by omega⟩
      refine ⟨G, ?_, fun x y' h1 h2 => i3 x y' h1 (by omega), i4, i1⟩
      rw [f_F_soften_216, i1 11 (by omega) (by omega), h8, zp_pos (nI_le (by omega) (by omega))]
    | succ rem ih =>
      intro y n G hy hn i1 i2 i3 i4
      obtain ⟨n, rfl⟩ : ∃ k, n = k + 1 := ⟨n - 1, by omega⟩
      have g7 : G 11 7 = nI w := by rw [i1 11 (by omega) (by omega)]; exact h7
      have pl : f_P_placeOf (nI p) (0 : Int32) (nI y) G = some (nI (256 * p + 16 * y), G) := zt_place p 0 y G
      have e16 : nI y * (16 : Int32) = nI (16 * y) := by rw [show nI y * (16 : Int32) = nI (y * 16) from pk_mul y 16, Nat.mul_comm y 16]
      have cp : zx_cpok (nI (16 * y)) (nI (256 * p + 16 * y)) (nI w) 256 768 = true := by
        unfold zx_cpok
        rw [zp_cl (by omega), zp_cl (by omega), zp_cl (by omega)]
        exact decide_eq_true ⟨nI_pos (by omega), nI_pos (by omega), nI_pos (by omega), by omega, by omega⟩
      have c18 : ∀ j, zx_copy G 31 18 (nI (16 * y)) (nI (256 * p + 16 * y)) (nI w) 18 j = if 256 * p + 16 * y ≤ j ∧ j < 256 * p + 16 * y + w then G 31 (16 * y + (j - (256 * p + 16 * y))) else G 18 j := fun j => by
        unfold zx_copy
        rw [zp_cl (by omega), zp_cl (by omega), zp_cl (by omega)]
        simp [zx_upA, va_cpy]
      have cr : ∀ q, q ≠ 18 → zx_copy G 31 18 (nI (16 * y)) (nI (256 * p + 16 * y)) (nI w) q = G q := fun q hq => by
        unfold zx_copy
        simp [zx_upA, hq]
      obtain ⟨G', a1, a2, a3, a4⟩ := ih (y + 1) n (zx_copy G 31 18 (nI (16 * y)) (nI (256 * p + 16 * y)) (nI w)) (by omega) (by omega) (fun q h1 h2 => by rw [cr q h1]; exact i1 q h1 h2) (by rw [cr 31 (by omega)]; exact i2) (fun x y' h1 h2 => by
        rw [c18]
        by_cases c : y' = y
        · subst c
          rw [if_pos (by omega), show 256 * p + 16 * y' + x - (256 * p + 16 * y') = x by omega]
          exact i2 x y' h1 (by omega)
        · rw [if_neg (by omega)]
          exact i3 x y' h1 (by omega)) (fun j hj => by
        rw [c18, if_neg (fun z => hj (j - (256 * p + 16 * y)) y (by omega) (by omega) (by omega))]
        exact i4 j hj)
      refine ⟨G', ?_, a2, a3, a4⟩
      rw [f_F_soften_216, i1 11 (by omega) (by omega), h8, zp_neg (nI_ge (by omega) (by omega)), zp_bd pl, g7, e16, zp_gd cp, zp_lt, zp_lt, nI_1]
      exact a1
  have rows : ∀ (rem y n : Nat) (G : zx_G), y + rem = h → rem < n → (∀ q, q ≠ 31 → G q = B q) → (∀ x y', x < w → y' < y → G 31 (16 * y' + x) = zf_soft s w h (fun a b => B 18 (256 * p + 16 * b + a)) x y') → ∃ G', f_F_soften_11 n (nI p) s (nI y) G = some (0, G') ∧ (∀ x y, x < w → y < h → G' 18 (256 * p + 16 * y + x) = zf_soft s w h (fun a b => B 18 (256 * p + 16 * b + a)) x y) ∧ (∀ j, (∀ x y, x < w → y < h → j ≠ 256 * p + 16 * y + x) → G' 18 j = B 18 j) ∧ ∀ q, q ≠ 18 → q ≠ 31 → G' q = B q := by
    intro rem
    induction rem with
    | zero =>
      intro y n G hy hn i1 i2
      obtain ⟨n, rfl⟩ : ∃ k, n = k + 1 := ⟨n - 1, by omega⟩
      obtain ⟨G', a1, a2⟩ := copy h 0 2048 G (by omega) (by omega) (fun q _ h2 => i1 q h2) (fun x y' h1 h2 => i2 x y' h1 (by omega)) (fun x y' _ h2 => absurd h2 (by omega)) (fun j _ => by rw [i1 18 (by omega)])
      refine ⟨G', ?_, a2⟩
      rw [f_F_soften_11, i1 11 (by omega), h8, zp_pos (nI_le (by omega) (by omega)), zp_lt]
      exact a1
    | succ rem ih =>
      intro y n G hy hn i1 i2
      obtain ⟨n, rfl⟩ : ∃ k, n = k + 1 := ⟨n - 1, by omega⟩
      obtain ⟨G1, a1, a2, a3, a4, a5⟩ := zt_put (fun k i H => f_F_soften_26 (f_F_soften_11 n) k (nI p) s (nI y) i H) (fun H => f_F_soften_11 n (nI p) s (nI (y + 1)) H) 31 w (fun x => 16 * y + x) (fun x => zf_soft s w h (fun a b => B 18 (256 * p + 16 * b + a)) x y) (fun i j _ _ hij => by have hij' : 16 * y + i = 16 * y + j := hij; omega) (fun H => ∀ q, q ≠ 31 → H q = B q) (fun H k _ hH q hq => by rw [zp_ur hq]; exact hH q hq)
        (fun k i H hi hH => by
          show f_F_soften_26 (f_F_soften_11 n) (k + 1) (nI p) s (nI y) (nI i) H = f_F_soften_26 (f_F_soften_11 n) k (nI p) s (nI y) (nI (i + 1)) _
          rw [zf_px hp hw hh hi (by omega) _ (by rw [hH 11 (by omega)]; exact h7) (by rw [hH 11 (by omega)]; exact h8), hH 18 (by omega)])
        (fun k H hH => by
          show f_F_soften_26 (f_F_soften_11 n) (k + 1) (nI p) s (nI y) (nI w) H = _
          rw [f_F_soften_26, hH 11 (by omega), h7, zp_pos (nI_le (Nat.le_refl _) (by omega)), zp_lt, nI_1]) w 0 2048 G i1 (by omega) (by omega)
      obtain ⟨G', c1, c2⟩ := ih (y + 1) n G1 (by omega) (by omega) a2 (fun x y' h1 h2 => by
        by_cases c : y' = y
        · subst c
          exact a3 x (by omega) h1
        · rw [a5 _ (fun k _ hk => by show 16 * y' + x ≠ 16 * y + k; omega)]
          exact i2 x y' h1 (by omega))
      refine ⟨G', ?_, c2⟩
      rw [f_F_soften_11, i1 11 (by omega), h8, zp_neg (nI_ge (by omega) (by omega)), zp_lt]
      exact a1.trans c1
  obtain ⟨G', a1, a2⟩ := rows h 0 2048 B (by omega) (by omega) (fun _ _ => rfl) (fun x y' _ h2 => absurd h2 (by omega))
  refine ⟨G', ?_, a2⟩
  unfold f_F_soften
  rw [zp_lt]
  exact a1
theorem zf_pxM {p x y w h n t sg : Nat} (hp : p ≤ 2) (hw : w ≤ 16) (hh : h ≤ 16) (hx : x < w) (hy : y < h) (ht : t ≤ 1) (hsg : sg ≤ 1000) (k31 : Int32 → Int32 → zx_G → Option (Int32 × zx_G)) {G : zx_G} (h17 : G 32 17 = nI t) (h18 : G 32 18 = nI w) (h19 : G 32 19 = nI h) (h24 : G 32 24 = nI sg) (hb : ∀ a b, a < w → b < h → ∃ v, v ≤ 1023 ∧ G 43 (16 * b + a) = nI v) : f_M_soften_41 k31 (n + 1) (nI (256 * p)) (nI y) (nI x) G = f_M_soften_41 k31 n (nI (256 * p)) (nI y) (nI (x + 1)) (zx_up G 42 (256 * p + 16 * y + x) (zf_soft (nI (sg * zf_sc t)) w h (fun a b => G 43 (16 * b + a)) x y)) := by
  have lec : ∀ a : Nat, a < 16 → (nI a ≤ 0 ↔ a = 0) := fun a ha => by
    have := nI_leI (a := a) (b := 0) (by omega) (by omega)
    exact this.trans (by omega)
  have pull : ∀ a b, a < w → b < h → f_M_pull (G 43 (16 * b + a) - G 43 (16 * y + x)) G = some (zf_pull (nI (sg * zf_sc t)) (G 43 (16 * b + a) - G 43 (16 * y + x)), G) := fun a b h1 h2 => by
    obtain ⟨v1, e1, e2⟩ := hb a b h1 h2
    obtain ⟨v2, e3, e4⟩ := hb x y hx hy
    have d : (nI v1 - nI v2).toInt = (v1 : Int) - v2 := pk_sub_toInt (by omega) (by omega)
    refine zf_pullM ht hsg h17 h24 ?_
    rw [e2, e4, d]
    omega
  have ix : ((16 : Int32) * nI y) + nI x = nI (16 * y + x) := zk_idx y x
  have k202 : ∀ a b, f_M_soften_202 k31 (f_M_soften_41 k31 n) (nI (256 * p)) (nI y) (nI x) (G 43 (16 * y + x)) a b G = f_M_soften_41 k31 n (nI (256 * p)) (nI y) (nI (x + 1)) (zx_up G 42 (256 * p + 16 * y + x) (G 43 (16 * y + x) + (((a + b) + (2 : Int32)) >>> ((2 : Int32) &&& 31)))) := by
    intro a b
    unfold f_M_soften_202
    rw [zp_lt, show (16 : Int32) * nI y = nI (16 * y) from pk_mul 16 y, nI_add, nI_add, zp_gd (zp_in (by omega) (by omega)), zp_lt, zp_lt, zp_cl (by omega), nI_1]
  have k162 : ∀ a b, f_M_soften_162 k31 (f_M_soften_41 k31 n) (nI (256 * p)) (nI y) (nI x) (G 43 (16 * y + x)) a b G = f_M_soften_202 k31 (f_M_soften_41 k31 n) (nI (256 * p)) (nI y) (nI x) (G 43 (16 * y + x)) (a + b) (if h ≤ y + 1 then 0 else zf_pull (nI (sg * zf_sc t)) (G 43 (16 * (y + 1) + x) - G 43 (16 * y + x))) G := by
    intro a b
    unfold f_M_soften_162
    rw [zp_lt, nI_1, h19]
    by_cases c : h ≤ y + 1
    · rw [zp_pos (nI_le c (by omega)), if_pos c]
    · rw [zp_neg (nI_ge (by omega) (by omega)), if_neg c, ix, show nI (16 * y + x) + (16 : Int32) = nI (16 * y + x + 16) from nI_add _ 16, zp_gd (zp_in (by omega) (by omega)), zp_cl (by omega), show 16 * y + x + 16 = 16 * (y + 1) + x by omega, zp_bd (pull x (y + 1) hx (by omega))]
  have k128 : ∀ a b, f_M_soften_128 k31 (f_M_soften_41 k31 n) (nI (256 * p)) (nI y) (nI x) (G 43 (16 * y + x)) a b G = f_M_soften_162 k31 (f_M_soften_41 k31 n) (nI (256 * p)) (nI y) (nI x) (G 43 (16 * y + x)) (a + b) (if y = 0 then 0 else zf_pull (nI (sg * zf_sc t)) (G 43 (16 * (y - 1) + x) - G 43 (16 * y + x))) G := by
    intro a b
    unfold f_M_soften_128
    rw [zp_lt]
    by_cases c : y = 0
    · rw [zp_pos ((lec y (by omega)).mpr c), if_pos c]
    · rw [zp_neg (fun z => c ((lec y (by omega)).mp z)), if_neg c, ix, show nI (16 * y + x) - (16 : Int32) = nI (16 * y + x - 16) from pk_sub (b := 16) (by omega), zp_gd (zp_in (by omega) (by omega)), zp_cl (by omega), show 16 * y + x - 16 = 16 * (y - 1) + x by omega, zp_bd (pull x (y - 1) hx (by omega))]
  have k90 : ∀ a, f_M_soften_90 k31 (f_M_soften_41 k31 n) (nI (256 * p)) (nI y) (nI x) (G 43 (16 * y + x)) a G = f_M_soften_128 k31 (f_M_soften_41 k31 n) (nI (256 * p)) (nI y) (nI x) (G 43 (16 * y + x)) a (if w ≤ x + 1 then 0 else zf_pull (nI (sg * zf_sc t)) (G 43 (16 * y + (x + 1)) - G 43 (16 * y + x))) G := by
    intro a
    unfold f_M_soften_90
    rw [zp_lt, nI_1, h18]
    by_cases c : w ≤ x + 1
    · rw [zp_pos (nI_le c (by omega)), if_pos c]
    · rw [zp_neg (nI_ge (by omega) (by omega)), if_neg c, ix, nI_1, zp_gd (zp_in (by omega) (by omega)), zp_cl (by omega), show 16 * y + x + 1 = 16 * y + (x + 1) by omega, zp_bd (pull (x + 1) y (by omega) hy)]
  have k41 : f_M_soften_41 k31 (n + 1) (nI (256 * p)) (nI y) (nI x) G = f_M_soften_90 k31 (f_M_soften_41 k31 n) (nI (256 * p)) (nI y) (nI x) (G 43 (16 * y + x)) (if x = 0 then 0 else zf_pull (nI (sg * zf_sc t)) (G 43 (16 * y + (x - 1)) - G 43 (16 * y + x))) G := by
    rw [f_M_soften_41, h18, zp_neg (nI_ge hx (by omega)), ix, zp_gd (zp_in (by omega) (by omega)), zp_lt, zp_cl (by omega)]
    by_cases c : x = 0
    · rw [zp_pos ((lec x (by omega)).mpr c), if_pos c]
    · rw [zp_neg (fun z => c ((lec x (by omega)).mp z)), if_neg c, show nI (16 * y + x) - (1 : Int32) = nI (16 * y + x - 1) from pk_sub (b := 1) (by omega), zp_gd (zp_in (by omega) (by omega)), zp_cl (by omega), show 16 * y + x - 1 = 16 * y + (x - 1) by omega, zp_bd (pull (x - 1) y (by omega) hy)]
  rw [k41, k90, k128, k162, k202]
  rfl
theorem zf_softM {p w h t sg : Nat} (hp : p ≤ 2) (hw : w ≤ 16) (hh : h ≤ 16) (ht : t ≤ 1) (hsg : sg ≤ 1000) {B : zx_G} (h17 : B 32 17 = nI t) (h18 : B 32 18 = nI w) (h19 : B 32 19 = nI h) (h24 : B 32 24 = nI sg) (hb : ∀ a b, a < w → b < h → ∃ v, v ≤ 1023 ∧ B 42 (256 * p + 16 * b + a) = nI v) : ∃ G', f_M_soften (nI (256 * p)) B = some (0, G') ∧ (∀ x y, x < w → y < h → G' 42 (256 * p + 16 * y + x) = zf_soft (nI (sg * zf_sc t)) w h (fun a b => B 42 (256 * p + 16 * b + a)) x y) ∧ (∀ j, (∀ x y, x < w → y < h → j ≠ 256 * p + 16 * y + x) → G' 42 j = B 42 j) ∧ ∀ q, q ≠ 42 → q ≠ 43 → G' q = B q := by
  obtain ⟨A, a1, a2, a3, a4⟩ := zd_map (fun n x H => f_M_soften_2 n (nI (256 * p)) x H) (fun H => f_M_soften_31 2048 (nI (256 * p)) (0 : Int32) H) 43 256 (fun i _ => B 42 (256 * p + i)) (fun H => H 42 = B 42) (fun H k x hH => by rw [zp_ur (by omega)]; exact hH)
    (fun n i H hi hH => by
      show f_M_soften_2 (n + 1) (nI (256 * p)) (nI i) H = f_M_soften_2 n (nI (256 * p)) (nI (i + 1)) _
      rw [f_M_soften_2, zp_neg (show ¬ (256 : Int32) ≤ nI i from nI_ge (b := 256) hi (by omega)), nI_add, zp_gd (zp_in (by omega) (by omega)), zp_gd (zp_in hi (by omega)), zp_lt, zp_lt, zp_cl (by omega), zp_cl (by omega), hH, nI_1])
    (fun n H _ => by
      show f_M_soften_2 (n + 1) (nI (256 * p)) (nI 256) H = _
      rw [f_M_soften_2, zp_pos (by decide), zp_lt]) 256 0 2048 B rfl (by omega) (by omega)
  have a43 : ∀ a b, a < 16 → b < 16 → A 43 (16 * b + a) = B 42 (256 * p + 16 * b + a) := fun a b h1 h2 => by
    rw [a3, if_pos (by omega), show 256 * p + (16 * b + a) = 256 * p + 16 * b + a by omega]
  have fe : ∀ x y, x < w → y < h → zf_soft (nI (sg * zf_sc t)) w h (fun a b => A 43 (16 * b + a)) x y = zf_soft (nI (sg * zf_sc t)) w h (fun a b => B 42 (256 * p + 16 * b + a)) x y := fun x y h1 h2 => zf_soft_eq (fun a b h3 h4 => a43 a b (by omega) (by omega)) h1 h2
  have rows : ∀ (rem y n : Nat) (G : zx_G), y + rem = h → rem < n → (∀ q, q ≠ 42 → G q = A q) → (∀ x y', x < w → y' < y → G 42 (256 * p + 16 * y' + x) = zf_soft (nI (sg * zf_sc t)) w h (fun a b => A 43 (16 * b + a)) x y') → (∀ j, (∀ x y, x < w → y < h → j ≠ 256 * p + 16 * y + x) → G 42 j = B 42 j) → ∃ G', f_M_soften_31 n (nI (256 * p)) (nI y) G = some (0, G') ∧ (∀ x y', x < w → y' < h → G' 42 (256 * p + 16 * y' + x) = zf_soft (nI (sg * zf_sc t)) w h (fun a b => A 43 (16 * b + a)) x y') ∧ (∀ j, (∀ x y, x < w → y < h → j ≠ 256 * p + 16 * y + x) → G' 42 j = B 42 j) ∧ ∀ q, q ≠ 42 → G' q = A q := by
    intro rem
    induction rem with
    | zero =>
      intro y n G hy hn i1 i2 i3
      obtain ⟨n, rfl⟩ : ∃ k, n = k + 1 := ⟨n - 1, by omega⟩
      refine ⟨G, ?_, fun x y' h1 h2 => i2 x y' h1 (by omega), i3, i1⟩
      rw [f_M_soften_31, i1 32 (by omega), a4 32 (by omega), h19, zp_pos (nI_le (by omega) (by omega))]
    | succ rem ih =>
      intro y n G hy hn i1 i2 i3
      obtain ⟨n, rfl⟩ : ∃ k, n = k + 1 := ⟨n - 1, by omega⟩
      obtain ⟨G1, b1, b2, b3, b4, b5⟩ := zt_put (fun k i H => f_M_soften_41 (f_M_soften_31 n) k (nI (256 * p)) (nI y) i H) (fun H => f_M_soften_31 n (nI (256 * p)) (nI (y + 1)) H) 42 w (fun x => 256 * p + 16 * y + x) (fun x => zf_soft (nI (sg * zf_sc t)) w h (fun a b => A 43 (16 * b + a)) x y) (fun i j _ _ hij => by have hij' : 256 * p + 16 * y + i = 256 * p + 16 * y + j := hij; omega) (fun H => ∀ q, q ≠ 42 → H q = A q) (fun H k _ hH q hq => by rw [zp_ur hq]; exact hH q hq)
        (fun k i H hi hH => by
          show f_M_soften_41 (f_M_soften_31 n) (k + 1) (nI (256 * p)) (nI y) (nI i) H = f_M_soften_41 (f_M_soften_31 n) k (nI (256 * p)) (nI y) (nI (i + 1)) _
          have e32 : H 32 = B 32 := by rw [hH 32 (by omega), a4 32 (by omega)]
          rw [zf_pxM hp hw hh hi (show y < h by omega) ht hsg _ (by rw [e32]; exact h17) (by rw [e32]; exact h18) (by rw [e32]; exact h19) (by rw [e32]; exact h24) (fun a b h1 h2 => by rw [hH 43 (by omega), a43 a b (by omega) (by omega)]; exact hb a b h1 h2), hH 43 (by omega)])
        (fun k H hH => by
          show f_M_soften_41 (f_M_soften_31 n) (k + 1) (nI (256 * p)) (nI y) (nI w) H = _
          rw [f_M_soften_41, hH 32 (by omega), a4 32 (by omega), h18, zp_pos (nI_le (Nat.le_refl _) (by omega)), zp_lt, nI_1]) w 0 2048 G i1 (by omega) (by omega)
      obtain ⟨G', c1, c2⟩ := ih (y + 1) n G1 (by omega) (by omega) b2 (fun x y' h1 h2 => by
        by_cases c : y' = y
        · subst c
          exact b3 x (by omega) h1
        · rw [b5 _ (fun k _ hk => by show 256 * p + 16 * y' + x ≠ 256 * p + 16 * y + k; omega)]
          exact i2 x y' h1 (by omega)) (fun j hj => by
        rw [b5 _ (fun k _ hk => hj k y hk (by omega))]
        exact i3 j hj)
      refine ⟨G', ?_, c2⟩
      rw [f_M_soften_31, i1 32 (by omega), a4 32 (by omega), h19, zp_neg (nI_ge (by omega) (by omega)), zp_lt]
      exact b1.trans c1
  obtain ⟨G', c1, c2, c3, c4⟩ := rows h 0 2048 A (by omega) (by omega) (fun _ _ => rfl) (fun x y' _ h2 => absurd h2 (by omega)) (fun j _ => by rw [a2])
  refine ⟨G', ?_, fun x y h1 h2 => by rw [c2 x y h1 h2]; exact fe x y h1 h2, c3, fun q h1 h2 => by rw [c4 q h1, a4 q h2]⟩
  unfold f_M_soften
  rw [zp_lt]
  exact (show f_M_soften_2 2048 (nI (256 * p)) (0 : Int32) B = _ from a1).trans c1
