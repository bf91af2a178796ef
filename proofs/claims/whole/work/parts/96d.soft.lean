/-! the filter: softening -/
def zf_pull (s d : Int32) : Int32 := if 0 ≤ d then zx_mmin (zx_mabs d) (zx_mmax (0 : Int32) (((4 : Int32) * s) - (zx_mabs d >>> ((1 : Int32) &&& 31)))) else -(zx_mmin (zx_mabs d) (zx_mmax (0 : Int32) (((4 : Int32) * s) - (zx_mabs d >>> ((1 : Int32) &&& 31)))))
theorem zf_pullC (s d : Int32) (G : zx_G) : f_F_pull d s G = some (zf_pull s d, G) := by
  unfold f_F_pull f_F_pull_36 zf_pull
  rw [zp_lt, zp_lt, zp_lt]
  by_cases c : 0 ≤ d
  · rw [zp_pos c, if_pos c]
  · rw [zp_neg c, if_neg c]
theorem zf_pullM {t sg : Nat} {d : Int32} {G : zx_G} (ht : t ≤ 1) (hsg : sg ≤ 1000) (h17 : G 32 17 = nI t) (h24 : G 32 24 = nI sg) (hd : -100000 ≤ d.toInt ∧ d.toInt ≤ 100000) : f_M_pull d G = some (zf_pull (nI (sg * zf_sc t)) d, G) := by
  have hsc : zf_sc t ≤ 4 := by unfold zf_sc; split <;> omega
  have hl : sg * zf_sc t ≤ 4000 := by
    have := Nat.mul_le_mul hsg hsc
    omega
  have z0 : (0 : Int32).toInt = 0 := rfl
  have habs := zf_mabs (x := d) (by omega)
  obtain ⟨a, ha, ha2⟩ : ∃ a : Nat, zx_mabs d = nI a ∧ a ≤ 100000 := by
    have h1 : ¬ zx_mabs d < 0 := fun z => by
      have := Int32.lt_iff_toInt_lt.mp z
      rw [habs, z0] at this
      split at this <;> omega
    obtain ⟨j, hj, e⟩ := nI_of h1
    refine ⟨j, e, ?_⟩
    have := habs
    rw [e, nI_toInt hj] at this
    split at this <;> omega
  have ea := zf_nI (l := a) (by omega)
  have habs' : (a : Int) = if 0 ≤ d.toInt then d.toInt else -d.toInt := by rw [← ea, ← ha]; exact habs
  have k21 : ∀ s : Int32, s = nI (sg * zf_sc t) → f_M_pull_21 d s G = some (zf_pull (nI (sg * zf_sc t)) d, G) := by
    intro s hs
    subst hs
    generalize sg * zf_sc t = l at *
    unfold f_M_pull_21 f_M_pull_44
    have e0 : d - 0 = d := Int32.sub_zero d
    have e3 : ((4 : Int32) * nI l) - (nI a >>> ((1 : Int32) &&& 31)) = nI (4 * l) - nI (a / 2) := by
      rw [show (4 : Int32) * nI l = nI (4 * l) from pk_mul 4 l, show nI a >>> ((1 : Int32) &&& 31) = nI (a / 2) from pk_shrN (by omega) _ 1 (by decide)]
    have e3i : (nI (4 * l) - nI (a / 2)).toInt = ((4 * l : Nat) : Int) - ((a / 2 : Nat) : Int) := pk_sub_toInt (by omega) (by omega)
    rw [zp_lt, zp_bd (ze_far (by omega) (by rw [z0]; omega) G), e0, ha, e3, zp_lt]
    unfold zf_pull
    rw [ha, e3]
    have em : (zx_mmax (0 : Int32) (nI (4 * l) - nI (a / 2))).toInt = if 0 < ((4 * l : Nat) : Int) - ((a / 2 : Nat) : Int) then ((4 * l : Nat) : Int) - ((a / 2 : Nat) : Int) else 0 := by
      rw [zf_mmax, e3i, z0]
    have er : (zx_mmin (nI a) (zx_mmax (0 : Int32) (nI (4 * l) - nI (a / 2)))).toInt = if (zx_mmax (0 : Int32) (nI (4 * l) - nI (a / 2))).toInt < (a : Int) then (zx_mmax (0 : Int32) (nI (4 * l) - nI (a / 2))).toInt else (a : Int) := by
      rw [zf_mmin, ea]
    have fin : ∀ m : Int32, m.toInt = (zx_mmax (0 : Int32) (nI (4 * l) - nI (a / 2))).toInt → zd_lim m d = if 0 ≤ d then zx_mmin (nI a) (zx_mmax (0 : Int32) (nI (4 * l) - nI (a / 2))) else -(zx_mmin (nI a) (zx_mmax (0 : Int32) (nI (4 * l) - nI (a / 2)))) := by
      intro m hm
      have hmb : 0 ≤ m.toInt ∧ m.toInt ≤ 100000 := by
        rw [hm, em]
        split <;> omega
      apply Int32.toInt_inj.mp
      rw [zf_lim d (by omega)]
      by_cases c : 0 ≤ d
      · have c' : 0 ≤ d.toInt := Int32.le_iff_toInt_le.mp c
        rw [if_pos c, er, ← hm]
        rw [if_pos c'] at habs'
        split <;> (try split) <;> (try split) <;> omega
      · have c' : ¬ 0 ≤ d.toInt := fun z => c (Int32.le_iff_toInt_le.mpr z)
        rw [if_neg c']  at habs'
        have hrb : -100000000 ≤ (zx_mmin (nI a) (zx_mmax (0 : Int32) (nI (4 * l) - nI (a / 2)))).toInt ∧ (zx_mmin (nI a) (zx_mmax (0 : Int32) (nI (4 * l) - nI (a / 2)))).toInt ≤ 100000000 := by
          rw [er, ← hm]
          split <;> omega
        rw [if_neg c, zf_neg hrb, er, ← hm]
        split <;> (try split) <;> (try split) <;> omega
    by_cases c : 0 ≤ nI (4 * l) - nI (a / 2)
    · have c' := Int32.le_iff_toInt_le.mp c
      rw [zp_pos c, zp_bd (zd_limited d _ G), fin _ (by rw [em, e3i]; rw [e3i, z0] at c'; split <;> omega)]
    · have c' : ¬ (0 : Int32).toInt ≤ (nI (4 * l) - nI (a / 2)).toInt := fun z => c (Int32.le_iff_toInt_le.mpr z)
      rw [zp_neg c, zp_bd (zd_limited d _ G), fin _ (by rw [em, z0]; rw [e3i, z0] at c'; split <;> omega)]
  unfold f_M_pull
  rw [h17, h24]
  by_cases c : t = 1
  · rw [c, zp_neg (show ¬ ¬ nI 1 = (1 : Int32) from fun z => z rfl), ← c]
    exact k21 _ (by unfold zf_sc; rw [if_pos c, Nat.mul_comm sg 4]; exact pk_mul 4 sg)
  · have t0 : t = 0 := by omega
    rw [t0, zp_pos (show ¬ nI 0 = (1 : Int32) by decide), ← t0]
    exact k21 _ (by unfold zf_sc; rw [if_neg c, Nat.mul_one])
/-- a softened sample -/
def zf_soft (s : Int32) (w h : Nat) (F : Nat → Nat → Int32) (x y : Nat) : Int32 := F x y + ((((((if x = 0 then 0 else zf_pull s (F (x - 1) y - F x y)) + (if w ≤ x + 1 then 0 else zf_pull s (F (x + 1) y - F x y))) + (if y = 0 then 0 else zf_pull s (F x (y - 1) - F x y))) + (if h ≤ y + 1 then 0 else zf_pull s (F x (y + 1) - F x y))) + (2 : Int32)) >>> ((2 : Int32) &&& 31))
theorem zf_soft_eq {s : Int32} {w h : Nat} {F F' : Nat → Nat → Int32} (hF : ∀ x y, x < w → y < h → F x y = F' x y) {x y : Nat} (hx : x < w) (hy : y < h) : zf_soft s w h F x y = zf_soft s w h F' x y := by
  have e1 : (if x = 0 then (0 : Int32) else zf_pull s (F (x - 1) y - F x y)) = if x = 0 then (0 : Int32) else zf_pull s (F' (x - 1) y - F' x y) := by
    by_cases c : x = 0
    · rw [if_pos c, if_pos c]
    · rw [if_neg c, if_neg c, hF x y hx hy, hF (x - 1) y (by omega) hy]
  have e2 : (if w ≤ x + 1 then (0 : Int32) else zf_pull s (F (x + 1) y - F x y)) = if w ≤ x + 1 then (0 : Int32) else zf_pull s (F' (x + 1) y - F' x y) := by
    by_cases c : w ≤ x + 1
    · rw [if_pos c, if_pos c]
    · rw [if_neg c, if_neg c, hF x y hx hy, hF (x + 1) y (by omega) hy]
  have e3 : (if y = 0 then (0 : Int32) else zf_pull s (F x (y - 1) - F x y)) = if y = 0 then (0 : Int32) else zf_pull s (F' x (y - 1) - F' x y) := by
    by_cases c : y = 0
    · rw [if_pos c, if_pos c]
    · rw [if_neg c, if_neg c, hF x y hx hy, hF x (y - 1) hx (by omega)]
  have e4 : (if h ≤ y + 1 then (0 : Int32) else zf_pull s (F x (y + 1) - F x y)) = if h ≤ y + 1 then (0 : Int32) else zf_pull s (F' x (y + 1) - F' x y) := by
    by_cases c : h ≤ y + 1
    · rw [if_pos c, if_pos c]
    · rw [if_neg c, if_neg c, hF x y hx hy, hF x (y + 1) hx (by omega)]
  unfold zf_soft
  rw [e1, e2, e3, e4, hF x y hx hy]
theorem zf_px {p x y w h n : Nat} {s : Int32} (hp : p ≤ 2) (hw : w ≤ 16) (hh : h ≤ 16) (hx : x < w) (hy : y < h) (k11 : Int32 → Int32 → Int32 → zx_G → Option (Int32 × zx_G)) {G : zx_G} (h7 : G 11 7 = nI w) (h8 : G 11 8 = nI h) : f_F_soften_26 k11 (n + 1) (nI p) s (nI y) (nI x) G = f_F_soften_26 k11 n (nI p) s (nI y) (nI (x + 1)) (zx_up G 31 (16 * y + x) (zf_soft s w h (fun a b => G 18 (256 * p + 16 * b + a)) x y)) := by
  have lec : ∀ a : Nat, a < 16 → (nI a ≤ 0 ↔ a = 0) := fun a ha => by
    have := nI_leI (a := a) (b := 0) (by omega) (by omega)
    exact this.trans (by omega)
  have k176 : ∀ a b, f_F_soften_176 k11 (f_F_soften_26 k11 n) (nI p) s (nI y) (nI x) (G 18 (256 * p + 16 * y + x)) a b G = f_F_soften_26 k11 n (nI p) s (nI y) (nI (x + 1)) (zx_up G 31 (16 * y + x) (G 18 (256 * p + 16 * y + x) + (((a + b) + (2 : Int32)) >>> ((2 : Int32) &&& 31)))) := by
    intro a b
    unfold f_F_soften_176
    rw [zp_lt, show nI y * (16 : Int32) = nI (y * 16) from pk_mul y 16, nI_add, zp_gd (zp_in (by omega) (by omega)), zp_lt, zp_lt, zp_cl (by omega), nI_1, Nat.mul_comm y 16]
  have k139 : ∀ a b, f_F_soften_139 k11 (f_F_soften_26 k11 n) (nI p) s (nI y) (nI x) (nI (256 * p + 16 * y + x)) (G 18 (256 * p + 16 * y + x)) a b G = f_F_soften_176 k11 (f_F_soften_26 k11 n) (nI p) s (nI y) (nI x) (G 18 (256 * p + 16 * y + x)) (a + b) (if h ≤ y + 1 then 0 else zf_pull s (G 18 (256 * p + 16 * (y + 1) + x) - G 18 (256 * p + 16 * y + x))) G := by
    intro a b
    unfold f_F_soften_139
    rw [zp_lt, nI_1, h8]
    by_cases c : h ≤ y + 1
    · rw [zp_pos (nI_le c (by omega)), if_pos c]
    · rw [zp_neg (nI_ge (by omega) (by omega)), if_neg c, show nI (256 * p + 16 * y + x) + (16 : Int32) = nI (256 * p + 16 * y + x + 16) from nI_add _ 16, zp_gd (zp_in (by omega) (by omega)), zp_cl (by omega), zp_bd (zf_pullC _ _ G), show 256 * p + 16 * y + x + 16 = 256 * p + 16 * (y + 1) + x by omega]
  have k111 : ∀ a b, f_F_soften_111 k11 (f_F_soften_26 k11 n) (nI p) s (nI y) (nI x) (nI (256 * p + 16 * y + x)) (G 18 (256 * p + 16 * y + x)) a b G = f_F_soften_139 k11 (f_F_soften_26 k11 n) (nI p) s (nI y) (nI x) (nI (256 * p + 16 * y + x)) (G 18 (256 * p + 16 * y + x)) (a + b) (if y = 0 then 0 else zf_pull s (G 18 (256 * p + 16 * (y - 1) + x) - G 18 (256 * p + 16 * y + x))) G := by
    intro a b
    unfold f_F_soften_111
    rw [zp_lt]
    by_cases c : y = 0
    · rw [zp_pos ((lec y (by omega)).mpr c), if_pos c]
    · rw [zp_neg (fun z => c ((lec y (by omega)).mp z)), if_neg c, show nI (256 * p + 16 * y + x) - (16 : Int32) = nI (256 * p + 16 * y + x - 16) from pk_sub (b := 16) (by omega), zp_gd (zp_in (by omega) (by omega)), zp_cl (by omega), zp_bd (zf_pullC _ _ G), show 256 * p + 16 * y + x - 16 = 256 * p + 16 * (y - 1) + x by omega]
  have k76 : ∀ a, f_F_soften_76 k11 (f_F_soften_26 k11 n) (nI p) s (nI y) (nI x) (nI (256 * p + 16 * y + x)) (G 18 (256 * p + 16 * y + x)) a G = f_F_soften_111 k11 (f_F_soften_26 k11 n) (nI p) s (nI y) (nI x) (nI (256 * p + 16 * y + x)) (G 18 (256 * p + 16 * y + x)) a (if w ≤ x + 1 then 0 else zf_pull s (G 18 (256 * p + 16 * y + (x + 1)) - G 18 (256 * p + 16 * y + x))) G := by
    intro a
    unfold f_F_soften_76
    rw [zp_lt, nI_1, h7]
    by_cases c : w ≤ x + 1
    · rw [zp_pos (nI_le c (by omega)), if_pos c]
    · rw [zp_neg (nI_ge (by omega) (by omega)), if_neg c, nI_1, zp_gd (zp_in (by omega) (by omega)), zp_cl (by omega), zp_bd (zf_pullC _ _ G)]
      rfl
  have k26 : f_F_soften_26 k11 (n + 1) (nI p) s (nI y) (nI x) G = f_F_soften_76 k11 (f_F_soften_26 k11 n) (nI p) s (nI y) (nI x) (nI (256 * p + 16 * y + x)) (G 18 (256 * p + 16 * y + x)) (if x = 0 then 0 else zf_pull s (G 18 (256 * p + 16 * y + (x - 1)) - G 18 (256 * p + 16 * y + x))) G := by
    rw [f_F_soften_26, h7, zp_neg (nI_ge hx (by omega)), zp_bd (zt_place p x y G), zp_lt, zp_gd (zp_in (by omega) (by omega)), zp_lt, zp_cl (by omega)]
    by_cases c : x = 0
    · rw [zp_pos ((lec x (by omega)).mpr c), if_pos c]
    · rw [zp_neg (fun z => c ((lec x (by omega)).mp z)), if_neg c, show nI (256 * p + 16 * y + x) - (1 : Int32) = nI (256 * p + 16 * y + x - 1) from pk_sub (b := 1) (by omega), zp_gd (zp_in (by omega) (by omega)), zp_cl (by omega), zp_bd (zf_pullC _ _ G), show 256 * p + 16 * y + x - 1 = 256 * p + 16 * y + (x - 1) by omega]
  rw [k26, k76, k111, k139, k176]
  rfl
