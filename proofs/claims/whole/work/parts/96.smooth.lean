/-! the filter: one smoothing, on both sides -/
theorem zf_neg {x : Int32} (h : -100000000 ≤ x.toInt ∧ x.toInt ≤ 100000000) : (-x).toInt = -x.toInt := by
  have e : (0 - x).toInt = (0 : Int32).toInt - x.toInt := ze_sub (by decide) h
  rw [Int32.zero_sub] at e
  rw [e]
  show (0 : Int) - _ = _
  omega
theorem zf_mmin (x y : Int32) : (zx_mmin x y).toInt = if y.toInt < x.toInt then y.toInt else x.toInt := by
  unfold zx_mmin
  by_cases c : y < x
  · rw [if_pos c, if_pos (Int32.lt_iff_toInt_lt.mp c)]
  · rw [if_neg c, if_neg (fun z => c (Int32.lt_iff_toInt_lt.mpr z))]
theorem zf_mmax (x y : Int32) : (zx_mmax x y).toInt = if x.toInt < y.toInt then y.toInt else x.toInt := by
  unfold zx_mmax
  by_cases c : x < y
  · rw [if_pos c, if_pos (Int32.lt_iff_toInt_lt.mp c)]
  · rw [if_neg c, if_neg (fun z => c (Int32.lt_iff_toInt_lt.mpr z))]
theorem zf_mabs {x : Int32} (h : -100000000 ≤ x.toInt ∧ x.toInt ≤ 100000000) : (zx_mabs x).toInt = if 0 ≤ x.toInt then x.toInt else -x.toInt := by
  unfold zx_mabs
  by_cases c : 0 ≤ x
  · rw [if_pos c, if_pos (show (0 : Int) ≤ x.toInt from Int32.le_iff_toInt_le.mp c)]
  · rw [if_neg c, if_neg (show ¬ (0 : Int) ≤ x.toInt from fun z => c (Int32.le_iff_toInt_le.mpr z))]
    have e : (0 - x).toInt = (0 : Int32).toInt - x.toInt := ze_sub (by decide) h
    rw [e]
    show (0 : Int) - _ = _
    omega
theorem zf_lim {m : Int32} (v : Int32) (h : -100000000 ≤ m.toInt ∧ m.toInt ≤ 100000000) : (zd_lim m v).toInt = if -m.toInt ≤ v.toInt then (if v.toInt ≤ m.toInt then v.toInt else m.toInt) else -m.toInt := by
  have hn := zf_neg h
  unfold zd_lim
  by_cases c : (-m) ≤ v
  · have c' := Int32.le_iff_toInt_le.mp c
    rw [hn] at c'
    rw [if_pos c, if_pos c']
    by_cases d : v ≤ m
    · rw [if_pos d, if_pos (Int32.le_iff_toInt_le.mp d)]
    · rw [if_neg d, if_neg (fun z => d (Int32.le_iff_toInt_le.mpr z))]
  · rw [if_neg c, if_neg (fun z => c (Int32.le_iff_toInt_le.mpr (by rw [hn]; exact z))), hn]
theorem zf_nI {l : Nat} (hl : l ≤ 100000000) : (nI l).toInt = (l : Int) := nI_toInt (by omega)
theorem zf_clip {l : Nat} (hl : l ≤ 10000000) (v : Int32) : zx_mmax (-(nI l)) (zx_mmin (nI l) v) = zd_lim (nI l) v := by
  apply Int32.toInt_inj.mp
  have e := zf_nI (l := l) (by omega)
  rw [zf_mmax, zf_mmin, zf_lim v (by omega), zf_neg (by omega), e]
  split <;> split <;> (try split) <;> omega
theorem zf_absC {a b : Nat} (ha : a ≤ 1023) (hb : b ≤ 1023) : zx_mabs (nI a - nI b) = zx_mabs (nI b - nI a) := by
  apply Int32.toInt_inj.mp
  have e1 := zf_nI (l := a) (by omega)
  have e2 := zf_nI (l := b) (by omega)
  have d1 : (nI a - nI b).toInt = (a : Int) - b := by rw [ze_sub (by omega) (by omega), e1, e2]
  have d2 : (nI b - nI a).toInt = (b : Int) - a := by rw [ze_sub (by omega) (by omega), e1, e2]
  rw [zf_mabs (by omega), zf_mabs (by omega), d1, d2]
  split <;> split <;> omega
/-- the shift of one smoothing -/
def zf_dl (lm : Int32) (st pos : Nat) (S : Nat → Int32) : Int32 := zx_mmax (-lm) (zx_mmin lm ((((((3 : Int32) * (S pos - S (pos - st))) + S (pos - 2 * st)) - S (pos + st)) + (4 : Int32)) >>> ((3 : Int32) &&& 31)))
/-- one smoothing, as a change of the samples -/
def zf_st (T lm : Int32) (st pos : Nat) (S : Nat → Int32) : Nat → Int32 := if zx_mabs (S pos - S (pos - st)) ≤ (4 : Int32) * lm then upd (upd S (pos - st) (zt_lim T (S (pos - st) + zf_dl lm st pos S))) pos (zt_lim T (S pos - zf_dl lm st pos S)) else S
theorem zf_smC {pos st : Nat} (h1 : 2 * st ≤ pos) (h2 : pos + st < 768) (lm : Int32) (G : zx_G) : ∃ G', f_F_smooth (nI pos) (nI st) lm G = some (0, G') ∧ G' 18 = zf_st (G 17 4) lm st pos (G 18) ∧ ∀ q, q ≠ 18 → G' q = G q := by
  unfold f_F_smooth
  rw [show (2 : Int32) * nI st = nI (2 * st) from pk_mul 2 st, pk_sub h1, pk_sub (show st ≤ pos by omega), nI_add, zp_gd (zp_in (by omega) (by omega)), zp_lt, zp_gd (zp_in (by omega) (by omega)), zp_lt, zp_gd (zp_in (by omega) (by omega)), zp_lt, zp_gd (zp_in (by omega) (by omega)), zp_lt, zp_cl (j := pos) (by omega), zp_cl (j := pos - st) (by omega), zp_cl (j := pos - 2 * st) (by omega), zp_cl (j := pos + st) (by omega)]
  by_cases c : zx_mabs (G 18 pos - G 18 (pos - st)) ≤ (4 : Int32) * lm
  · refine ⟨zx_up (zx_up G 18 (pos - st) (zt_lim (G 17 4) (G 18 (pos - st) + zf_dl lm st pos (G 18)))) 18 pos (zt_lim (G 17 4) (G 18 pos - zf_dl lm st pos (G 18))), ?_, ?_, fun q hq => by rw [zp_ur hq, zp_ur hq]⟩
    · rw [zp_pos c, zp_lt, zp_lt, zp_bd (zt_limC _ _), zp_gd (zp_in (by omega) (by omega)), zp_lt, zp_bd (zt_limC _ _), zp_gd (zp_in (by omega) (by omega)), zp_lt, zp_ur (by omega)]
      rfl
    · unfold zf_st
      rw [if_pos c, zp_row, zp_row]
  · refine ⟨G, by rw [zp_neg c], ?_, fun _ _ => rfl⟩
    unfold zf_st
    rw [if_neg c]
def zf_sc (t : Nat) : Nat := if t = 1 then 4 else 1
theorem zf_smM {p x y st t lv a b : Nat} {G : zx_G} (ht : t ≤ 1) (h17 : G 32 17 = nI t) (h23 : G 32 23 = nI lv) (hlv : lv ≤ 1000) (hst : st = 1 ∨ st = 16) (h1 : 2 * st ≤ 256 * p + 16 * y + x) (h2 : 256 * p + 16 * y + x + st < 768) (ha : a ≤ 1023) (hb : b ≤ 1023) (va : G 42 (256 * p + 16 * y + x - st) = nI a) (vb : G 42 (256 * p + 16 * y + x) = nI b) : ∃ G', f_M_smooth_95 (nI p) (nI x) (nI y) (nI st) G = some (0, G') ∧ G' 42 = zf_st (nI (ze_top t)) (nI (lv * zf_sc t)) st (256 * p + 16 * y + x) (G 42) ∧ ∀ q, q ≠ 42 → G' q = G q := by
  have hsc : zf_sc t ≤ 4 := by unfold zf_sc; split <;> omega
  have hl : lv * zf_sc t ≤ 4000 := by
    have := Nat.mul_le_mul hlv hsc
    omega
  generalize hpos : 256 * p + 16 * y + x = pos at *
  have ea := zf_nI (l := a) (by omega)
  have eb := zf_nI (l := b) (by omega)
  have hw : ∀ (v : Int32) (H : zx_G), H 32 = G 32 → f_M_within v H = some (zt_lim (nI (ze_top t)) v, H) := fun v H hH => (zt_within ht (by rw [hH]; exact h17) v).1
  have k153 : ∀ lm : Int32, lm = nI (lv * zf_sc t) → ∃ G', f_M_smooth_153 (nI st) (nI pos) (nI a) (nI b) lm G = some (0, G') ∧ G' 42 = zf_st (nI (ze_top t)) (nI (lv * zf_sc t)) st pos (G 42) ∧ ∀ q, q ≠ 42 → G' q = G q := by
    intro lm hlm
    subst hlm
    unfold f_M_smooth_153
    rw [zp_lt, zp_bd (ze_far (by omega) (by omega) G), zf_absC ha hb, show (2 : Int32) * nI st = nI (2 * st) from pk_mul 2 st, pk_sub h1, pk_sub (show st ≤ pos by omega), nI_add]
    by_cases c : zx_mabs (nI b - nI a) ≤ (4 : Int32) * nI (lv * zf_sc t)
    · refine ⟨zx_up (zx_up G 42 (pos - st) (zt_lim (nI (ze_top t)) (G 42 (pos - st) + zf_dl (nI (lv * zf_sc t)) st pos (G 42)))) 42 pos (zt_lim (nI (ze_top t)) (G 42 pos - zf_dl (nI (lv * zf_sc t)) st pos (G 42))), ?_, ?_, fun q hq => by rw [zp_ur hq, zp_ur hq]⟩
      · have ed : zd_lim (nI (lv * zf_sc t)) ((((((3 : Int32) * (nI b - nI a)) + G 42 (pos - 2 * st)) - G 42 (pos + st)) + (4 : Int32)) >>> ((3 : Int32) &&& 31)) = zf_dl (nI (lv * zf_sc t)) st pos (G 42) := by
          unfold zf_dl
          rw [va, vb, zf_clip (by omega)]
        rw [zp_pos c, zp_gd (zp_in (by omega) (by omega)), zp_gd (zp_in (by omega) (by omega)), zp_cl (j := pos - 2 * st) (by omega), zp_cl (j := pos + st) (by omega), zp_bd (zd_limited _ _ G), ed, zp_lt, zp_bd (hw _ G rfl), zp_gd (zp_in (by omega) (by omega)), zp_lt, zp_cl (j := pos - st) (by omega), zp_bd (hw _ _ (zp_ur (by omega))), zp_gd (zp_in (by omega) (by omega)), zp_lt, zp_cl (j := pos) (by omega), va, vb]
      · unfold zf_st
        rw [va, vb, if_pos c, zp_row, zp_row]
    · refine ⟨G, by rw [zp_neg c], ?_, fun _ _ => rfl⟩
      unfold zf_st
      rw [va, vb, if_neg c]
  have e1 : (((256 : Int32) * nI p) + ((16 : Int32) * nI y)) + nI x = nI pos := by
    rw [show (256 : Int32) * nI p = nI (256 * p) from pk_mul 256 p, show (16 : Int32) * nI y = nI (16 * y) from pk_mul 16 y, nI_add, nI_add, hpos]
  unfold f_M_smooth_95
  rw [zp_lt, zp_lt, e1, pk_sub (show st ≤ pos by omega), zp_gd (zp_in (by omega) (by omega)), zp_lt, zp_gd (zp_in (by omega) (by omega)), zp_lt, zp_cl (j := pos - st) (by omega), zp_cl (j := pos) (by omega), va, vb, h17, h23]
  by_cases c : t = 1
  · rw [c, zp_neg (show ¬ ¬ nI 1 = (1 : Int32) from fun z => z rfl), ← c]
    exact k153 _ (by unfold zf_sc; rw [if_pos c, Nat.mul_comm lv 4]; exact pk_mul 4 lv)
  · have t0 : t = 0 := by omega
    rw [t0, zp_pos (show ¬ nI 0 = (1 : Int32) by decide), ← t0]
    exact k153 _ (by unfold zf_sc; rw [if_neg c, Nat.mul_one])
theorem zf_st_loc {T lm : Int32} {st pos j : Nat} {S S' : Nat → Int32} (h0 : S pos = S' pos) (h1 : S (pos - st) = S' (pos - st)) (h2 : S (pos - 2 * st) = S' (pos - 2 * st)) (h3 : S (pos + st) = S' (pos + st)) (hj : S j = S' j) : zf_st T lm st pos S j = zf_st T lm st pos S' j := by
  have e : zf_dl lm st pos S = zf_dl lm st pos S' := by unfold zf_dl; rw [h0, h1, h2, h3]
  unfold zf_st
  rw [h0, h1, e]
  by_cases c : zx_mabs (S' pos - S' (pos - st)) ≤ (4 : Int32) * lm
  · rw [if_pos c, if_pos c, zp_upd, zp_upd, zp_upd, zp_upd, hj]
  · rw [if_neg c, if_neg c, hj]
theorem zf_st_out {T lm : Int32} {st pos j : Nat} {S : Nat → Int32} (h0 : j ≠ pos) (h1 : j ≠ pos - st) : zf_st T lm st pos S j = S j := by
  unfold zf_st
  by_cases c : zx_mabs (S pos - S (pos - st)) ≤ (4 : Int32) * lm
  · rw [if_pos c, zp_upd, zp_upd, if_neg h0, if_neg h1]
  · rw [if_neg c]
theorem zf_limB {t : Nat} (ht : t ≤ 1) (v : Int32) : ∃ w, w ≤ ze_top t ∧ zt_lim (nI (ze_top t)) v = nI w := (zt_within (Gm := fun _ _ => nI t) ht rfl v).2
theorem zf_st_le {t : Nat} {lm : Int32} {st pos j : Nat} {S : Nat → Int32} (ht : t ≤ 1) (h : ∃ v, v ≤ ze_top t ∧ S j = nI v) : ∃ v, v ≤ ze_top t ∧ zf_st (nI (ze_top t)) lm st pos S j = nI v := by
  unfold zf_st
  by_cases c : zx_mabs (S pos - S (pos - st)) ≤ (4 : Int32) * lm
  · rw [if_pos c, zp_upd, zp_upd]
    by_cases c1 : j = pos
    · rw [if_pos c1]; exact zf_limB ht _
    · rw [if_neg c1]
      by_cases c2 : j = pos - st
      · rw [if_pos c2]; exact zf_limB ht _
      · rw [if_neg c2]; exact h
  · rw [if_neg c]; exact h
