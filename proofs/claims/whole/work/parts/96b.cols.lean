/-! the filter: the reference's columns -/
theorem zf_skipM {p x y w h c d : Nat} {G : zx_G} (h18 : G 32 18 = nI w) (h19 : G 32 19 = nI h) (hw : w ≤ 16) (hh : h ≤ 16) (hx : x < 16) (hy : y < 16) (hd : (d = 0 ∧ c = y) ∨ (d = 1 ∧ c = x)) (ho : w ≤ x ∨ h ≤ y ∨ c = 0 ∨ c % 4 ≠ 0) : f_M_smooth (nI p) (nI x) (nI y) (nI d) G = some (0, G) := by
  have key : f_M_smooth_10 (nI p) (nI x) (nI y) (nI d) (nI c) G = some (0, G) := by
    unfold f_M_smooth_10
    rw [zp_lt, h18, h19]
    by_cases c1 : w ≤ x
    · rw [zp_pos (nI_le c1 (by omega))]; rfl
    · rw [zp_neg (nI_ge (by omega) (by omega))]
      by_cases c2 : h ≤ y
      · rw [zp_pos (nI_le c2 (by omega))]; rfl
      · rw [zp_neg (nI_ge (by omega) (by omega))]
        by_cases c3 : c = 0
        · rw [c3, zp_pos (show nI 0 = 0 from rfl)]; rfl
        · have c4 : c % 4 ≠ 0 := by rcases ho with z | z | z | z; exact absurd z c1; exact absurd z c2; exact absurd z c3; exact z
          have c5 : c < 16 := by omega
          rw [zp_neg (nI_ne0 (by omega) (by omega)), zp_gd (by decide), zt_rem4 c5, zp_neg (nI_ne0 (by omega) (by omega))]
          rfl
  unfold f_M_smooth
  rcases hd with ⟨rfl, rfl⟩ | ⟨rfl, rfl⟩
  · rw [zp_pos (show nI 0 = 0 from rfl)]; exact key
  · rw [zp_neg (show ¬ nI 1 = 0 by decide)]; exact key
/-- an edge of the reference: columns (d = 1), rows (d = 0) -/
theorem zf_actM {p x y w h d u v st : Nat} {o : Nat → Nat} {G : zx_G} (h18 : G 32 18 = nI w) (h19 : G 32 19 = nI h) (hw : w ≤ 16) (hh : h ≤ 16) (hx : x < w) (hy : y < h) (hd : (d = 0 ∧ y % 4 = 0 ∧ 0 < y ∧ st = 16 ∧ v = u - 4) ∨ (d = 1 ∧ x % 4 = 0 ∧ 0 < x ∧ st = 1 ∧ v = u - 1)) (hu : u = 4 * (y / 4) + x / 4) (hou : G 44 u = nI (o u + 1)) (hov : G 44 v = nI (o v + 1)) (bu : o u < 16) (bv : o v < 16) : f_M_smooth (nI p) (nI x) (nI y) (nI d) G = if o v = o u then some (0, G) else f_M_smooth_95 (nI p) (nI x) (nI y) (nI st) G := by
  have e6 : ((zx_div (nI y) (4 : Int32)) * (4 : Int32)) + (zx_div (nI x) (4 : Int32)) = nI u := by
    rw [zt_div4 (by omega), zt_div4 (by omega), show nI (y / 4) * (4 : Int32) = nI (y / 4 * 4) from pk_mul _ 4, nI_add, hu, Nat.mul_comm (y / 4) 4]
  have hu16 : u < 16 := by omega
  have k79 : ∀ s2 : Int32, s2 = nI v → f_M_smooth_79 (nI p) (nI x) (nI y) (nI d) (nI (o u + 1)) s2 G = if o v = o u then some (0, G) else f_M_smooth_95 (nI p) (nI x) (nI y) (nI st) G := by
    intro s2 hs
    subst hs
    unfold f_M_smooth_79
    rw [zp_gd (zp_in (by omega) (by omega)), zp_cl (by omega), hov]
    by_cases c : o v = o u
    · rw [if_pos c, zp_neg (fun z => z (by rw [c]))]
    · have cn : ¬ nI (o u + 1) = nI (o v + 1) := fun z => c (by have := (nI_eq (by omega) (by omega)).mp z; omega)
      rw [if_neg c, zp_pos cn]
      rcases hd with ⟨rfl, -, -, rfl, -⟩ | ⟨rfl, -, -, rfl, -⟩
      · rw [zp_pos (show nI 0 = 0 from rfl)]; rfl
      · rw [zp_neg (show ¬ nI 1 = 0 by decide)]; rfl
  have key : ∀ c : Nat, c % 4 = 0 → 0 < c → c < 16 → f_M_smooth_10 (nI p) (nI x) (nI y) (nI d) (nI c) G = if o v = o u then some (0, G) else f_M_smooth_95 (nI p) (nI x) (nI y) (nI st) G := by
    intro c h1 h2 h3
    unfold f_M_smooth_10
    rw [zp_lt, h18, h19, zp_neg (nI_ge hx (by omega)), zp_neg (nI_ge hy (by omega)), zp_neg (nI_ne0 h2 (by omega)), zp_gd (by decide), zt_rem4 h3, h1, zp_pos (show nI 0 = 0 from rfl), zp_gd (by decide), zp_gd (by decide), e6, zp_lt, zp_gd (zp_in hu16 (by omega)), zp_cl (by omega), hou]
    rcases hd with ⟨rfl, a, b, rfl, rfl⟩ | ⟨rfl, a, b, rfl, rfl⟩
    · rw [zp_pos (show nI 0 = 0 from rfl)]
      exact k79 _ (pk_sub (b := 4) (by omega))
    · rw [zp_neg (show ¬ nI 1 = 0 by decide)]
      exact k79 _ (pk_sub (b := 1) (by omega))
  unfold f_M_smooth
  rcases id hd with ⟨e, a, b, -, -⟩ | ⟨e, a, b, -, -⟩
  · rw [e, zp_pos (show nI 0 = 0 from rfl), ← e]
    exact key y a b (by omega)
  · rw [e, zp_neg (show ¬ nI 1 = 0 by decide), ← e]
    exact key x a b (by omega)
def zf_k (w i y : Nat) : Nat := min ((i - 16 * y - 1) / 4) ((w - 1) / 4)
def zf_IM (T lm : Int32) (o : Nat → Nat) (p w h i : Nat) (B G : zx_G) : Prop := (∀ q, q ≠ 42 → G q = B q) ∧ (∀ y' x, y' < h → x < 16 → G 42 (256 * p + 16 * y' + x) = zf_part T lm o p y' (B 42) (zf_k w i y') (256 * p + 16 * y' + x)) ∧ ∀ j, (∀ y' x, y' < h → x < 16 → j ≠ 256 * p + 16 * y' + x) → G 42 j = B 42 j
theorem zf_colM {o : Nat → Nat} {p w h t lv : Nat} {k2 : Int32 → zx_G → Option (Int32 × zx_G)} {B : zx_G} (hp : p ≤ 2) (hw1 : 1 ≤ w) (hw : w ≤ 16) (hh : h ≤ 16) (ht : t ≤ 1) (hlv : lv ≤ 1000) (h17 : B 32 17 = nI t) (h18 : B 32 18 = nI w) (h19 : B 32 19 = nI h) (h23 : B 32 23 = nI lv) (hO : ∀ ux uy, 4 * ux < w → 4 * uy < h → o (4 * uy + ux) < 16 ∧ B 44 (4 * uy + ux) = nI (o (4 * uy + ux) + 1)) (hB : ∀ x y, 4 * (x / 4) < w → y < h → ∃ v, v ≤ ze_top t ∧ B 42 (256 * p + 16 * y + x) = nI v) :
    ∃ G', f_M_filter_23 k2 2048 (nI p) (0 : Int32) B = f_M_filter_52 k2 2048 (nI p) (0 : Int32) G' ∧ zf_IM (nI (ze_top t)) (nI (lv * zf_sc t)) o p w h 256 B G' := by
  have loop : ∀ (rem i n : Nat) (G : zx_G), i + rem = 256 → rem < n → zf_IM (nI (ze_top t)) (nI (lv * zf_sc t)) o p w h i B G → ∃ G', f_M_filter_23 k2 n (nI p) (nI i) G = f_M_filter_52 k2 2048 (nI p) (0 : Int32) G' ∧ zf_IM (nI (ze_top t)) (nI (lv * zf_sc t)) o p w h 256 B G' := by
    intro rem
    induction rem with
    | zero =>
      intro i n G hi hn hI
      obtain ⟨n, rfl⟩ : ∃ k, n = k + 1 := ⟨n - 1, by omega⟩
      have : i = 256 := by omega
      subst this
      exact ⟨G, by rw [f_M_filter_23, zp_pos (by decide), zp_lt], hI⟩
    | succ rem ih =>
      intro i n G hi hn hI
      obtain ⟨n, rfl⟩ : ∃ k, n = k + 1 := ⟨n - 1, by omega⟩
      obtain ⟨i1, i2, i3⟩ := id hI
      have g18 : G 32 18 = nI w := by rw [i1 32 (by omega)]; exact h18
      have g19 : G 32 19 = nI h := by rw [i1 32 (by omega)]; exact h19
      have pre : ∀ G1, f_M_smooth (nI p) (nI (i % 16)) (nI (i / 16)) (nI 1) G = some (0, G1) → f_M_filter_23 k2 (n + 1) (nI p) (nI i) G = f_M_filter_23 k2 n (nI p) (nI (i + 1)) G1 := by
        intro G1 hs
        rw [f_M_filter_23, zp_neg (show ¬ (256 : Int32) ≤ nI i from nI_ge (b := 256) (by omega) (by omega)), zp_gd (by decide), zp_gd (by decide), show zx_rem (nI i) (16 : Int32) = nI (i % 16) from pk_rem (d := 16) (by omega) (by omega) (by omega), show zx_div (nI i) (16 : Int32) = nI (i / 16) from pk_div (d := 16) (by omega) (by omega) (by omega), zp_bd (show f_M_smooth (nI p) (nI (i % 16)) (nI (i / 16)) (1 : Int32) G = _ from hs), zp_lt, nI_1]
      by_cases c : i % 16 < w ∧ i / 16 < h ∧ i % 16 % 4 = 0 ∧ 0 < i % 16
      · obtain ⟨c1, c2, c3, c4⟩ := c
        obtain ⟨e, he⟩ : ∃ e, i % 16 = 4 * (e + 1) := ⟨i % 16 / 4 - 1, by omega⟩
        obtain ⟨o1, o2⟩ := hO e (i / 16 / 4) (by omega) (by omega)
        obtain ⟨o3, o4⟩ := hO (e + 1) (i / 16 / 4) (by omega) (by omega)
        have ha := zf_actM (p := p) (o := o) (st := 1) (d := 1) (u := 4 * (i / 16 / 4) + (e + 1)) (v := 4 * (i / 16 / 4) + e) g18 g19 hw hh c1 c2 (Or.inr ⟨rfl, c3, c4, rfl, by omega⟩) (by omega) (by rw [i1 44 (by omega)]; exact o4) (by rw [i1 44 (by omega)]; exact o2) o3 o1
        have hrow : ∀ x, x < 16 → G 42 (256 * p + 16 * (i / 16) + x) = zf_part (nI (ze_top t)) (nI (lv * zf_sc t)) o p (i / 16) (B 42) e (256 * p + 16 * (i / 16) + x) := fun x hx => by
          have := i2 (i / 16) x (by omega) hx
          rw [show zf_k w i (i / 16) = e by unfold zf_k; omega] at this
          exact this
        obtain ⟨G1, s1, s2, s3⟩ : ∃ G1, f_M_smooth (nI p) (nI (i % 16)) (nI (i / 16)) (nI 1) G = some (0, G1) ∧ (G1 42 = if o (4 * (i / 16 / 4) + e) = o (4 * (i / 16 / 4) + (e + 1)) then G 42 else zf_st (nI (ze_top t)) (nI (lv * zf_sc t)) 1 (256 * p + 16 * (i / 16) + 4 * (e + 1)) (G 42)) ∧ ∀ q, q ≠ 42 → G1 q = G q := by
          rw [ha]
          by_cases cc : o (4 * (i / 16 / 4) + e) = o (4 * (i / 16 / 4) + (e + 1))
          · exact ⟨G, by rw [if_pos cc], by rw [if_pos cc], fun _ _ => rfl⟩
          · have hb : ∀ x, 4 * (x / 4) < w → x < 16 → ∃ v, v ≤ ze_top t ∧ G 42 (256 * p + 16 * (i / 16) + x) = nI v := fun x h1 h2 => by
              rw [hrow x h2]
              exact zf_part_le ht (hB x (i / 16) h1 c2) e
            obtain ⟨va, va1, va2⟩ := hb (4 * (e + 1) - 1) (by omega) (by omega)
            obtain ⟨vb, vb1, vb2⟩ := hb (4 * (e + 1)) (by omega) (by omega)
            have htop := (ze_top_le t).2
            obtain ⟨G1, b1, b2, b3⟩ := zf_smM (p := p) (x := 4 * (e + 1)) (y := i / 16) (st := 1) (lv := lv) (a := va) (b := vb) ht (by rw [i1 32 (by omega)]; exact h17) (by rw [i1 32 (by omega)]; exact h23) hlv (Or.inl rfl) (by omega) (by omega) (by omega) (by omega) (by rw [show 256 * p + 16 * (i / 16) + 4 * (e + 1) - 1 = 256 * p + 16 * (i / 16) + (4 * (e + 1) - 1) by omega]; exact va2) vb2
            exact ⟨G1, by rw [if_neg cc, he]; exact b1, by rw [b2, if_neg cc], b3⟩
        obtain ⟨t1, t2⟩ := zf_part_step (T := nI (ze_top t)) (lm := nI (lv * zf_sc t)) (o := o) (S := B 42) (by omega) hrow s2
        have hI1 : zf_IM (nI (ze_top t)) (nI (lv * zf_sc t)) o p w h (i + 1) B G1 := by
          refine ⟨fun q hq => (s3 q hq).trans (i1 q hq), fun y' x h1 h2 => ?_, fun j hj => ?_⟩
          · by_cases cy : y' = i / 16
            · subst cy
              rw [show zf_k w (i + 1) (i / 16) = e + 1 by unfold zf_k; omega]
              exact t1 x h2
            · rw [t2 _ (fun x' hx' => by omega), i2 y' x h1 h2, show zf_k w (i + 1) y' = zf_k w i y' by unfold zf_k; omega]
          · rw [t2 _ (fun x' hx' => hj (i / 16) x' (by omega) hx')]
            exact i3 j hj
        obtain ⟨G', c1, c2⟩ := ih (i + 1) n G1 (by omega) (by omega) hI1
        exact ⟨G', (pre G1 s1).trans c1, c2⟩
      · have sk := zf_skipM (p := p) (x := i % 16) (y := i / 16) (c := i % 16) (d := 1) g18 g19 hw hh (by omega) (by omega) (Or.inr ⟨rfl, rfl⟩) (by omega)
        have hI1 : zf_IM (nI (ze_top t)) (nI (lv * zf_sc t)) o p w h (i + 1) B G := by
          refine ⟨i1, fun y' x h1 h2 => ?_, i3⟩
          rw [i2 y' x h1 h2, show zf_k w (i + 1) y' = zf_k w i y' by unfold zf_k; omega]
        obtain ⟨G', c1, c2⟩ := ih (i + 1) n G (by omega) (by omega) hI1
        exact ⟨G', (pre G sk).trans c1, c2⟩
  exact loop 256 0 2048 B (by omega) (by omega) ⟨fun _ _ => rfl, fun y' x h1 h2 => by rw [show zf_k w 0 y' = 0 by unfold zf_k; omega]; rfl, fun _ _ => rfl⟩
