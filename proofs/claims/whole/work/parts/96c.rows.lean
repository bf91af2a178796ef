/-! the filter: the rows; a plane smoothed -/
/-- the samples of a plane are alike where its units are -/
def zf_ag (t p w h : Nat) (S R : Nat → Int32) : Prop := ∀ x y, 4 * (x / 4) < w → 4 * (y / 4) < h → ∃ v, v ≤ ze_top t ∧ S (256 * p + 16 * y + x) = nI v ∧ R (256 * p + 16 * y + x) = nI v
theorem zf_ag.st {t p w h st pos : Nat} {lm : Int32} {S R S' R' : Nat → Int32} (hA : zf_ag t p w h S R) (ht : t ≤ 1) (h0 : S pos = R pos) (h1 : S (pos - st) = R (pos - st)) (h2 : S (pos - 2 * st) = R (pos - 2 * st)) (h3 : S (pos + st) = R (pos + st)) (hS : S' = zf_st (nI (ze_top t)) lm st pos S) (hR : R' = zf_st (nI (ze_top t)) lm st pos R) : zf_ag t p w h S' R' := by
  intro x y hx hy
  obtain ⟨v, v1, v2, v3⟩ := hA x y hx hy
  obtain ⟨u, u1, u2⟩ := zf_st_le (lm := lm) (st := st) (pos := pos) ht ⟨v, v1, v2⟩
  refine ⟨u, u1, by rw [hS]; exact u2, ?_⟩
  rw [hR, ← zf_st_loc h0 h1 h2 h3 (v2.trans v3.symm)]
  exact u2
/-- both sides while a plane is smoothed -/
def zf_RR (t p w h : Nat) (Bc Bm Gc Gm : zx_G) : Prop := (∀ q, q ≠ 18 → Gc q = Bc q) ∧ (∀ q, q ≠ 42 → Gm q = Bm q) ∧ zf_ag t p w h (Gc 18) (Gm 42) ∧ ∀ j, (j < 256 * p ∨ 256 * p + 256 ≤ j) → Gc 18 j = Bc 18 j ∧ Gm 42 j = Bm 42 j
/-- what the filter needs of both sides -/
def zf_H (t y w h lv sg : Nat) (o : Nat → Nat) (Gc Gm : zx_G) : Prop := (t ≤ 1 ∧ y ≤ 1 ∧ 1 ≤ w ∧ w ≤ 16 ∧ 1 ≤ h ∧ h ≤ 16 ∧ lv ≤ 1000 ∧ sg ≤ 1000) ∧ (Gc 11 6 = nI (1 + 2 * y) ∧ Gc 11 7 = nI w ∧ Gc 11 8 = nI h ∧ Gc 11 9 = nI (8 + 2 * t) ∧ Gc 11 12 = nI lv ∧ Gc 11 13 = nI sg ∧ Gc 17 4 = nI (ze_top t)) ∧ (Gm 32 16 = nI y ∧ Gm 32 17 = nI t ∧ Gm 32 18 = nI w ∧ Gm 32 19 = nI h ∧ Gm 32 23 = nI lv ∧ Gm 32 24 = nI sg) ∧ ∀ ux uy, 4 * ux < w → 4 * uy < h → o (4 * uy + ux) < 16 ∧ Gc 19 (4 * uy + ux) = nI (o (4 * uy + ux)) ∧ Gm 44 (4 * uy + ux) = nI (o (4 * uy + ux) + 1)
theorem zf_H.keep {t y w h lv sg : Nat} {o : Nat → Nat} {Gc Gm Gc' Gm' : zx_G} (hH : zf_H t y w h lv sg o Gc Gm) (c11 : Gc' 11 = Gc 11) (c17 : Gc' 17 = Gc 17) (c19 : Gc' 19 = Gc 19) (m32 : Gm' 32 = Gm 32) (m44 : Gm' 44 = Gm 44) : zf_H t y w h lv sg o Gc' Gm' := by
  unfold zf_H
  rw [c11, c17, c19, m32, m44]
  exact hH
theorem zf_cols {t y w h lv sg p : Nat} {o : Nat → Nat} {k2 : Int32 → zx_G → Option (Int32 × zx_G)} {Bc Bm : zx_G} (hH : zf_H t y w h lv sg o Bc Bm) (hp : p ≤ 2) (hA : zf_ag t p w h (Bc 18) (Bm 42)) : ∃ Gc Gm, f_F_smoothColumns (nI p) (nI (lv * zf_sc t)) Bc = some (0, Gc) ∧ f_M_filter_23 k2 2048 (nI p) (0 : Int32) Bm = f_M_filter_52 k2 2048 (nI p) (0 : Int32) Gm ∧ zf_RR t p w h Bc Bm Gc Gm := by
  obtain ⟨⟨ht, hy, hw1, hw, hh1, hh, hlv, hsg⟩, ⟨c6, c7, c8, c9, c12, c13, c17⟩, ⟨m16, m17, m18, m19, m23, m24⟩, hO⟩ := hH
  obtain ⟨Gc, a1, a2, a3, a4⟩ := zf_colC (lm := nI (lv * zf_sc t)) (o := o) hp hw1 hw hh c7 c8 (fun ux uy h1 h2 => ⟨(hO ux uy h1 h2).1, (hO ux uy h1 h2).2.1⟩)
  obtain ⟨Gm, b1, b2, b3, b4⟩ := zf_colM (k2 := k2) (o := o) hp hw1 hw hh ht hlv m17 m18 m19 m23 (fun ux uy h1 h2 => ⟨(hO ux uy h1 h2).1, (hO ux uy h1 h2).2.2⟩) (fun x y' h1 h2 => by
    obtain ⟨v, v1, -, v3⟩ := hA x y' h1 (by omega)
    exact ⟨v, v1, v3⟩)
  refine ⟨Gc, Gm, a1, b1, a2, b2, fun x y' hx hy' => ?_, fun j hj => ⟨a4 j (fun y' x h1 h2 => by omega), b4 j (fun y' x h1 h2 => by omega)⟩⟩
  obtain ⟨v, v1, v2, v3⟩ := hA x y' hx hy'
  by_cases c : y' < h
  · have ha := a3 y' x c (by omega)
    have hb := b3 y' x c (by omega)
    rw [if_neg (by omega), c17] at ha
    rw [show zf_k w 256 y' = (w - 1) / 4 by unfold zf_k; omega] at hb
    obtain ⟨u, u1, u2⟩ := zf_part_le (lm := nI (lv * zf_sc t)) (o := o) (p := p) (y := y') ht ⟨v, v1, v2⟩ ((w - 1) / 4)
    refine ⟨u, u1, by rw [ha]; exact u2, ?_⟩
    rw [hb, ← zf_part_eq (w := w) (fun x' hx' => ?_) ((w - 1) / 4) (by omega) x hx]
    · exact u2
    · obtain ⟨v', -, h2, h3⟩ := hA x' y' hx' hy'
      rw [h2, h3]
  · refine ⟨v, v1, ?_, ?_⟩
    · rw [a4 _ (fun y'' x'' h1 h2 => by omega)]; exact v2
    · rw [b4 _ (fun y'' x'' h1 h2 => by omega)]; exact v3
theorem zf_52 {p i n : Nat} (k2 : Int32 → zx_G → Option (Int32 × zx_G)) {G G1 : zx_G} (hi : i < 256) (hs : f_M_smooth (nI p) (nI (i % 16)) (nI (i / 16)) (nI 0) G = some (0, G1)) : f_M_filter_52 k2 (n + 1) (nI p) (nI i) G = f_M_filter_52 k2 n (nI p) (nI (i + 1)) G1 := by
  rw [f_M_filter_52, zp_neg (show ¬ (256 : Int32) ≤ nI i from nI_ge (b := 256) (by omega) (by omega)), zp_gd (by decide), zp_gd (by decide), show zx_rem (nI i) (16 : Int32) = nI (i % 16) from pk_rem (d := 16) (by omega) (by omega) (by omega), show zx_div (nI i) (16 : Int32) = nI (i / 16) from pk_div (d := 16) (by omega) (by omega) (by omega), zp_bd (show f_M_smooth (nI p) (nI (i % 16)) (nI (i / 16)) (0 : Int32) G = _ from hs), zp_lt, nI_1]
theorem zf_52skip {p w h : Nat} (k2 : Int32 → zx_G → Option (Int32 × zx_G)) {G : zx_G} (h18 : G 32 18 = nI w) (h19 : G 32 19 = nI h) (hw : w ≤ 16) (hh : h ≤ 16) : ∀ (rem i n : Nat), i + rem ≤ 256 → (∀ j, i ≤ j → j < i + rem → w ≤ j % 16 ∨ h ≤ j / 16 ∨ j / 16 = 0 ∨ j / 16 % 4 ≠ 0) → f_M_filter_52 k2 (n + rem) (nI p) (nI i) G = f_M_filter_52 k2 n (nI p) (nI (i + rem)) G := by
  intro rem
  induction rem with
  | zero => intro i n _ _; rfl
  | succ rem ih =>
    intro i n hi hj
    have sk := zf_skipM (p := p) (x := i % 16) (y := i / 16) (c := i / 16) (d := 0) h18 h19 hw hh (by omega) (by omega) (Or.inl ⟨rfl, rfl⟩) (hj i (by omega) (by omega))
    rw [show n + (rem + 1) = n + rem + 1 by omega, zf_52 k2 (by omega) sk, ih (i + 1) n (by omega) (fun j h1 h2 => hj j (by omega) (by omega)), show i + 1 + rem = i + (rem + 1) by omega]
theorem zf_rows {t y w h lv sg p : Nat} {o : Nat → Nat} {k2 : Int32 → zx_G → Option (Int32 × zx_G)} {Bc Bm Gc0 Gm0 : zx_G} (hH : zf_H t y w h lv sg o Bc Bm) (hp : p ≤ 2) (h0 : zf_RR t p w h Bc Bm Gc0 Gm0) : ∃ Gc Gm, f_F_smoothRows (nI p) (nI (lv * zf_sc t)) Gc0 = some (0, Gc) ∧ f_M_filter_52 k2 2048 (nI p) (0 : Int32) Gm0 = f_M_filter_79 k2 (nI p) Gm ∧ zf_RR t p w h Bc Bm Gc Gm := by
  obtain ⟨⟨ht, hy, hw1, hw, hh1, hh, hlv, hsg⟩, ⟨c6, c7, c8, c9, c12, c13, c17⟩, ⟨m16, m17, m18, m19, m23, m24⟩, hO⟩ := hH
  have inner : ∀ (k2c : Int32 → Int32 → Int32 → zx_G → Option (Int32 × zx_G)) (e : Nat), 4 * (e + 1) < h → ∀ (rem x n1 : Nat) (Gc Gm : zx_G), x + rem = w → rem < n1 → zf_RR t p w h Bc Bm Gc Gm → ∃ Gc' Gm', f_F_smoothRows_16 k2c n1 (nI p) (nI (lv * zf_sc t)) (nI (4 * (e + 1))) (nI x) Gc = k2c (nI p) (nI (lv * zf_sc t)) (nI (4 * (e + 2))) Gc' ∧ f_M_filter_52 k2 (2048 - (64 * (e + 1) + x)) (nI p) (nI (64 * (e + 1) + x)) Gm = f_M_filter_52 k2 (2048 - (64 * (e + 1) + w)) (nI p) (nI (64 * (e + 1) + w)) Gm' ∧ zf_RR t p w h Bc Bm Gc' Gm' := by
    intro k2c e he rem
    induction rem with
    | zero =>
      intro x n1 Gc Gm hx hn hR
      obtain ⟨n1, rfl⟩ : ∃ k, n1 = k + 1 := ⟨n1 - 1, by omega⟩
      have : x = w := by omega
      subst this
      refine ⟨Gc, Gm, ?_, rfl, hR⟩
      rw [f_F_smoothRows_16, hR.1 11 (by omega), c7, zp_pos (nI_le (by omega) (by omega)), zp_lt, show nI (4 * (e + 1)) + (4 : Int32) = nI (4 * (e + 1) + 4) from nI_add _ 4, show 4 * (e + 1) + 4 = 4 * (e + 2) by omega]
    | succ rem ih =>
      intro x n1 Gc Gm hx hn hR
      obtain ⟨n1, rfl⟩ : ∃ k, n1 = k + 1 := ⟨n1 - 1, by omega⟩
      obtain ⟨r1, r2, r3, r4⟩ := id hR
      obtain ⟨o1, o2, o3⟩ := hO (x / 4) e (by omega) (by omega)
      obtain ⟨p1, p2, p3⟩ := hO (x / 4) (e + 1) (by omega) (by omega)
      have ow1 : f_P_ownerAt (nI x) (nI (4 * (e + 1)) - (1 : Int32)) Gc = some (nI (o (4 * e + x / 4)), Gc) := by
        rw [show nI (4 * (e + 1)) - (1 : Int32) = nI (4 * (e + 1) - 1) from pk_sub (b := 1) (by omega), zt_ownerC (by omega) (by omega), r1 19 (by omega), show (4 * (e + 1) - 1) / 4 = e by omega, o2]
      have ow2 : f_P_ownerAt (nI x) (nI (4 * (e + 1))) Gc = some (nI (o (4 * (e + 1) + x / 4)), Gc) := by
        rw [zt_ownerC (by omega) (by omega), r1 19 (by omega), show 4 * (e + 1) / 4 = e + 1 by omega, p2]
      have hq : (64 * (e + 1) + x) / 16 = 4 * (e + 1) ∧ (64 * (e + 1) + x) % 16 = x := by omega
      have ha := zf_actM (p := p) (o := o) (x := x) (y := 4 * (e + 1)) (st := 16) (d := 0) (u := 4 * (e + 1) + x / 4) (v := 4 * e + x / 4) (G := Gm) (by rw [r2 32 (by omega)]; exact m18) (by rw [r2 32 (by omega)]; exact m19) hw hh (by omega) he (Or.inl ⟨rfl, by omega, by omega, rfl, by omega⟩) (by omega) (by rw [r2 44 (by omega)]; exact p3) (by rw [r2 44 (by omega)]; exact o3) p1 o1
      obtain ⟨Gc1, Gm1, s1, s2, s3⟩ : ∃ Gc1 Gm1, f_F_smoothRows_16 k2c (n1 + 1) (nI p) (nI (lv * zf_sc t)) (nI (4 * (e + 1))) (nI x) Gc = f_F_smoothRows_16 k2c n1 (nI p) (nI (lv * zf_sc t)) (nI (4 * (e + 1))) (nI (x + 1)) Gc1 ∧ f_M_smooth (nI p) (nI x) (nI (4 * (e + 1))) (nI 0) Gm = some (0, Gm1) ∧ zf_RR t p w h Bc Bm Gc1 Gm1 := by
        rw [f_F_smoothRows_16, r1 11 (by omega), c7, zp_neg (nI_ge (by omega) (by omega)), zp_bd ow1, zp_bd ow2, ha]
        have t67 : ∀ H, f_F_smoothRows_67 k2c (f_F_smoothRows_16 k2c n1) (nI p) (nI (lv * zf_sc t)) (nI (4 * (e + 1))) (nI x) H = f_F_smoothRows_16 k2c n1 (nI p) (nI (lv * zf_sc t)) (nI (4 * (e + 1))) (nI (x + 1)) H := fun H => by
          unfold f_F_smoothRows_67
          rw [zp_lt, nI_1]
        by_cases c : o (4 * e + x / 4) = o (4 * (e + 1) + x / 4)
        · exact ⟨Gc, Gm, by rw [zp_pos (by rw [c]), t67], by rw [if_pos c], hR⟩
        · have cn : ¬ nI (o (4 * e + x / 4)) = nI (o (4 * (e + 1) + x / 4)) := fun z => c ((nI_eq (by omega) (by omega)).mp z)
          obtain ⟨Gc1, b1, b2, b3⟩ := zf_smC (pos := 256 * p + 16 * (4 * (e + 1)) + x) (st := 16) (by omega) (by omega) (nI (lv * zf_sc t)) Gc
          obtain ⟨vm1, q1, q2, q3⟩ := r3 x (4 * (e + 1) - 1) (by omega) (by omega)
          obtain ⟨v0, q4, q5, q6⟩ := r3 x (4 * (e + 1)) (by omega) (by omega)
          obtain ⟨vm2, -, q8, q9⟩ := r3 x (4 * (e + 1) - 2) (by omega) (by omega)
          obtain ⟨vp, -, q11, q12⟩ := r3 x (4 * (e + 1) + 1) (by omega) (by omega)
          rw [show 256 * p + 16 * (4 * (e + 1) - 1) + x = 256 * p + 16 * (4 * (e + 1)) + x - 16 by omega] at q2 q3
          rw [show 256 * p + 16 * (4 * (e + 1) - 2) + x = 256 * p + 16 * (4 * (e + 1)) + x - 2 * 16 by omega] at q8 q9
          rw [show 256 * p + 16 * (4 * (e + 1) + 1) + x = 256 * p + 16 * (4 * (e + 1)) + x + 16 by omega] at q11 q12
          have htop := (ze_top_le t).2
          obtain ⟨Gm1, d1, d2, d3⟩ := zf_smM (p := p) (x := x) (y := 4 * (e + 1)) (st := 16) (lv := lv) (a := vm1) (b := v0) (G := Gm) ht (by rw [r2 32 (by omega)]; exact m17) (by rw [r2 32 (by omega)]; exact m23) hlv (Or.inr rfl) (by omega) (by omega) (by omega) (by omega) q3 q6
          refine ⟨Gc1, Gm1, ?_, by rw [if_neg c]; exact d1, fun q hq => (b3 q hq).trans (r1 q hq), fun q hq => (d3 q hq).trans (r2 q hq), ?_, fun j hj => ⟨?_, ?_⟩⟩
          · rw [zp_neg cn, zp_bd (zt_place p x (4 * (e + 1)) Gc), zp_bd (show f_F_smooth (nI (256 * p + 16 * (4 * (e + 1)) + x)) (16 : Int32) (nI (lv * zf_sc t)) Gc = _ from b1), t67]
          · exact r3.st ht (q5.trans q6.symm) (q2.trans q3.symm) (q8.trans q9.symm) (q11.trans q12.symm) (by rw [b2, r1 17 (by omega), c17]) d2
          · rw [b2, zf_st_out (by omega) (by omega)]; exact (r4 j hj).1
          · rw [d2, zf_st_out (by omega) (by omega)]; exact (r4 j hj).2
      obtain ⟨Gc', Gm', e1, e2, e3⟩ := ih (x + 1) n1 Gc1 Gm1 (by omega) (by omega) s3
      refine ⟨Gc', Gm', s1.trans e1, ?_, e3⟩
      rw [show 2048 - (64 * (e + 1) + x) = 2048 - (64 * (e + 1) + (x + 1)) + 1 by omega, zf_52 k2 (by omega) (by rw [hq.1, hq.2]; exact s2)]
      exact e2
  have outer : ∀ (rem e n1 : Nat) (Gc Gm : zx_G), e + rem = (h - 1) / 4 → rem < n1 → zf_RR t p w h Bc Bm Gc Gm → ∃ Gc' Gm', f_F_smoothRows_2 n1 (nI p) (nI (lv * zf_sc t)) (nI (4 * (e + 1))) Gc = some (0, Gc') ∧ f_M_filter_52 k2 (2048 - 64 * (e + 1)) (nI p) (nI (64 * (e + 1))) Gm = f_M_filter_79 k2 (nI p) Gm' ∧ zf_RR t p w h Bc Bm Gc' Gm' := by
    intro rem
    induction rem with
    | zero =>
      intro e n1 Gc Gm he hn hR
      obtain ⟨n1, rfl⟩ : ∃ k, n1 = k + 1 := ⟨n1 - 1, by omega⟩
      refine ⟨Gc, Gm, by rw [f_F_smoothRows_2, hR.1 11 (by omega), c8, zp_pos (nI_le (by omega) (by omega))], ?_, hR⟩
      have sk := zf_52skip (p := p) k2 (G := Gm) (by rw [hR.2.1 32 (by omega)]; exact m18) (by rw [hR.2.1 32 (by omega)]; exact m19) hw hh (256 - 64 * (e + 1)) (64 * (e + 1)) 1792 (by omega) (fun j h1 h2 => by omega)
      rw [show 2048 - 64 * (e + 1) = 1792 + (256 - 64 * (e + 1)) by omega, sk, show 64 * (e + 1) + (256 - 64 * (e + 1)) = 256 by omega]
      show f_M_filter_52 k2 (1791 + 1) _ (nI 256) _ = _
      rw [f_M_filter_52, zp_pos (by decide)]
    | succ rem ih =>
      intro e n1 Gc Gm he hn hR
      obtain ⟨n1, rfl⟩ : ∃ k, n1 = k + 1 := ⟨n1 - 1, by omega⟩
      obtain ⟨Gc1, Gm1, a1, a2, a3⟩ := inner (f_F_smoothRows_2 n1) e (by omega) w 0 2048 Gc Gm (by omega) (by omega) hR
      obtain ⟨Gc', Gm', b1, b2, b3⟩ := ih (e + 1) n1 Gc1 Gm1 (by omega) (by omega) a3
      refine ⟨Gc', Gm', ?_, ?_, b3⟩
      · rw [f_F_smoothRows_2, hR.1 11 (by omega), c8, zp_neg (nI_ge (by omega) (by omega)), zp_lt]
        exact a1.trans b1
      · have sk := zf_52skip (p := p) k2 (G := Gm1) (by rw [a3.2.1 32 (by omega)]; exact m18) (by rw [a3.2.1 32 (by omega)]; exact m19) hw hh (64 - w) (64 * (e + 1) + w) (2048 - 64 * (e + 2)) (by omega) (fun j h1 h2 => by omega)
        rw [show 2048 - 64 * (e + 2) + (64 - w) = 2048 - (64 * (e + 1) + w) by omega, show 64 * (e + 1) + w + (64 - w) = 64 * (e + 2) by omega] at sk
        exact (a2.trans sk).trans b2
  obtain ⟨Gc', Gm', a1, a2, a3⟩ := outer ((h - 1) / 4) 0 2048 Gc0 Gm0 (by omega) (by omega) h0
  refine ⟨Gc', Gm', ?_, ?_, a3⟩
  · unfold f_F_smoothRows
    rw [zp_lt]
    exact a1
  · have sk := zf_52skip (p := p) k2 (G := Gm0) (by rw [h0.2.1 32 (by omega)]; exact m18) (by rw [h0.2.1 32 (by omega)]; exact m19) hw hh 64 0 1984 (by omega) (fun j h1 h2 => by omega)
    exact (show f_M_filter_52 k2 2048 (nI p) (0 : Int32) Gm0 = _ from sk).trans a2
