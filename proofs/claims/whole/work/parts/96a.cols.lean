/-! the filter: the columns -/
/-- a row after its first edges -/
def zf_part (T lm : Int32) (o : Nat → Nat) (p y : Nat) (S : Nat → Int32) : Nat → (Nat → Int32)
  | 0 => S
  | e + 1 => if o (4 * (y / 4) + e) = o (4 * (y / 4) + (e + 1)) then zf_part T lm o p y S e else zf_st T lm 1 (256 * p + 16 * y + 4 * (e + 1)) (zf_part T lm o p y S e)
theorem zf_part_out {T lm : Int32} {o : Nat → Nat} {p y : Nat} {S : Nat → Int32} {j : Nat} : ∀ e, e ≤ 3 → (∀ x, x < 16 → j ≠ 256 * p + 16 * y + x) → zf_part T lm o p y S e j = S j := by
  intro e
  induction e with
  | zero => intro _ _; rfl
  | succ e ih =>
    intro he hj
    show (if o (4 * (y / 4) + e) = o (4 * (y / 4) + (e + 1)) then zf_part T lm o p y S e else zf_st T lm 1 (256 * p + 16 * y + 4 * (e + 1)) (zf_part T lm o p y S e)) j = S j
    by_cases c : o (4 * (y / 4) + e) = o (4 * (y / 4) + (e + 1))
    · rw [if_pos c]; exact ih (by omega) hj
    · rw [if_neg c, zf_st_out (hj (4 * (e + 1)) (by omega)) (by have := hj (4 * (e + 1) - 1) (by omega); omega)]
      exact ih (by omega) hj
theorem zf_part_eq {T lm : Int32} {o : Nat → Nat} {p y w : Nat} {S S' : Nat → Int32} (h : ∀ x, 4 * (x / 4) < w → S (256 * p + 16 * y + x) = S' (256 * p + 16 * y + x)) : ∀ e, 4 * e < w → ∀ x, 4 * (x / 4) < w → zf_part T lm o p y S e (256 * p + 16 * y + x) = zf_part T lm o p y S' e (256 * p + 16 * y + x) := by
  intro e
  induction e with
  | zero => intro _ x hx; exact h x hx
  | succ e ih =>
    intro he x hx
    have ih' := ih (by omega)
    show (if o (4 * (y / 4) + e) = o (4 * (y / 4) + (e + 1)) then zf_part T lm o p y S e else zf_st T lm 1 (256 * p + 16 * y + 4 * (e + 1)) (zf_part T lm o p y S e)) _ = (if o (4 * (y / 4) + e) = o (4 * (y / 4) + (e + 1)) then zf_part T lm o p y S' e else zf_st T lm 1 (256 * p + 16 * y + 4 * (e + 1)) (zf_part T lm o p y S' e)) _
    by_cases c : o (4 * (y / 4) + e) = o (4 * (y / 4) + (e + 1))
    · rw [if_pos c, if_pos c]; exact ih' x hx
    · rw [if_neg c, if_neg c]
      refine zf_st_loc (ih' _ (by omega)) ?_ ?_ ?_ (ih' x hx)
      · have := ih' (4 * (e + 1) - 1) (by omega)
        rw [show 256 * p + 16 * y + (4 * (e + 1) - 1) = 256 * p + 16 * y + 4 * (e + 1) - 1 by omega] at this
        exact this
      · have := ih' (4 * (e + 1) - 2) (by omega)
        rw [show 256 * p + 16 * y + (4 * (e + 1) - 2) = 256 * p + 16 * y + 4 * (e + 1) - 2 * 1 by omega] at this
        exact this
      · have := ih' (4 * (e + 1) + 1) (by omega)
        exact this
theorem zf_part_le {t : Nat} {lm : Int32} {o : Nat → Nat} {p y : Nat} {S : Nat → Int32} (ht : t ≤ 1) {j : Nat} (h : ∃ v, v ≤ ze_top t ∧ S j = nI v) : ∀ e, ∃ v, v ≤ ze_top t ∧ zf_part (nI (ze_top t)) lm o p y S e j = nI v := by
  intro e
  induction e with
  | zero => exact h
  | succ e ih =>
    show ∃ v, v ≤ ze_top t ∧ (if o (4 * (y / 4) + e) = o (4 * (y / 4) + (e + 1)) then zf_part (nI (ze_top t)) lm o p y S e else zf_st (nI (ze_top t)) lm 1 (256 * p + 16 * y + 4 * (e + 1)) (zf_part (nI (ze_top t)) lm o p y S e)) j = nI v
    by_cases c : o (4 * (y / 4) + e) = o (4 * (y / 4) + (e + 1))
    · rw [if_pos c]; exact ih
    · rw [if_neg c]; exact zf_st_le ht ih
/-- one edge of one row done, on top of a state whose row stands at e edges -/
theorem zf_part_step {T lm : Int32} {o : Nat → Nat} {p y e : Nat} {S R R' : Nat → Int32} (he : e ≤ 2) (hR : ∀ x, x < 16 → R (256 * p + 16 * y + x) = zf_part T lm o p y S e (256 * p + 16 * y + x)) (hR' : R' = if o (4 * (y / 4) + e) = o (4 * (y / 4) + (e + 1)) then R else zf_st T lm 1 (256 * p + 16 * y + 4 * (e + 1)) R) : (∀ x, x < 16 → R' (256 * p + 16 * y + x) = zf_part T lm o p y S (e + 1) (256 * p + 16 * y + x)) ∧ ∀ j, (∀ x, x < 16 → j ≠ 256 * p + 16 * y + x) → R' j = R j := by
  rw [hR']
  refine ⟨fun x hx => ?_, fun j hj => ?_⟩
  · show _ = (if o (4 * (y / 4) + e) = o (4 * (y / 4) + (e + 1)) then zf_part T lm o p y S e else zf_st T lm 1 (256 * p + 16 * y + 4 * (e + 1)) (zf_part T lm o p y S e)) _
    by_cases c : o (4 * (y / 4) + e) = o (4 * (y / 4) + (e + 1))
    · rw [if_pos c, if_pos c]; exact hR x hx
    · rw [if_neg c, if_neg c]
      refine zf_st_loc (hR _ (by omega)) ?_ ?_ ?_ (hR x hx)
      · have := hR (4 * (e + 1) - 1) (by omega)
        rw [show 256 * p + 16 * y + (4 * (e + 1) - 1) = 256 * p + 16 * y + 4 * (e + 1) - 1 by omega] at this
        exact this
      · have := hR (4 * (e + 1) - 2) (by omega)
        rw [show 256 * p + 16 * y + (4 * (e + 1) - 2) = 256 * p + 16 * y + 4 * (e + 1) - 2 * 1 by omega] at this
        exact this
      · have := hR (4 * (e + 1) + 1) (by omega)
        exact this
  · by_cases c : o (4 * (y / 4) + e) = o (4 * (y / 4) + (e + 1))
    · rw [if_pos c]
    · rw [if_neg c]
      exact zf_st_out (hj (4 * (e + 1)) (by omega)) (by have := hj (4 * (e + 1) - 1) (by omega); omega)
/-- the class's columns under way: e edges done, of the rows below y one more -/
def zf_IC (T lm : Int32) (o : Nat → Nat) (p h e y : Nat) (B G : zx_G) : Prop := (∀ q, q ≠ 18 → G q = B q) ∧ (∀ y' x, y' < h → x < 16 → G 18 (256 * p + 16 * y' + x) = zf_part T lm o p y' (B 18) (if y' < y then e + 1 else e) (256 * p + 16 * y' + x)) ∧ ∀ j, (∀ y' x, y' < h → x < 16 → j ≠ 256 * p + 16 * y' + x) → G 18 j = B 18 j
theorem zf_colC {lm : Int32} {o : Nat → Nat} {p w h : Nat} {B : zx_G} (hp : p ≤ 2) (hw1 : 1 ≤ w) (hw : w ≤ 16) (hh : h ≤ 16) (h7 : B 11 7 = nI w) (h8 : B 11 8 = nI h) (hO : ∀ ux uy, 4 * ux < w → 4 * uy < h → o (4 * uy + ux) < 16 ∧ B 19 (4 * uy + ux) = nI (o (4 * uy + ux))) : ∃ G', f_F_smoothColumns (nI p) lm B = some (0, G') ∧ zf_IC (B 17 4) lm o p h ((w - 1) / 4) 0 B G' := by
  have inner : ∀ (k2 : Int32 → Int32 → Int32 → zx_G → Option (Int32 × zx_G)) (e : Nat), 4 * (e + 1) < w → ∀ (rem y n : Nat) (G : zx_G), y + rem = h → rem < n → zf_IC (B 17 4) lm o p h e y B G → ∃ G', f_F_smoothColumns_16 k2 n (nI p) lm (nI (4 * (e + 1))) (nI y) G = k2 (nI p) lm (nI (4 * (e + 2))) G' ∧ zf_IC (B 17 4) lm o p h (e + 1) 0 B G' := by
    intro k2 e he rem
    induction rem with
    | zero =>
      intro y n G hy hn hI
      obtain ⟨n, rfl⟩ : ∃ k, n = k + 1 := ⟨n - 1, by omega⟩
      refine ⟨G, ?_, hI.1, fun y' x h1 h2 => ?_, hI.2.2⟩
      · rw [f_F_smoothColumns_16, hI.1 11 (by omega), h8, zp_pos (nI_le (by omega) (by omega)), zp_lt, show nI (4 * (e + 1)) + (4 : Int32) = nI (4 * (e + 1) + 4) from nI_add _ 4, show 4 * (e + 1) + 4 = 4 * (e + 2) by omega]
      · have := hI.2.1 y' x h1 h2
        rw [if_pos (by omega)] at this
        rw [if_neg (by omega)]
        exact this
    | succ rem ih =>
      intro y n G hy hn hI
      obtain ⟨n, rfl⟩ : ∃ k, n = k + 1 := ⟨n - 1, by omega⟩
      obtain ⟨i1, i2, i3⟩ := id hI
      obtain ⟨o1, o2⟩ := hO e (y / 4) (by omega) (by omega)
      obtain ⟨o3, o4⟩ := hO (e + 1) (y / 4) (by omega) (by omega)
      have ow1 : f_P_ownerAt (nI (4 * (e + 1)) - (1 : Int32)) (nI y) G = some (nI (o (4 * (y / 4) + e)), G) := by
        rw [show nI (4 * (e + 1)) - (1 : Int32) = nI (4 * (e + 1) - 1) from pk_sub (b := 1) (by omega), zt_ownerC (by omega) (by omega), i1 19 (by omega), show (4 * (e + 1) - 1) / 4 = e by omega, o2]
      have ow2 : f_P_ownerAt (nI (4 * (e + 1))) (nI y) G = some (nI (o (4 * (y / 4) + (e + 1))), G) := by
        rw [zt_ownerC (by omega) (by omega), i1 19 (by omega), show 4 * (e + 1) / 4 = e + 1 by omega, o4]
      have hrow : ∀ x, x < 16 → G 18 (256 * p + 16 * y + x) = zf_part (B 17 4) lm o p y (B 18) e (256 * p + 16 * y + x) := fun x hx => by
        have := i2 y x (by omega) hx
        rw [if_neg (by omega)] at this
        exact this
      -- one step
      obtain ⟨G1, s1, s2, s3⟩ : ∃ G1, f_F_smoothColumns_16 k2 (n + 1) (nI p) lm (nI (4 * (e + 1))) (nI y) G = f_F_smoothColumns_16 k2 n (nI p) lm (nI (4 * (e + 1))) (nI (y + 1)) G1 ∧ (G1 18 = if o (4 * (y / 4) + e) = o (4 * (y / 4) + (e + 1)) then G 18 else zf_st (B 17 4) lm 1 (256 * p + 16 * y + 4 * (e + 1)) (G 18)) ∧ ∀ q, q ≠ 18 → G1 q = G q := by
        rw [f_F_smoothColumns_16, i1 11 (by omega), h8, zp_neg (nI_ge (by omega) (by omega)), zp_bd ow1, zp_bd ow2]
        have t66 : ∀ H, f_F_smoothColumns_66 k2 (f_F_smoothColumns_16 k2 n) (nI p) lm (nI (4 * (e + 1))) (nI y) H = f_F_smoothColumns_16 k2 n (nI p) lm (nI (4 * (e + 1))) (nI (y + 1)) H := fun H => by
          unfold f_F_smoothColumns_66
          rw [zp_lt, nI_1]
        by_cases c : o (4 * (y / 4) + e) = o (4 * (y / 4) + (e + 1))
        · exact ⟨G, by rw [zp_pos (by rw [c]), t66], by rw [if_pos c], fun _ _ => rfl⟩
        · have cn : ¬ nI (o (4 * (y / 4) + e)) = nI (o (4 * (y / 4) + (e + 1))) := fun z => c ((nI_eq (by omega) (by omega)).mp z)
          obtain ⟨G1, b1, b2, b3⟩ := zf_smC (pos := 256 * p + 16 * y + 4 * (e + 1)) (st := 1) (by omega) (by omega) lm G
          refine ⟨G1, ?_, by rw [b2, if_neg c, i1 17 (by omega)], b3⟩
          rw [zp_neg cn, zp_bd (zt_place p (4 * (e + 1)) y G), zp_bd (show f_F_smooth (nI (256 * p + 16 * y + 4 * (e + 1))) (1 : Int32) lm G = _ from b1), t66]
      obtain ⟨t1, t2⟩ := zf_part_step (T := B 17 4) (lm := lm) (o := o) (S := B 18) (by omega) hrow s2
      have hI1 : zf_IC (B 17 4) lm o p h e (y + 1) B G1 := by
        refine ⟨fun q hq => (s3 q hq).trans (i1 q hq), fun y' x h1 h2 => ?_, fun j hj => ?_⟩
        · by_cases c : y' = y
          · subst c
            rw [if_pos (by omega)]
            exact t1 x h2
          · rw [t2 _ (fun x' hx' => by omega), i2 y' x h1 h2]
            by_cases d : y' < y
            · rw [if_pos d, if_pos (by omega)]
            · rw [if_neg d, if_neg (by omega)]
        · rw [t2 _ (fun x' hx' => hj y x' (by omega) hx')]
          exact i3 j hj
      obtain ⟨G', c1, c2⟩ := ih (y + 1) n G1 (by omega) (by omega) hI1
      exact ⟨G', s1.trans c1, c2⟩
  have outer : ∀ (rem e n : Nat) (G : zx_G), e + rem = (w - 1) / 4 → rem < n → zf_IC (B 17 4) lm o p h e 0 B G → ∃ G', f_F_smoothColumns_2 n (nI p) lm (nI (4 * (e + 1))) G = some (0, G') ∧ zf_IC (B 17 4) lm o p h ((w - 1) / 4) 0 B G' := by
    intro rem
    induction rem with
    | zero =>
      intro e n G he hn hI
      obtain ⟨n, rfl⟩ : ∃ k, n = k + 1 := ⟨n - 1, by omega⟩
      have : e = (w - 1) / 4 := by omega
      subst this
      exact ⟨G, by rw [f_F_smoothColumns_2, hI.1 11 (by omega), h7, zp_pos (nI_le (by omega) (by omega))], hI⟩
    | succ rem ih =>
      intro e n G he hn hI
      obtain ⟨n, rfl⟩ : ∃ k, n = k + 1 := ⟨n - 1, by omega⟩
      obtain ⟨G1, a1, a2⟩ := inner (f_F_smoothColumns_2 n) e (by omega) h 0 2048 G (by omega) (by omega) hI
      obtain ⟨G', c1, c2⟩ := ih (e + 1) n G1 (by omega) (by omega) a2
      refine ⟨G', ?_, c2⟩
      rw [f_F_smoothColumns_2, hI.1 11 (by omega), h7, zp_neg (nI_ge (by omega) (by omega)), zp_lt]
      exact a1.trans c1
  obtain ⟨G', a1, a2⟩ := outer ((w - 1) / 4) 0 2048 B (by omega) (by omega) ⟨fun _ _ => rfl, fun y' x h1 h2 => by rw [if_neg (by omega)]; rfl, fun _ _ => rfl⟩
  refine ⟨G', ?_, a2⟩
  unfold f_F_smoothColumns
  rw [zp_lt]
  exact a1
