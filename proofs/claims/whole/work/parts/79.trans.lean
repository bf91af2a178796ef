/-! the transform: class against reference -/
theorem zd_yFC (h : Nat) (p : Int32) (hp : (h = 1 ∧ p = 1) ∨ (h = 2 ∧ p = 0)) (r : Nat → Int32) (i : Nat) : zd_FC p r i = zd_y h r i := by
  unfold zd_FC zd_y
  rcases hp with ⟨rfl, rfl⟩ | ⟨rfl, rfl⟩
  · rw [if_neg (by decide), if_pos rfl, Int32.add_comm]
  · rw [if_pos rfl, if_neg (by decide)]
    have e : ∀ a b c d : Int32, ((((2048 : Int32) + a) + b) + c) + d = (((a + b) + c) + d) + (2048 : Int32) := by
      intro a b c d
      rw [Int32.add_comm _ (2048 : Int32), ← Int32.add_assoc, ← Int32.add_assoc, ← Int32.add_assoc]
    rw [e]
theorem zd_big (v : Int32) : zd_lim (2000000000 : Int32) (v >>> ((12 : Int32) &&& 31)) = v >>> ((12 : Int32) &&& 31) := by
  have e := pk_shr v ((12 : Int32) &&& 31) 12 (by decide)
  have a := v.le_toInt
  have b := v.toInt_lt
  rw [Int.shiftRight_eq_div_pow] at e
  have h1 : (-(2000000000 : Int32)) ≤ v >>> ((12 : Int32) &&& 31) := by
    rw [Int32.le_iff_toInt_le, e, show (-(2000000000 : Int32)).toInt = -2000000000 by decide]
    omega
  have h2 : v >>> ((12 : Int32) &&& 31) ≤ (2000000000 : Int32) := by
    rw [Int32.le_iff_toInt_le, e, show (2000000000 : Int32).toInt = 2000000000 by decide]
    omega
  unfold zd_lim
  rw [if_pos h1, if_pos h2]
def zd_eq (Gc Gm : zx_G) : Prop := ∀ k, k < 16 → Gc 24 k = Gm 47 k
/-- the row behind four lines, for rows that agree -/
theorem zd_rowsE {V W : Nat → Int32} {F F' : (Nat → Int32) → Nat → Int32} (g : Int32 → Int32) (h : ∀ k, k < 16 → V k = W k) (hF : ∀ r i, g (F r i) = F' r i) : ∀ k, k < 16 → g (zd_rows F V k) = zd_rows F' W k := by
  intro k hk
  have e : k = 4 * (k / 4) + k % 4 := by omega
  rw [e, zd_rows_at F V _ _ (by omega) (by omega), zd_rows_at F' W _ _ (by omega) (by omega), hF, h _ (by omega), h _ (by omega), h _ (by omega), h _ (by omega)]
theorem zd_colsE {V W : Nat → Int32} {F F' : (Nat → Int32) → Nat → Int32} (h : ∀ k, k < 16 → V k = W k) (hF : ∀ r i, F r i = F' r i) : ∀ k, k < 16 → zd_cols F V k = zd_cols F' W k := by
  intro k hk
  have e : k = k % 4 + 4 * (k / 4) := by omega
  rw [e, zd_cols_at F V _ _ (by omega) (by omega), zd_cols_at F' W _ _ (by omega) (by omega), hF, h _ (by omega), h _ (by omega), h _ (by omega), h _ (by omega)]
/-- the reference's side: what it needs of its other rows -/
def zd_I (q : Nat) (B G : zx_G) : Prop := B 32 21 = nI q ∧ (∀ k, k < 16 → B 52 k = zx_tab2 k) ∧ ∀ r, r ≠ 47 → r ≠ 48 → G r = B r
theorem zd_I.q {q : Nat} {B G : zx_G} (h : zd_I q B G) : G 32 21 = nI q := by rw [h.2.2 32 (by omega) (by omega)]; exact h.1
theorem zd_I.w {q : Nat} {B G : zx_G} (h : zd_I q B G) : ∀ k, k < 16 → G 52 k = zx_tab2 k := by rw [h.2.2 52 (by omega) (by omega)]; exact h.2.1
theorem zd_I.up {q : Nat} {B G : zx_G} (h : zd_I q B G) (k : Nat) (x : Int32) : zd_I q B (zx_up G 47 k x) := ⟨h.1, h.2.1, fun r h1 h2 => by rw [zp_ur h1]; exact h.2.2 r h1 h2⟩
theorem zd_I.turn {q : Nat} {B G G' : zx_G} (h : zd_I q B G) (wm : ∀ r, r ∉ R_M_turn → G' r = G r) : zd_I q B G' := ⟨h.1, h.2.1, fun r h1 h2 => by rw [wm r (by simp [R_M_turn, h1, h2])]; exact h.2.2 r h1 h2⟩
def zd_h1 (q ty : Nat) : Nat := if q = 0 then 0 else if ty % 2 = 1 then 1 else 2
def zd_h2 (q ty : Nat) : Nat := if q = 0 then 0 else if ty / 2 = 1 then 1 else 2
theorem zd_M_rows {q ty : Nat} (hq : q ≤ 63) (ht : ty ≤ 3) {B : zx_G} (G : zx_G) (hI : zd_I q B G) : ∃ G', f_M_differences_257 (nI ty) G = f_M_differences_310 2048 (nI ty) (0 : Int32) G' ∧ zd_I q B G' ∧ G' 47 = zd_rows (zd_FM (zd_h1 q ty) (32767 : Int32)) (G 47) := by
  have hh : zd_h1 q ty ≤ 2 := by unfold zd_h1; (repeat' split) <;> omega
  obtain ⟨G', a1, a2, a3⟩ := zd_4C (fun n x G => f_M_differences_260 n (nI ty) x G) (fun G => f_M_differences_310 2048 (nI ty) (0 : Int32) G) (fun i G G' => f_M_turn (nI (4 * i)) (nI 1) (nI (zd_h1 q ty)) (32767 : Int32) G = some (0, G')) (zd_FM (zd_h1 q ty) (32767 : Int32)) 47 4 1 (zd_I q B)
    (fun i G hi hG => by
      obtain ⟨G', e1, e2⟩ := zd_turnL (a := 4 * i) (st := 1) hh (by omega) (32767 : Int32) G hG.w
      have wm := w_M_turn _ _ _ _ _ e1
      exact ⟨G', e1, hG.turn wm, e2⟩)
    (fun n i G G' hi hl hG => by
      show f_M_differences_260 (n + 1) (nI ty) (nI i) G = f_M_differences_260 n (nI ty) (nI (i + 1)) G'
      rw [f_M_differences_260, zp_neg (zd_c4 hi), hG.q, show (4 : Int32) * nI i = nI (4 * i) from pk_mul 4 i]
      unfold f_M_differences_295
      unfold zd_h1 at hl
      by_cases c0 : q = 0
      · rw [if_pos c0] at hl
        rw [zp_neg (fun z => z (by rw [c0]; rfl)), zp_bd (show f_M_turn (nI (4 * i)) (1 : Int32) (0 : Int32) (32767 : Int32) G = some (0, G') from hl), zp_lt, nI_1]
      · rw [if_neg c0] at hl
        rw [zp_pos (nI_ne0 (by omega) (by omega)), zp_gd (c := zx_nz (2 : Int32)) rfl]
        have er : zx_rem (nI ty) (2 : Int32) = nI (ty % 2) := by unfold zx_rem; exact pk_rem (d := 2) (by omega) (by omega) (by omega)
        rw [er]
        by_cases c1 : ty % 2 = 1
        · rw [if_pos c1] at hl
          rw [zp_neg (fun z => z (by rw [c1]; rfl)), zp_bd (show f_M_turn (nI (4 * i)) (1 : Int32) (1 : Int32) (32767 : Int32) G = some (0, G') from hl), zp_lt, nI_1]
        · rw [if_neg c1] at hl
          rw [zp_pos (show ¬ nI (ty % 2) = (1 : Int32) from fun z => c1 ((zp_eqc (c := (1 : Int32)) 1 rfl (by omega) (by omega)).mp z)), zp_bd (show f_M_turn (nI (4 * i)) (1 : Int32) (2 : Int32) (32767 : Int32) G = some (0, G') from hl), zp_lt, nI_1])
    (fun n G _ => by
      show f_M_differences_260 (n + 1) (nI ty) (nI 4) G = _
      rw [f_M_differences_260, zp_pos (by decide), zp_lt]) G hI
  exact ⟨G', by unfold f_M_differences_257; rw [zp_lt]; exact a1, a2, a3⟩
theorem zd_M_cols {q ty : Nat} (hq : q ≤ 63) (ht : ty ≤ 3) {B : zx_G} (G : zx_G) (hI : zd_I q B G) : ∃ G', f_M_differences_310 2048 (nI ty) (0 : Int32) G = f_M_differences_358 2048 (0 : Int32) G' ∧ zd_I q B G' ∧ G' 47 = zd_cols (zd_FM (zd_h2 q ty) (2000000000 : Int32)) (G 47) := by
  have hh : zd_h2 q ty ≤ 2 := by unfold zd_h2; (repeat' split) <;> omega
  obtain ⟨G', a1, a2, a3⟩ := zd_4C (fun n x G => f_M_differences_310 n (nI ty) x G) (fun G => f_M_differences_358 2048 (0 : Int32) G) (fun i G G' => f_M_turn (nI (1 * i)) (nI 4) (nI (zd_h2 q ty)) (2000000000 : Int32) G = some (0, G')) (zd_FM (zd_h2 q ty) (2000000000 : Int32)) 47 1 4 (zd_I q B)
    (fun i G hi hG => by
      obtain ⟨G', e1, e2⟩ := zd_turnL (a := 1 * i) (st := 4) hh (by omega) (2000000000 : Int32) G hG.w
      have wm := w_M_turn _ _ _ _ _ e1
      exact ⟨G', e1, hG.turn wm, e2⟩)
    (fun n i G G' hi hl hG => by
      show f_M_differences_310 (n + 1) (nI ty) (nI i) G = f_M_differences_310 n (nI ty) (nI (i + 1)) G'
      rw [Nat.one_mul] at hl
      rw [f_M_differences_310, zp_neg (zd_c4 hi), hG.q]
      unfold f_M_differences_343
      unfold zd_h2 at hl
      by_cases c0 : q = 0
      · rw [if_pos c0] at hl
        rw [zp_neg (fun z => z (by rw [c0]; rfl)), zp_bd (show f_M_turn (nI i) (4 : Int32) (0 : Int32) (2000000000 : Int32) G = some (0, G') from hl), zp_lt, nI_1]
      · rw [if_neg c0] at hl
        rw [zp_pos (nI_ne0 (by omega) (by omega)), zp_gd (c := zx_nz (2 : Int32)) rfl]
        have er : zx_div (nI ty) (2 : Int32) = nI (ty / 2) := by unfold zx_div; exact pk_div (d := 2) (by omega) (by omega) (by omega)
        rw [er]
        by_cases c1 : ty / 2 = 1
        · rw [if_pos c1] at hl
          rw [zp_neg (fun z => z (by rw [c1]; rfl)), zp_bd (show f_M_turn (nI i) (4 : Int32) (1 : Int32) (2000000000 : Int32) G = some (0, G') from hl), zp_lt, nI_1]
        · rw [if_neg c1] at hl
          rw [zp_pos (show ¬ nI (ty / 2) = (1 : Int32) from fun z => c1 ((zp_eqc (c := (1 : Int32)) 1 rfl (by omega) (by omega)).mp z)), zp_bd (show f_M_turn (nI i) (4 : Int32) (2 : Int32) (2000000000 : Int32) G = some (0, G') from hl), zp_lt, nI_1])
    (fun n G _ => by
      show f_M_differences_310 (n + 1) (nI ty) (nI 4) G = _
      rw [f_M_differences_310, zp_pos (by decide), zp_lt]) G hI
  exact ⟨G', a1, a2, a3⟩
theorem zd_M_end {q : Nat} (hq : q ≤ 63) {B : zx_G} (G : zx_G) (hI : zd_I q B G) : ∃ G', f_M_differences_358 2048 (0 : Int32) G = some (0, G') ∧ zd_I q B G' ∧ ∀ k, k < 16 → G' 47 k = if q = 0 then G 47 k >>> ((2 : Int32) &&& 31) else (G 47 k + (8 : Int32)) >>> ((4 : Int32) &&& 31) := by
  obtain ⟨G', a1, a2, a3, -⟩ := zd_map (fun n x G => f_M_differences_358 n x G) (fun G => some ((0 : Int32), G)) 47 16 (fun _ v => if q = 0 then v >>> ((2 : Int32) &&& 31) else (v + (8 : Int32)) >>> ((4 : Int32) &&& 31)) (zd_I q B) (fun G k x h => h.up k x)
    (fun n i G hi hG => by
      show f_M_differences_358 (n + 1) (nI i) G = f_M_differences_358 n (nI (i + 1)) _
      rw [f_M_differences_358, zp_neg (zd_c16 hi), hG.q]
      unfold f_M_differences_402
      by_cases c0 : q = 0
      · rw [zp_neg (fun z => z (by rw [c0]; rfl)), zp_gd (zp_in hi (by omega)), zp_gd (zp_in hi (by omega)), zp_lt, zp_lt, zp_cl (by omega), nI_1, if_pos c0]
      · rw [zp_pos (nI_ne0 (by omega) (by omega)), zp_gd (zp_in hi (by omega)), zp_gd (zp_in hi (by omega)), zp_lt, zp_lt, zp_cl (by omega), nI_1, if_neg c0])
    (fun n G _ => by
      show f_M_differences_358 (n + 1) (nI 16) G = _
      rw [f_M_differences_358, zp_pos (by decide)]) 16 0 2048 G hI (by omega) (by omega)
  exact ⟨G', a1, a2, fun k hk => by rw [a3 k, if_pos (by omega)]⟩
