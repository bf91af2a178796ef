/-! pure rows: words of the functions; the law out of an invariant -/
theorem zp_gd {α : Type} {c : Bool} {x : Option α} (h : c = true) : zx_gd c x = x := by subst h; rfl
theorem zp_bd {β : Type} {x : Option (Int32 × zx_G)} {k : Int32 → zx_G → Option β} {r : Int32} {G : zx_G} (h : x = some (r, G)) : zx_bd x k = k r G := by subst h; rfl
theorem zp_lt {α β : Type} {v : α} {k : α → Option β} : zx_lt v k = k v := rfl
theorem zp_pos {α : Type} {c : Prop} [Decidable c] {x y : Option α} (h : c) : zx_if c x y = x := if_pos h
theorem zp_neg {α : Type} {c : Prop} [Decidable c] {x y : Option α} (h : ¬ c) : zx_if c x y = y := if_neg h
theorem zp_in {j N : Nat} (h : j < N) (hN : N < 2 ^ 31) : zx_in (nI j) N = true := decide_eq_true (nI_in h hN)
theorem zp_cl {j : Nat} (h : j < 2 ^ 31) : (nI j).toNatClampNeg = j := nI_clamp h
/-- class and reference, one behind the other, answer alike and keep the invariant -/
def zp_ok (Inv : zx_G → Prop) (fs fm : zx_G → Option (Int32 × zx_G)) : Prop := ∀ G, Inv G → ∃ (r : Int32) (G1 G2 : zx_G), fs G = some (r, G1) ∧ fm G1 = some (r, G2) ∧ Inv G2
theorem zp_toI {n : Nat} (h : n < 2 ^ 31) : (nI n).toInt = (n : Int) := nI_toInt h
theorem zp_end {L i : Nat} (hL : L ≤ 2048) (hi : i ≤ 2052) (h : L < i + 4) : ((Int32.ofNat L) - (4 : Int32)) < nI i := by
  rw [Int32.lt_iff_toInt_lt]
  have e : (nI L - nI 4).toInt = (L : Int) - (4 : Nat) := pk_sub_toInt (by omega) (by omega)
  have e2 : ((Int32.ofNat L) - (4 : Int32)).toInt = (L : Int) - (4 : Nat) := e
  rw [e2, nI_toInt (by omega)]
  omega
theorem zp_nend {L i : Nat} (hL : L ≤ 2048) (h : ¬ L < i + 4) : ¬ ((Int32.ofNat L) - (4 : Int32)) < nI i := by
  rw [Int32.lt_iff_toInt_lt]
  have e : (nI L - nI 4).toInt = (L : Int) - (4 : Nat) := pk_sub_toInt (by omega) (by omega)
  have e2 : ((Int32.ofNat L) - (4 : Int32)).toInt = (L : Int) - (4 : Nat) := e
  rw [e2, nI_toInt (by omega)]
  omega
set_option maxHeartbeats 4000000 in
set_option maxRecDepth 100000 in
theorem zp_loop (Inv : zx_G → Prop) (h_add : ∀ x1 : Int32, zp_ok Inv (f_S_add x1) (f_M_add x1)) (h_word : ∀ x1 : Int32, zp_ok Inv (f_S_word x1) (f_M_word x1)) (h_patch : ∀ x1 x2 : Int32, zp_ok Inv (f_S_patch x1 x2) (f_M_patch x1 x2)) (h_clear : zp_ok Inv (f_S_clear) (f_M_clear)) (h_size : zp_ok Inv (f_S_size) (f_M_size)) (h_decode : zp_ok Inv (f_S_decode) (f_M_decode)) (h_planes : zp_ok Inv (f_S_planes) (f_M_planes)) (h_width : zp_ok Inv (f_S_width) (f_M_width)) (h_height : zp_ok Inv (f_S_height) (f_M_height)) (h_depth : zp_ok Inv (f_S_depth) (f_M_depth)) (h_sample : ∀ x1 x2 x3 : Int32, zp_ok Inv (f_S_sample x1 x2 x3) (f_M_sample x1 x2 x3)) (h_block : ∀ x1 x2 x3 : Int32, zp_ok Inv (f_S_block x1 x2 x3) (f_M_block x1 x2 x3)) (h_blocks : zp_ok Inv (f_S_blocks) (f_M_blocks)) (h_symbols : zp_ok Inv (f_S_symbols) (f_M_symbols)) (h_taken : zp_ok Inv (f_S_taken) (f_M_taken)) (h_table : ∀ x1 x2 : Int32, zp_ok Inv (f_S_table x1 x2) (f_M_table x1 x2)) {L : Nat} (hL : L ≤ 2048) (xs : Nat → Int32) : ∀ (n i : Nat) (G : zx_G), Inv G → i ≤ 2052 → L < 4 * n + i ∧ 0 < n → ∃ G1, f_L_law_18 L xs n (nI i) G = some (1, G1) := by
  intro n
  induction n with
  | zero =>
    intro i G hG hi hn
    exact absurd hn.2 (Nat.lt_irrefl 0)
  | succ n ih =>
    intro i G hG hi hn
    unfold f_L_law_18
    by_cases hlt : L < i + 4
    · rw [zp_pos (zp_end hL hi hlt)]
      exact ⟨G, rfl⟩
    · rw [zp_neg (zp_nend hL hlt)]
      have b0 : zx_in (nI i) L = true := zp_in (by omega) (by omega)
      have b1 : zx_in (nI i + (1 : Int32)) L = true := by rw [show nI i + (1 : Int32) = nI (i + 1) from nI_add i 1]; exact zp_in (by omega) (by omega)
      have b2 : zx_in (nI i + (2 : Int32)) L = true := by rw [show nI i + (2 : Int32) = nI (i + 2) from nI_add i 2]; exact zp_in (by omega) (by omega)
      have b3 : zx_in (nI i + (3 : Int32)) L = true := by rw [show nI i + (3 : Int32) = nI (i + 3) from nI_add i 3]; exact zp_in (by omega) (by omega)
      have go : ∀ G2, Inv G2 → ∃ G1, f_L_law_438 L xs (f_L_law_18 L xs n) (nI i) G2 = some (1, G1) := by
        intro G2 hG2
        unfold f_L_law_438
        rw [zp_lt, show nI i + (4 : Int32) = nI (i + 4) from nI_add i 4]
        exact ih (i + 4) G2 hG2 (by omega) (by omega)
      rw [zp_gd b0]
      generalize (xs (Int32.toNatClampNeg (nI i)) &&& (15 : Int32)) = v
      by_cases c0 : v = (0 : Int32)
      · rw [zp_pos c0]
        obtain ⟨r, G1, G2, e1, e2, hI⟩ := h_add (xs (Int32.toNatClampNeg (nI i + (1 : Int32)))) G hG
        rw [zp_gd b1, zp_bd e1, zp_gd b1, zp_bd e2, zp_pos rfl]
        exact go G2 hI
      rw [zp_neg c0]
      by_cases c1 : v = (1 : Int32)
      · rw [zp_pos c1]
        obtain ⟨r, G1, G2, e1, e2, hI⟩ := h_word (xs (Int32.toNatClampNeg (nI i + (1 : Int32)))) G hG
        rw [zp_gd b1, zp_bd e1, zp_gd b1, zp_bd e2, zp_pos rfl]
        exact go G2 hI
      rw [zp_neg c1]
      by_cases c2 : v = (2 : Int32)
      · rw [zp_pos c2]
        obtain ⟨r, G1, G2, e1, e2, hI⟩ := h_patch (xs (Int32.toNatClampNeg (nI i + (1 : Int32)))) (xs (Int32.toNatClampNeg (nI i + (2 : Int32)))) G hG
        rw [zp_gd b1, zp_gd b2, zp_bd e1, zp_gd b1, zp_gd b2, zp_bd e2, zp_pos rfl]
        exact go G2 hI
      rw [zp_neg c2]
      by_cases c3 : v = (3 : Int32)
      · rw [zp_pos c3]
        obtain ⟨r, G1, G2, e1, e2, hI⟩ := h_clear G hG
        rw [zp_bd e1, zp_bd e2]
        exact go G2 hI
      rw [zp_neg c3]
      by_cases c4 : v = (4 : Int32)
      · rw [zp_pos c4]
        obtain ⟨r, G1, G2, e1, e2, hI⟩ := h_size G hG
        rw [zp_bd e1, zp_bd e2, zp_pos rfl]
        exact go G2 hI
      rw [zp_neg c4]
      by_cases c5 : v = (5 : Int32)
      · rw [zp_pos c5]
        obtain ⟨r, G1, G2, e1, e2, hI⟩ := h_decode G hG
        rw [zp_bd e1, zp_bd e2, zp_pos rfl]
        exact go G2 hI
      rw [zp_neg c5]
      by_cases c6 : v = (6 : Int32)
      · rw [zp_pos c6]
        obtain ⟨r, G1, G2, e1, e2, hI⟩ := h_planes G hG
        rw [zp_bd e1, zp_bd e2, zp_pos rfl]
        exact go G2 hI
      rw [zp_neg c6]
      by_cases c7 : v = (7 : Int32)
      · rw [zp_pos c7]
        obtain ⟨r, G1, G2, e1, e2, hI⟩ := h_width G hG
        rw [zp_bd e1, zp_bd e2, zp_pos rfl]
        exact go G2 hI
      rw [zp_neg c7]
      by_cases c8 : v = (8 : Int32)
      · rw [zp_pos c8]
        obtain ⟨r, G1, G2, e1, e2, hI⟩ := h_height G hG
        rw [zp_bd e1, zp_bd e2, zp_pos rfl]
        exact go G2 hI
      rw [zp_neg c8]
      by_cases c9 : v = (9 : Int32)
      · rw [zp_pos c9]
        obtain ⟨r, G1, G2, e1, e2, hI⟩ := h_depth G hG
        rw [zp_bd e1, zp_bd e2, zp_pos rfl]
        exact go G2 hI
      rw [zp_neg c9]
      by_cases c10 : v = (10 : Int32)
      · rw [zp_pos c10]
        obtain ⟨r, G1, G2, e1, e2, hI⟩ := h_sample (xs (Int32.toNatClampNeg (nI i + (1 : Int32)))) (xs (Int32.toNatClampNeg (nI i + (2 : Int32)))) (xs (Int32.toNatClampNeg (nI i + (3 : Int32)))) G hG
        rw [zp_gd b1, zp_gd b2, zp_gd b3, zp_bd e1, zp_gd b1, zp_gd b2, zp_gd b3, zp_bd e2, zp_pos rfl]
        exact go G2 hI
      rw [zp_neg c10]
      by_cases c11 : v = (11 : Int32)
      · rw [zp_pos c11]
        obtain ⟨r, G1, G2, e1, e2, hI⟩ := h_block (xs (Int32.toNatClampNeg (nI i + (1 : Int32)))) (xs (Int32.toNatClampNeg (nI i + (2 : Int32)))) (xs (Int32.toNatClampNeg (nI i + (3 : Int32)))) G hG
        rw [zp_gd b1, zp_gd b2, zp_gd b3, zp_bd e1, zp_gd b1, zp_gd b2, zp_gd b3, zp_bd e2, zp_pos rfl]
        exact go G2 hI
      rw [zp_neg c11]
      by_cases c12 : v = (12 : Int32)
      · rw [zp_pos c12]
        obtain ⟨r, G1, G2, e1, e2, hI⟩ := h_blocks G hG
        rw [zp_bd e1, zp_bd e2, zp_pos rfl]
        exact go G2 hI
      rw [zp_neg c12]
      by_cases c13 : v = (13 : Int32)
      · rw [zp_pos c13]
        obtain ⟨r, G1, G2, e1, e2, hI⟩ := h_symbols G hG
        rw [zp_bd e1, zp_bd e2, zp_pos rfl]
        exact go G2 hI
      rw [zp_neg c13]
      by_cases c14 : v = (14 : Int32)
      · rw [zp_pos c14]
        obtain ⟨r, G1, G2, e1, e2, hI⟩ := h_taken G hG
        rw [zp_bd e1, zp_bd e2, zp_pos rfl]
        exact go G2 hI
      rw [zp_neg c14]
      by_cases c15 : v = (15 : Int32)
      · rw [zp_pos c15]
        obtain ⟨r, G1, G2, e1, e2, hI⟩ := h_table (xs (Int32.toNatClampNeg (nI i + (1 : Int32)))) (xs (Int32.toNatClampNeg (nI i + (2 : Int32)))) G hG
        rw [zp_gd b1, zp_gd b2, zp_bd e1, zp_gd b1, zp_gd b2, zp_bd e2, zp_pos rfl]
        exact go G2 hI
      rw [zp_neg c15]
      exact go G hG

theorem zp_law (Inv : zx_G → Prop) (h0 : Inv zx_G0) (h_add : ∀ x1 : Int32, zp_ok Inv (f_S_add x1) (f_M_add x1)) (h_word : ∀ x1 : Int32, zp_ok Inv (f_S_word x1) (f_M_word x1)) (h_patch : ∀ x1 x2 : Int32, zp_ok Inv (f_S_patch x1 x2) (f_M_patch x1 x2)) (h_clear : zp_ok Inv (f_S_clear) (f_M_clear)) (h_size : zp_ok Inv (f_S_size) (f_M_size)) (h_decode : zp_ok Inv (f_S_decode) (f_M_decode)) (h_planes : zp_ok Inv (f_S_planes) (f_M_planes)) (h_width : zp_ok Inv (f_S_width) (f_M_width)) (h_height : zp_ok Inv (f_S_height) (f_M_height)) (h_depth : zp_ok Inv (f_S_depth) (f_M_depth)) (h_sample : ∀ x1 x2 x3 : Int32, zp_ok Inv (f_S_sample x1 x2 x3) (f_M_sample x1 x2 x3)) (h_block : ∀ x1 x2 x3 : Int32, zp_ok Inv (f_S_block x1 x2 x3) (f_M_block x1 x2 x3)) (h_blocks : zp_ok Inv (f_S_blocks) (f_M_blocks)) (h_symbols : zp_ok Inv (f_S_symbols) (f_M_symbols)) (h_taken : zp_ok Inv (f_S_taken) (f_M_taken)) (h_table : ∀ x1 x2 : Int32, zp_ok Inv (f_S_table x1 x2) (f_M_table x1 x2)) {L : Nat} (hL : L ≤ 2048) (xs : Nat → Int32) : ∃ G1, f_L_law L xs zx_G0 = some (1, G1) := by
  unfold f_L_law
  rw [zp_lt]
  exact zp_loop Inv h_add h_word h_patch h_clear h_size h_decode h_planes h_width h_height h_depth h_sample h_block h_blocks h_symbols h_taken h_table hL xs 600 0 zx_G0 h0 (by omega) (by omega)
