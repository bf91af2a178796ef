/-! add, word, patch, sample, block, table -/
theorem zp_ltc {a : Nat} {c : Int32} (m : Nat) (hc : c = nI m) (ha : a < 2 ^ 31) (hm : m < 2 ^ 31) : nI a < c ↔ a < m := by rw [hc]; exact nI_ltI ha hm
theorem zp_lec {a : Nat} {c : Int32} (m : Nat) (hc : c = nI m) (ha : a < 2 ^ 31) (hm : m < 2 ^ 31) : nI a ≤ c ↔ a ≤ m := by rw [hc]; exact nI_leI ha hm
theorem zp_clt {a : Nat} {c : Int32} (m : Nat) (hc : c = nI m) (ha : a < 2 ^ 31) (hm : m < 2 ^ 31) : c < nI a ↔ m < a := by rw [hc]; exact nI_ltI hm ha
theorem zp_cle {a : Nat} {c : Int32} (m : Nat) (hc : c = nI m) (ha : a < 2 ^ 31) (hm : m < 2 ^ 31) : c ≤ nI a ↔ m ≤ a := by rw [hc]; exact nI_leI hm ha
theorem zp_eqc {a : Nat} {c : Int32} (m : Nat) (hc : c = nI m) (ha : a < 2 ^ 31) (hm : m < 2 ^ 31) : nI a = c ↔ a = m := by rw [hc]; exact nI_eq ha hm
/-- an int is too small, too great, or a byte -/
theorem zp_byte (b : Int32) : b < 0 ∨ (¬ b < 0 ∧ (255 : Int32) < b) ∨ (¬ b < 0 ∧ ¬ (255 : Int32) < b ∧ ∃ k, k < 256 ∧ b = nI k) := by
  by_cases h : b < 0
  · exact Or.inl h
  · by_cases h2 : (255 : Int32) < b
    · exact Or.inr (Or.inl ⟨h, h2⟩)
    · obtain ⟨j, hj, e⟩ := nI_of h
      refine Or.inr (Or.inr ⟨h, h2, j, ?_, e⟩)
      rw [e, show (255 : Int32) = nI 255 from rfl, nI_ltI (by omega) hj] at h2
      omega
theorem zs_isByte (b : Int32) (G : zx_G) : f_S_isByte b G = some (if b < 0 ∨ (255 : Int32) < b then 0 else 1, G) := by
  unfold f_S_isByte f_S_isByte_15 f_S_isByte_16
  by_cases h : b < 0
  · rw [zp_pos h, if_pos (Or.inl h)]; rfl
  · rw [zp_neg h]
    by_cases h2 : (255 : Int32) < b
    · rw [zp_pos h2, if_pos (Or.inr h2)]; rfl
    · rw [zp_neg h2, if_neg (fun h3 => h3.elim h h2)]; rfl
theorem zp_file_put {G : zx_G} {k : Nat} {b : Int32} (hk : ∀ k, k < 240 → G 1 k = G 33 k) (hb : ∀ k, k < 240 → ∃ b, b < 256 ∧ G 33 k = nI b) (hj : ∃ j, j < 256 ∧ b = nI j) {G2 : zx_G} (e1 : G2 1 = upd (G 1) k b) (e2 : G2 33 = upd (G 33) k b) : (∀ k, k < 240 → G2 1 k = G2 33 k) ∧ (∀ k, k < 240 → ∃ b, b < 256 ∧ G2 33 k = nI b) := by
  refine ⟨fun i hi => ?_, fun i hi => ?_⟩
  · rw [e1, e2]
    by_cases h : i = k
    · subst h; simp [upd]
    · simp [upd, h, hk i hi]
  · rw [e2]
    by_cases h : i = k
    · subst h; simpa [upd] using hj
    · simpa [upd, h] using hb i hi
theorem zo_add (b : Int32) : zp_ok zi_Inv (f_S_add b) (f_M_add b) := by
  intro G h
  obtain ⟨⟨n, h1, h2, h3, h4, h5⟩, h6⟩ := id h
  have eS : f_S_add b G = if b < 0 ∨ (255 : Int32) < b then some (0, G) else if n < 240 then some (1, zx_up (zx_up G 1 n b) 0 8 (nI (n + 1))) else some (0, G) := by
    unfold f_S_add f_S_add_17
    rw [zp_bd (zs_isByte b G)]
    by_cases hb : b < 0 ∨ (255 : Int32) < b
    · rw [if_pos hb, if_pos hb, zp_pos rfl]; rfl
    · rw [if_neg hb, if_neg hb, zp_neg (by decide), h2]
      by_cases hn : n < 240
      · rw [if_pos hn, zp_pos ((zp_ltc (c := (240 : Int32)) 240 rfl (by omega) (by omega)).mpr hn), zp_gd (zp_in hn (by omega)), zp_lt, zp_lt, zp_cl (by omega), zp_ur (by omega), h2, nI_1]; rfl
      · rw [if_neg hn, zp_neg (fun q => hn ((zp_ltc (c := (240 : Int32)) 240 rfl (by omega) (by omega)).mp q))]; rfl
  have eM : ∀ G1 : zx_G, G1 32 0 = nI n → f_M_add b G1 = if b < 0 ∨ (255 : Int32) < b then some (0, G1) else if n < 240 then some (1, zx_up (zx_up G1 33 n b) 32 0 (nI (n + 1))) else some (0, G1) := by
    intro G1 hG
    unfold f_M_add f_M_add_21
    rcases zp_byte b with hb | ⟨hb, hc⟩ | ⟨hb, hc, k, hk, rfl⟩
    · rw [zp_pos hb, if_pos (Or.inl hb)]; rfl
    · rw [zp_neg hb, zp_pos hc, if_pos (Or.inr hc)]; rfl
    · rw [zp_neg hb, zp_neg hc, if_neg (fun q => q.elim hb hc), hG]
      by_cases hn : n < 240
      · rw [if_pos hn, zp_pos ((zp_ltc (c := (240 : Int32)) 240 rfl (by omega) (by omega)).mpr hn), zp_gd (zp_in hn (by omega)), zp_lt, zp_lt, zp_cl (by omega), zp_ur (by omega), hG, nI_1]; rfl
      · rw [if_neg hn, zp_neg (fun q => hn ((zp_ltc (c := (240 : Int32)) 240 rfl (by omega) (by omega)).mp q))]; rfl
  rcases zp_byte b with hb | ⟨hb, hc⟩ | ⟨hb, hc, k, hk, rfl⟩
  · exact ⟨0, G, G, by rw [eS, if_pos (Or.inl hb)], by rw [eM G h3, if_pos (Or.inl hb)], h⟩
  · exact ⟨0, G, G, by rw [eS, if_pos (Or.inr hc)], by rw [eM G h3, if_pos (Or.inr hc)], h⟩
  · have hq : ¬ (nI k < 0 ∨ (255 : Int32) < nI k) := fun q => q.elim hb hc
    by_cases hn : n < 240
    · refine ⟨1, zx_up (zx_up G 1 n (nI k)) 0 8 (nI (n + 1)), zx_up (zx_up (zx_up (zx_up G 1 n (nI k)) 0 8 (nI (n + 1))) 33 n (nI k)) 32 0 (nI (n + 1)), by rw [eS, if_neg hq, if_pos hn], by rw [eM _ (by simp [zp_at, h3]), if_neg hq, if_pos hn], zi_keep h ?_ (fun p g1 g2 g3 g4 => by rw [zp_ur g4, zp_ur g2, zp_ur g3, zp_ur g1]) (by simp [zp_at]) (fun j hj => by simp [zp_at, hj])⟩
      exact ⟨n + 1, by omega, by simp [zp_at], by simp [zp_at], zp_file_put (k := n) h4 h5 ⟨k, hk, rfl⟩ (by rw [zp_ur (by omega), zp_ur (by omega), zp_ur (by omega)]; simp [zx_up, zx_upA]) (by rw [zp_ur (by omega)]; simp [zx_up, zx_upA])⟩
    · exact ⟨0, G, G, by rw [eS, if_neg hq, if_neg hn], by rw [eM G h3, if_neg hq, if_neg hn], h⟩
theorem zo_patch (a b : Int32) : zp_ok zi_Inv (f_S_patch a b) (f_M_patch a b) := by
  intro G h
  obtain ⟨⟨n, h1, h2, h3, h4, h5⟩, h6⟩ := id h
  have no : ∀ (hx : a < 0 ∨ nI n ≤ a ∨ b < 0 ∨ (255 : Int32) < b), ∃ (r : Int32) (G1 G2 : zx_G), f_S_patch a b G = some (r, G1) ∧ f_M_patch a b G1 = some (r, G2) ∧ zi_Inv G2 := by
    intro hx
    refine ⟨-1, G, G, ?_, ?_, h⟩
    · unfold f_S_patch f_S_patch_19
      by_cases c1 : a < 0
      · rw [zp_pos c1]
      · rw [zp_neg c1, h2]
        by_cases c2 : nI n ≤ a
        · rw [zp_pos c2]
        · rw [zp_neg c2, zp_bd (zs_isByte b G), if_pos ((hx.resolve_left c1).resolve_left c2), zp_neg (by decide)]
    · unfold f_M_patch f_M_patch_23
      by_cases c1 : a < 0
      · rw [zp_pos c1]
      · rw [zp_neg c1, h3]
        by_cases c2 : nI n ≤ a
        · rw [zp_pos c2]
        · rw [zp_neg c2]
          by_cases c3 : b < 0
          · rw [zp_pos c3]
          · rw [zp_neg c3, zp_neg (Int32.not_le.mpr (((hx.resolve_left c1).resolve_left c2).resolve_left c3))]
  by_cases c1 : a < 0
  · exact no (Or.inl c1)
  by_cases c2 : nI n ≤ a
  · exact no (Or.inr (Or.inl c2))
  rcases zp_byte b with hb | ⟨hb, hc⟩ | ⟨hb, hc, k, hk, rfl⟩
  · exact no (Or.inr (Or.inr (Or.inl hb)))
  · exact no (Or.inr (Or.inr (Or.inr hc)))
  obtain ⟨j, hj, rfl⟩ := nI_of c1
  have hjn : j < n := by
    rw [nI_leI (by omega) hj] at c2
    omega
  refine ⟨G 1 j, zx_up G 1 j (nI k), zx_up (zx_up G 1 j (nI k)) 33 j (nI k), ?_, ?_, zi_keep h ?_ (fun p g1 g2 g3 g4 => by rw [zp_ur g2, zp_ur g1]) (by simp [zp_at]) (fun j hj => by simp [zp_at])⟩
  · unfold f_S_patch
    rw [zp_neg c1, h2, zp_neg c2, zp_bd (zs_isByte _ G), if_neg (fun q => q.elim hb hc), zp_pos (by decide), zp_gd (zp_in (by omega) (by omega)), zp_lt, zp_gd (zp_in (by omega) (by omega)), zp_lt, zp_cl (by omega)]
  · unfold f_M_patch
    rw [zp_neg c1, zp_ur (by omega), h3, zp_neg c2, zp_neg hb, zp_pos (Int32.not_lt.mp hc), zp_gd (zp_in (by omega) (by omega)), zp_lt, zp_gd (zp_in (by omega) (by omega)), zp_lt, zp_cl (by omega), zp_ur (by omega), h4 j (by omega)]
  · exact ⟨n, h1, by simpa [zp_at] using h2, by simpa [zp_at] using h3, zp_file_put (k := j) h4 h5 ⟨k, hk, rfl⟩ (by rw [zp_ur (by omega)]; simp [zx_up, zx_upA]) (by simp [zx_up, zx_upA])⟩
