/-! the invariant between the calls, and the calls that don't decode -/
theorem zp_us {G : zx_G} {p k : Nat} {x : Int32} : zx_up G p k x p k = x := by simp [zx_up, zx_upA, upd]
theorem zp_ur {G : zx_G} {p k p' : Nat} {x : Int32} (h : ¬ p' = p) : zx_up G p k x p' = G p' := by simp [zx_up, zx_upA, h]
theorem zp_uk {G : zx_G} {p k k' : Nat} {x : Int32} (h : ¬ k' = k) : zx_up G p k x p k' = G p k' := by simp [zx_up, zx_upA, upd, h]
theorem zp_at {G : zx_G} {p k p' k' : Nat} {x : Int32} : zx_up G p k x p' k' = if p' = p ∧ k' = k then x else G p' k' := by
  by_cases h : p' = p
  · subst h
    by_cases h2 : k' = k
    · subst h2; simp [zp_us]
    · simp [zp_uk h2, h2]
  · simp [zp_ur h, h]
def zi_file (G : zx_G) : Prop := ∃ n, n ≤ 240 ∧ G 0 8 = nI n ∧ G 32 0 = nI n ∧ (∀ k, k < 240 → G 1 k = G 33 k) ∧ (∀ k, k < 240 → ∃ b, b < 256 ∧ G 33 k = nI b)
def zi_pic (G : zx_G) : Prop := ∃ y t w h : Nat, y ≤ 1 ∧ t ≤ 1 ∧ 1 ≤ w ∧ w ≤ 16 ∧ 1 ≤ h ∧ h ≤ 16 ∧ G 32 16 = nI y ∧ G 11 6 = nI (1 + 2 * y) ∧ G 32 17 = nI t ∧ G 11 9 = nI (8 + 2 * t) ∧ G 32 18 = nI w ∧ G 11 7 = nI w ∧ G 32 19 = nI h ∧ G 11 8 = nI h ∧
  (∀ p b a, p < 1 + 2 * y → b < h → a < w → G 18 (256 * p + 16 * b + a) = G 42 (256 * p + 16 * b + a)) ∧
  (∀ b a, b < h → a < w → ∃ o, o < 16 ∧ G 19 (b / 4 * 4 + a / 4) = nI o ∧ G 44 (b / 4 * 4 + a / 4) = nI (o + 1) ∧ ∀ v, v < 4 → G 20 (4 * o + v) = G 45 (4 * (o + 1) + v)) ∧
  G 17 3 = G 32 37 ∧ G 14 9 = G 32 30 ∧ G 14 8 = G 32 29 ∧ (∀ c i, c < 19 → nI i < zx_tab0 c → i < 16 → G 15 (16 * c + i) = G 40 (16 * c + i))
def zi_Inv (G : zx_G) : Prop := zi_file G ∧ (G 0 9 = G 32 33 ∧ (G 0 9 = 0 ∨ (G 0 9 = 1 ∧ zi_pic G))) ∧ G 51 = zx_G0 51 ∧ G 52 = zx_G0 52
theorem zi_0 : zi_Inv zx_G0 := ⟨⟨0, by omega, rfl, rfl, fun _ _ => rfl, fun _ _ => ⟨0, by omega, rfl⟩⟩, ⟨rfl, Or.inl rfl⟩, rfl, rfl⟩
/-- what the files alone change leaves the rest as it is -/
theorem zi_keep {G G2 : zx_G} (h : zi_Inv G) (hf : zi_file G2) (hr : ∀ p, p ≠ 1 → p ≠ 33 → p ≠ 0 → p ≠ 32 → G2 p = G p) (h9 : G2 0 9 = G 0 9) (hm : ∀ k, k ≠ 0 → G2 32 k = G 32 k) : zi_Inv G2 := by
  obtain ⟨-, ⟨hd, hp⟩, h51, h52⟩ := h
  refine ⟨hf, ⟨by rw [h9, hm 33 (by omega)]; exact hd, ?_⟩, by rw [hr 51 (by omega) (by omega) (by omega) (by omega)]; exact h51, by rw [hr 52 (by omega) (by omega) (by omega) (by omega)]; exact h52⟩
  rw [h9]
  rcases hp with hp | ⟨hp, y, t, w, h, a1, a2, a3, a4, a5, a6, b1, b2, b3, b4, b5, b6, b7, b8, c1, c2, c3, c4, c5, c6⟩
  · exact Or.inl hp
  · refine Or.inr ⟨hp, y, t, w, h, a1, a2, a3, a4, a5, a6, ?_⟩
    rw [hm 16 (by omega), hm 17 (by omega), hm 18 (by omega), hm 19 (by omega), hm 37 (by omega), hm 30 (by omega), hm 29 (by omega), hr 11 (by omega) (by omega) (by omega) (by omega), hr 18 (by omega) (by omega) (by omega) (by omega), hr 42 (by omega) (by omega) (by omega) (by omega), hr 19 (by omega) (by omega) (by omega) (by omega), hr 44 (by omega) (by omega) (by omega) (by omega), hr 20 (by omega) (by omega) (by omega) (by omega), hr 45 (by omega) (by omega) (by omega) (by omega), hr 17 (by omega) (by omega) (by omega) (by omega), hr 14 (by omega) (by omega) (by omega) (by omega), hr 15 (by omega) (by omega) (by omega) (by omega), hr 40 (by omega) (by omega) (by omega) (by omega)]
    exact ⟨b1, b2, b3, b4, b5, b6, b7, b8, c1, c2, c3, c4, c5, c6⟩
theorem zo_size : zp_ok zi_Inv f_S_size f_M_size := by
  intro G h
  obtain ⟨⟨n, h1, h2, h3, h4⟩, h5⟩ := h
  exact ⟨nI n, G, G, by unfold f_S_size; rw [h2], by unfold f_M_size; rw [h3], ⟨n, h1, h2, h3, h4⟩, h5⟩
theorem zo_clear : zp_ok zi_Inv f_S_clear f_M_clear := by
  intro G h
  refine ⟨0, zx_up G 0 8 0, zx_up (zx_up G 0 8 0) 32 0 0, rfl, rfl, zi_keep h ?_ (fun p h1 h2 h3 h4 => by rw [zp_ur h4, zp_ur h3]) (by simp [zp_at]) (fun k hk => by simp [zp_at, hk])⟩
  obtain ⟨⟨n, h1, h2, h3, h4, h5⟩, -⟩ := h
  exact ⟨0, by omega, by simp [zp_at]; rfl, by simp [zp_at]; rfl, fun k hk => by simpa [zp_at] using h4 k hk, fun k hk => by simpa [zp_at] using h5 k hk⟩
theorem zi_get (fS fM : zx_G → Option (Int32 × zx_G)) (vS vM : zx_G → Int32) (eS : ∀ G, fS G = zx_if ((G 0 9) = 0) (some ((0 : Int32), G)) (some (vS G, G))) (eM : ∀ G, fM G = zx_if ((G 32 33) = 0) (some ((0 : Int32), G)) (some (vM G, G))) (hv : ∀ G, zi_pic G → vS G = vM G) : zp_ok zi_Inv fS fM := by
  intro G h
  obtain ⟨-, ⟨hd, hp⟩, -⟩ := id h
  rcases hp with hp | ⟨hp, hq⟩
  · exact ⟨0, G, G, by rw [eS, zp_pos hp], by rw [eM, zp_pos (by rw [← hd]; exact hp)], h⟩
  · have e : ¬ G 0 9 = 0 := by rw [hp]; decide
    exact ⟨vS G, G, G, by rw [eS, zp_neg e], by rw [eM, zp_neg (by rw [← hd]; exact e), hv G hq], h⟩
theorem zo_planes : zp_ok zi_Inv f_S_planes f_M_planes := by
  refine zi_get _ _ (fun G => G 11 6) (fun G => (1 : Int32) + (2 : Int32) * (G 32 16)) (fun G => rfl) (fun G => rfl) (fun G h => ?_)
  obtain ⟨y, t, w, h, a1, a2, a3, a4, a5, a6, b1, b2, b3, b4, b5, b6, b7, b8, -⟩ := h
  show G 11 6 = (1 : Int32) + (2 : Int32) * (G 32 16)
  rw [b1, b2]
  have : y = 0 ∨ y = 1 := by omega
  rcases this with rfl | rfl <;> rfl
theorem zo_width : zp_ok zi_Inv f_S_width f_M_width := by
  refine zi_get _ _ (fun G => G 11 7) (fun G => G 32 18) (fun G => rfl) (fun G => rfl) (fun G h => ?_)
  obtain ⟨y, t, w, h, a1, a2, a3, a4, a5, a6, b1, b2, b3, b4, b5, b6, b7, b8, -⟩ := h
  exact b6.trans b5.symm
theorem zo_height : zp_ok zi_Inv f_S_height f_M_height := by
  refine zi_get _ _ (fun G => G 11 8) (fun G => G 32 19) (fun G => rfl) (fun G => rfl) (fun G h => ?_)
  obtain ⟨y, t, w, h, a1, a2, a3, a4, a5, a6, b1, b2, b3, b4, b5, b6, b7, b8, -⟩ := h
  exact b8.trans b7.symm
theorem zo_depth : zp_ok zi_Inv f_S_depth f_M_depth := by
  refine zi_get _ _ (fun G => G 11 9) (fun G => (8 : Int32) + (2 : Int32) * (G 32 17)) (fun G => rfl) (fun G => rfl) (fun G h => ?_)
  obtain ⟨y, t, w, h, a1, a2, a3, a4, a5, a6, b1, b2, b3, b4, b5, b6, b7, b8, -⟩ := h
  show G 11 9 = (8 : Int32) + (2 : Int32) * (G 32 17)
  rw [b3, b4]
  have : t = 0 ∨ t = 1 := by omega
  rcases this with rfl | rfl <;> rfl
theorem zo_blocks : zp_ok zi_Inv f_S_blocks f_M_blocks := by
  refine zi_get _ _ (fun G => G 17 3) (fun G => G 32 37) (fun G => rfl) (fun G => rfl) (fun G h => ?_)
  obtain ⟨y, t, w, h, a1, a2, a3, a4, a5, a6, b1, b2, b3, b4, b5, b6, b7, b8, c1, c2, c3, -⟩ := h
  exact c3
theorem zo_symbols : zp_ok zi_Inv f_S_symbols f_M_symbols := by
  refine zi_get _ _ (fun G => G 14 9) (fun G => G 32 30) (fun G => rfl) (fun G => rfl) (fun G h => ?_)
  obtain ⟨y, t, w, h, a1, a2, a3, a4, a5, a6, b1, b2, b3, b4, b5, b6, b7, b8, c1, c2, c3, c4, -⟩ := h
  exact c4
theorem zo_taken : zp_ok zi_Inv f_S_taken f_M_taken := by
  refine zi_get _ _ (fun G => G 14 8) (fun G => G 32 29) (fun G => rfl) (fun G => rfl) (fun G h => ?_)
  obtain ⟨y, t, w, h, a1, a2, a3, a4, a5, a6, b1, b2, b3, b4, b5, b6, b7, b8, c1, c2, c3, c4, c5, -⟩ := h
  exact c5
