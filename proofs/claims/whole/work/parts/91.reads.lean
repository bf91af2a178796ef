/-! what the predictions read -/
theorem ze_predC (m i j : Int32) {G H : zx_G} (h26 : H 26 = G 26) (h28 : H 28 = G 28) (h29 : H 29 = G 29) : f_E_predicted m i j H = (f_E_predicted m i j G).map (fun q => (q.1, H)) := by
  have hn : ∀ a b : Int32, ∃ r, f_E_nearest a b G = some (r, G) ∧ f_E_nearest a b H = some (r, H) := by
    intro a b
    have k : ∀ x v : Int32, ∃ r, f_E_nearest_31 x v G = some (r, G) ∧ f_E_nearest_31 x v H = some (r, H) := by
      intro x v
      unfold f_E_nearest_31 f_E_nearest_56
      rw [h26]
      by_cases q : (zx_mabs (v - x)) ≤ (zx_mabs ((G 26 4) - x))
      · exact ⟨v, by rw [zp_pos q], by rw [zp_pos q]⟩
      · exact ⟨G 26 4, by rw [zp_neg q, zp_lt], by rw [zp_neg q, zp_lt]⟩
    unfold f_E_nearest
    simp only [zp_lt, h26]
    by_cases q : (zx_mabs (a - ((b + a) - (G 26 4)))) ≤ (zx_mabs (b - ((b + a) - (G 26 4))))
    · obtain ⟨r, k1, k2⟩ := k ((b + a) - (G 26 4)) a
      exact ⟨r, by rw [zp_pos q]; exact k1, by rw [zp_pos q]; exact k2⟩
    · obtain ⟨r, k1, k2⟩ := k ((b + a) - (G 26 4)) b
      exact ⟨r, by rw [zp_neg q]; exact k1, by rw [zp_neg q]; exact k2⟩
  have hg : ∀ (c : Bool) (x y : Option (Int32 × zx_G)), y = x.map (fun q => (q.1, H)) → zx_gd c y = (zx_gd c x).map (fun q => (q.1, H)) := by
    intro c x y h
    cases c
    · rfl
    · exact h
  have hi : ∀ (c : Prop) [Decidable c] (x y x' y' : Option (Int32 × zx_G)), x' = x.map (fun q => (q.1, H)) → y' = y.map (fun q => (q.1, H)) → zx_if c x' y' = (zx_if c x y).map (fun q => (q.1, H)) := by
    intro c _ x y x' y' h1 h2
    by_cases q : c
    · rw [zp_pos q, zp_pos q]; exact h1
    · rw [zp_neg q, zp_neg q]; exact h2
  unfold f_E_predicted f_E_blended
  rw [h26, h28, h29]
  refine hi _ _ _ _ _ (hg _ _ _ rfl) (hi _ _ _ _ _ (hg _ _ _ rfl) (hi _ _ _ _ _ (hg _ _ _ (hg _ _ _ ?_)) (hi _ _ _ _ _ ?_ (hi _ _ _ _ _ (hg _ _ _ (hg _ _ _ rfl)) rfl))))
  · obtain ⟨r, k1, k2⟩ := hn (G 29 (Int32.toNatClampNeg j)) (G 28 (Int32.toNatClampNeg i))
    rw [zp_bd k1, zp_bd k2]
    rfl
  · unfold zx_lt zx_gd zx_bd
    by_cases q1 : zx_in i 4 = true
    · by_cases q2 : zx_in j 4 = true
      · simp [q1, q2]
        rfl
      · simp [q1, q2]
    · simp [q1]
