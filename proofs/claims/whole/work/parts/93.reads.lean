/-! what the reference's prediction reads -/
theorem ze_predM (m i j : Int32) {G H : zx_G} (h44 : H 32 44 = G 32 44) (h49 : H 49 = G 49) (h50 : H 50 = G 50) : f_M_predicted m i j H = (f_M_predicted m i j G).map (fun q => (q.1, H)) := by
  have hf : ∀ a b : Int32, ∃ r, ∀ K : zx_G, f_M_far a b K = some (r, K) := by
    intro a b
    by_cases q : b ≤ a
    · exact ⟨a - b, fun K => by unfold f_M_far f_M_far_14; rw [zp_pos q]⟩
    · exact ⟨b - a, fun K => by unfold f_M_far f_M_far_14; rw [zp_neg q]⟩
  have hg : ∀ (c : Bool) (x y : Option (Int32 × zx_G)), y = x.map (fun q => (q.1, H)) → zx_gd c y = (zx_gd c x).map (fun q => (q.1, H)) := by
    intro c x y h
    cases c
    · rfl
    · exact h
  have hi : ∀ (c : Prop) [Decidable c] (x y x' y' : Option (Int32 × zx_G)), x' = x.map (fun q => (q.1, H)) → y' = y.map (fun q => (q.1, H)) → zx_if c x' y' = (zx_if c x y).map (fun q => (q.1, H)) := by
    intro c _ x y x' y' h1 h2
    by_cases q : c
    · rw [zp_pos q, zp_pos q]; exact h1
    · rw [zp_neg q, zp_neg q]; exact h2
  have k276 : ∀ x v : Int32, f_M_predicted_276 x v H = (f_M_predicted_276 x v G).map (fun q => (q.1, H)) := by
    intro x v
    obtain ⟨r1, e1⟩ := hf (G 32 44) x
    obtain ⟨r2, e2⟩ := hf v x
    unfold f_M_predicted_276 f_M_predicted_304
    rw [h44, zp_bd (e1 H), zp_bd (e2 H), zp_bd (e1 G), zp_bd (e2 G), h44]
    exact hi _ _ _ _ _ rfl rfl
  unfold f_M_predicted f_M_predicted_179 f_M_predicted_197
  simp only [zp_lt, h44, h49, h50]
  refine hi _ _ _ _ _ (hi _ _ _ _ _ (hi _ _ _ _ _ (hi _ _ _ _ _ (hi _ _ _ _ _ (hg _ _ _ (hg _ _ _ (hg _ _ _ (hg _ _ _ ?_)))) (hi _ _ _ _ _ (hi _ _ _ _ _ (hg _ _ _ (hg _ _ _ rfl)) (hg _ _ _ (hg _ _ _ rfl))) (hi _ _ _ _ _ (hg _ _ _ (hg _ _ _ rfl)) (hg _ _ _ (hg _ _ _ rfl))))) (hg _ _ _ (hg _ _ _ (hg _ _ _ (hg _ _ _ rfl))))) (hg _ _ _ rfl)) (hg _ _ _ rfl)) (hg _ _ _ (hg _ _ _ (hg _ _ _ (hg _ _ _ (hg _ _ _ (hg _ _ _ (hg _ _ _ (hg _ _ _ rfl))))))))
  obtain ⟨r1, e1⟩ := hf (G 49 (Int32.toNatClampNeg i)) ((G 49 (Int32.toNatClampNeg i) + G 50 (Int32.toNatClampNeg j)) - G 32 44)
  obtain ⟨r2, e2⟩ := hf (G 50 (Int32.toNatClampNeg j)) ((G 49 (Int32.toNatClampNeg i) + G 50 (Int32.toNatClampNeg j)) - G 32 44)
  rw [zp_bd (e1 H), zp_bd (e2 H), zp_bd (e1 G), zp_bd (e2 G)]
  simp only [h49]
  exact hi _ _ _ _ _ (k276 _ _) (hg _ _ _ (k276 _ _))
