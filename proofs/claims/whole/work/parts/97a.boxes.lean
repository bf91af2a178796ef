/-! the boxes: the whole split, brand, children -/
theorem zb_nm1 {j : Nat} (h : j < 2 ^ 31) : ¬ nI j = (-1 : Int32) := fun z => nI_pos h (by rw [z]; decide)
theorem zb_readStretch {L n f e i l : Nat} {Gc Gm : zx_G} (hF : zb_F L Gc Gm) (hR : zb_R L n Gc Gm) (h0 : Gm 32 10 = 0) (hi : i < n) (hl : Gc 7 i = nI l) (hm : Gm 38 i = nI l) (hl4 : l ≤ 4) (hfe : f ≤ e) (he : e ≤ L) : ∃ Gc' Gm', f_M_stretch (nI f) (nI e) (nI i) (nI l + (1 : Int32)) Gm = some (0, Gm') ∧ ((∃ n', n ≤ n' ∧ f_B_readStretch (nI f) (nI e) (nI i) Gc = some (1, Gc') ∧ zb_R L n' Gc' Gm' ∧ Gm' 32 10 = 0 ∧ zb_F L Gc' Gm') ∨ (f_B_readStretch (nI f) (nI e) (nI i) Gc = some (0, Gc') ∧ Gm' 32 10 = 1)) := by
  have hn := hR.1
  obtain ⟨Gc', Gm', a1, a2⟩ := zb_stretch (hd := nI i) (l := l + 1) hF.1 he (by omega) (by omega) (16 - n) n f 0 2048 2048 Gc Gm (by omega) (by omega) (by omega) (by omega) hF hR h0 (Or.inr ⟨i, hi, rfl⟩) hfe
  refine ⟨Gc', Gm', ?_, ?_⟩
  · unfold f_M_stretch
    rw [zp_lt, nI_1]
    exact a1
  · have e : f_B_readStretch (nI f) (nI e) (nI i) Gc = f_B_readStretch_25 2048 (nI e) (nI i) (nI (l + 1)) (nI f) (nI 0) Gc := by
      unfold f_B_readStretch f_B_readStretch_17
      rw [zp_pos (zb_nm1 (by omega)), zp_gd (zp_in (by omega) (by omega)), zp_cl (by omega), hl, nI_1, zp_lt, zp_lt, zp_lt]
      rfl
    rw [e]
    exact a2
theorem zb_loop {L : Nat} : ∀ (rem i n n1 n2 : Nat) (Gc Gm : zx_G), i + rem = 16 → rem < n1 → rem < n2 → zb_F L Gc Gm → zb_R L n Gc Gm → Gm 32 10 = 0 → ∃ Gc' Gm', f_M_split_18 n2 (nI i) Gm = some (0, Gm') ∧ ((∃ n', f_B_read_19 n1 (nI i) Gc = some (0, Gc') ∧ zb_R L n' Gc' Gm' ∧ Gm' 32 10 = 0 ∧ zb_F L Gc' Gm') ∨ (f_B_read_19 n1 (nI i) Gc = some (1, Gc') ∧ Gm' 32 10 = 1)) := by
  intro rem
  induction rem with
  | zero =>
    intro i n n1 n2 Gc Gm hi hn1 hn2 hF hR h0
    obtain ⟨n1, rfl⟩ : ∃ k, n1 = k + 1 := ⟨n1 - 1, by omega⟩
    obtain ⟨n2, rfl⟩ : ∃ k, n2 = k + 1 := ⟨n2 - 1, by omega⟩
    have : i = 16 := by omega
    subst this
    obtain ⟨r0, r1, r2, r3⟩ := id hR
    refine ⟨Gc, Gm, ?_, Or.inl ⟨n, ?_, hR, h0, hF⟩⟩
    · rw [f_M_split_18, r2, zp_pos (nI_le r0 (by omega))]; rfl
    · rw [f_B_read_19, zp_pos (by decide)]; rfl
  | succ rem ih =>
    intro i n n1 n2 Gc Gm hi hn1 hn2 hF hR h0
    obtain ⟨n1, rfl⟩ : ∃ k, n1 = k + 1 := ⟨n1 - 1, by omega⟩
    obtain ⟨n2, rfl⟩ : ∃ k, n2 = k + 1 := ⟨n2 - 1, by omega⟩
    obtain ⟨r0, r1, r2, r3⟩ := id hR
    by_cases c : n ≤ i
    · refine ⟨Gc, Gm, ?_, Or.inl ⟨n, ?_, hR, h0, hF⟩⟩
      · rw [f_M_split_18, r2, zp_pos (nI_le c (by omega))]; rfl
      · rw [f_B_read_19, zp_neg (zd_c16 (by omega)), r1, zp_pos (nI_le c (by omega))]; rfl
    · obtain ⟨ty, f, e, l, t1, t2, t3, t4, t5, t6, g3, g36, g4, g34, g5, g35, g7, g38, -, -⟩ := r3 i (by omega)
      have k87 : ∀ G, f_B_read_87 (f_B_read_19 n1) (nI i) G = f_B_read_19 n1 (nI (i + 1)) G := fun G => by
        unfold f_B_read_87
        rw [zp_lt, nI_1]
      have k80 : ∀ G, f_M_split_80 (f_M_split_18 n2) (nI i) G = f_M_split_18 n2 (nI (i + 1)) G := fun G => by
        unfold f_M_split_80
        rw [zp_lt, nI_1]
      have pm : f_M_split_18 (n2 + 1) (nI i) Gm = zx_if (nI ty = (109 : Int32)) (f_M_split_55 (f_M_split_18 n2) (nI i) Gm) (zx_if (¬ nI ty = (114 : Int32)) (f_M_split_80 (f_M_split_18 n2) (nI i) Gm) (f_M_split_55 (f_M_split_18 n2) (nI i) Gm)) := by
        rw [f_M_split_18, r2, zp_neg (nI_ge (by omega) (by omega)), zp_neg (show ¬ ¬ Gm 32 10 = 0 from fun z => z h0), zp_gd (zp_in (by omega) (by omega)), zp_gd (zp_in (by omega) (by omega)), zp_cl (by omega), g36]
      have pc : f_B_read_19 (n1 + 1) (nI i) Gc = zx_if (nI ty = (109 : Int32)) (f_B_read_55 (f_B_read_19 n1) (nI i) Gc) (zx_if (¬ nI ty = (114 : Int32)) (f_B_read_60 (f_B_read_19 n1) (nI i) (0 : Int32) Gc) (f_B_read_55 (f_B_read_19 n1) (nI i) Gc)) := by
        rw [f_B_read_19, zp_neg (zd_c16 (by omega)), r1, zp_neg (nI_ge (by omega) (by omega)), zp_gd (zp_in (by omega) (by omega)), zp_gd (zp_in (by omega) (by omega)), zp_cl (by omega), g3]
      have e1 : nI ty = (109 : Int32) ↔ ty = 109 := zp_eqc (c := (109 : Int32)) 109 rfl (by omega) (by omega)
      have e2 : nI ty = (114 : Int32) ↔ ty = 114 := zp_eqc (c := (114 : Int32)) 114 rfl (by omega) (by omega)
      by_cases ct : ty = 109 ∨ ty = 114
      · -- a stretch inside
        have bi : i < 16 := by omega
        have bi2 : i < 2 ^ 31 := by omega
        obtain ⟨Gc1, Gm1, a1, a2⟩ := zb_readStretch (f := f) (e := e) (i := i) (l := l) hF hR h0 (by omega) g7 g38 t6 t3 t4
        have em : f_M_split_18 (n2 + 1) (nI i) Gm = f_M_split_18 n2 (nI (i + 1)) Gm1 := by
          have k55 : f_M_split_55 (f_M_split_18 n2) (nI i) Gm = f_M_split_18 n2 (nI (i + 1)) Gm1 := by
            unfold f_M_split_55
            rw [zp_gd (zp_in bi (by decide)), zp_gd (zp_in bi (by decide)), zp_gd (zp_in bi (by decide)), zp_cl bi2, g34, g35, g38, zp_bd a1, k80]
          rw [pm]
          by_cases cc : ty = 109
          · rw [zp_pos (e1.mpr cc), k55]
          · rw [zp_neg (fun z => cc (e1.mp z)), zp_neg (fun z => z (e2.mpr (ct.resolve_left cc))), k55]
        have ec : f_B_read_19 (n1 + 1) (nI i) Gc = zx_bd (f_B_readStretch (nI f) (nI e) (nI i) Gc) fun r_6 G_5 => zx_if (¬ r_6 = 0) (f_B_read_87 (f_B_read_19 n1) (nI i) G_5) (some ((1 : Int32), G_5)) := by
          have k55 : f_B_read_55 (f_B_read_19 n1) (nI i) Gc = zx_bd (f_B_readStretch (nI f) (nI e) (nI i) Gc) fun r_6 G_5 => zx_if (¬ r_6 = 0) (f_B_read_87 (f_B_read_19 n1) (nI i) G_5) (some ((1 : Int32), G_5)) := by
            unfold f_B_read_55 f_B_read_60
            rw [zp_lt, zp_neg (show ¬ (1 : Int32) = 0 by decide), zp_gd (zp_in bi (by decide)), zp_gd (zp_in bi (by decide)), zp_cl bi2, g4, g5]
          rw [pc]
          by_cases cc : ty = 109
          · rw [zp_pos (e1.mpr cc), k55]
          · rw [zp_neg (fun z => cc (e1.mp z)), zp_neg (fun z => z (e2.mpr (ct.resolve_left cc))), k55]
        rw [em, ec]
        have r16 : i + 1 + rem = 16 := by omega
        have rn1 : rem < n1 := by omega
        have rn2 : rem < n2 := by omega
        rcases a2 with ⟨n', a2, a3, a4, a5, a6⟩ | ⟨a2, a3⟩
        · obtain ⟨Gc2, Gm2, b1, b2⟩ := ih (i + 1) n' n1 n2 Gc1 Gm1 r16 rn1 rn2 a6 a4 a5
          refine ⟨Gc2, Gm2, b1, ?_⟩
          rw [zp_bd a3, zp_pos (show ¬ (1 : Int32) = 0 by decide), k87]
          exact b2
        · refine ⟨Gc1, Gm1, ?_, Or.inr ⟨by rw [zp_bd a2, zp_neg (show ¬ ¬ (0 : Int32) = 0 from fun z => z rfl)], a3⟩⟩
          obtain ⟨n2, rfl⟩ : ∃ k, n2 = k + 1 := ⟨n2 - 1, by omega⟩
          rw [f_M_split_18, a3]
          by_cases cc : Gm1 32 2 ≤ nI (i + 1)
          · rw [zp_pos cc]; rfl
          · rw [zp_neg cc, zp_pos (by decide)]; rfl
      · have q1 : ¬ nI ty = (109 : Int32) := fun z => ct (Or.inl (e1.mp z))
        have q2 : ¬ nI ty = (114 : Int32) := fun z => ct (Or.inr (e2.mp z))
        obtain ⟨Gc2, Gm2, b1, b2⟩ := ih (i + 1) n n1 n2 Gc Gm (by omega) (by omega) (by omega) hF hR h0
        refine ⟨Gc2, Gm2, ?_, ?_⟩
        · rw [pm, zp_neg q1, zp_pos q2, k80]; exact b1
        · rw [pc, zp_neg q1, zp_pos q2]
          unfold f_B_read_60
          rw [zp_lt, zp_pos (show (0 : Int32) = 0 from rfl), k87]
          exact b2
theorem zb_read {L : Nat} {Gc Gm : zx_G} (hF : zb_F L Gc Gm) (h0 : Gm 32 10 = 0) : ∃ Gc' Gm', f_M_split Gm = some (0, Gm') ∧ ((∃ n', f_B_read (nI L) Gc = some (0, Gc') ∧ zb_R L n' Gc' Gm' ∧ Gm' 32 10 = 0 ∧ zb_F L Gc' Gm') ∨ (f_B_read (nI L) Gc = some (1, Gc') ∧ Gm' 32 10 = 1)) := by
  obtain ⟨f0, f1, f2, f3⟩ := id hF
  have hF1 : zb_F L (zx_up Gc 2 6 (0 : Int32)) (zx_up Gm 32 2 (0 : Int32)) := ⟨f0, by rw [zp_uk (by omega)]; exact f1, by rw [zp_ur (by omega), zp_ur (by omega)]; exact f2, by rw [zp_ur (by omega)]; exact f3⟩
  have hR1 : zb_R L 0 (zx_up Gc 2 6 (0 : Int32)) (zx_up Gm 32 2 (0 : Int32)) := ⟨by omega, zp_us, zp_us, fun k hk => absurd hk (by omega)⟩
  have h1 : zx_up Gm 32 2 (0 : Int32) 32 10 = 0 := by rw [zp_uk (by omega)]; exact h0
  obtain ⟨Gc1, Gm1, a1, a2⟩ := zb_stretch (hd := (-1 : Int32)) (l := 1) f0 (Nat.le_refl L) (by omega) (by omega) 16 0 0 0 2048 2048 _ _ (by omega) (by omega) (by omega) (by omega) hF1 hR1 h1 (Or.inl rfl) (by omega)
  have eM : f_M_split Gm = f_M_split_18 2048 (nI 0) Gm1 := by
    unfold f_M_split f_M_stretch
    rw [zp_lt, zp_uk (by omega), f1, zp_lt, zp_bd (show f_M_stretch_3 2048 (nI L) (-1 : Int32) (1 : Int32) (0 : Int32) _ = _ from a1), zp_lt]
    rfl
  have eC : f_B_read (nI L) Gc = zx_bd (f_B_readStretch_25 2048 (nI L) (-1 : Int32) (nI 1) (nI 0) (nI 0) (zx_up Gc 2 6 (0 : Int32))) fun r_3 G_2 => zx_if (¬ r_3 = 0) (f_B_read_19 2048 (nI 0) G_2) (some ((1 : Int32), G_2)) := by
    have e : f_B_readStretch (0 : Int32) (nI L) (-1 : Int32) (zx_up Gc 2 6 (0 : Int32)) = f_B_readStretch_25 2048 (nI L) (-1 : Int32) (nI 1) (nI 0) (nI 0) (zx_up Gc 2 6 (0 : Int32)) := by
      unfold f_B_readStretch f_B_readStretch_17
      rw [zp_neg (show ¬ ¬ (-1 : Int32) = (-1 : Int32) from fun z => z rfl), zp_lt, zp_lt, zp_lt]
      rfl
    unfold f_B_read
    rw [zp_lt, e]
    rfl
  rw [eM, eC]
  rcases a2 with ⟨n', a2, a3, a4, a5, a6⟩ | ⟨a2, a3⟩
  · obtain ⟨Gc2, Gm2, b1, b2⟩ := zb_loop 16 0 n' 2048 2048 Gc1 Gm1 (by omega) (by omega) (by omega) a6 a4 a5
    refine ⟨Gc2, Gm2, b1, ?_⟩
    rw [zp_bd a3, zp_pos (show ¬ (1 : Int32) = 0 by decide)]
    exact b2
  · refine ⟨Gc1, Gm1, ?_, Or.inr ⟨by rw [zp_bd a2, zp_neg (show ¬ ¬ (0 : Int32) = 0 from fun z => z rfl)], a3⟩⟩
    show f_M_split_18 (2047 + 1) (nI 0) Gm1 = _
    rw [f_M_split_18, a3]
    by_cases cc : Gm1 32 2 ≤ nI 0
    · rw [zp_pos cc]; rfl
    · rw [zp_neg cc, zp_pos (by decide)]; rfl
/-- the first box of a kind inside another: both find the same -/
theorem zb_first {L n : Nat} {Gc Gm : zx_G} (hR : zb_R L n Gc Gm) (hd ty : Int32) : ∃ r, f_B_first hd ty Gc = some (r, Gc) ∧ f_M_child hd ty Gm = some (r, Gm) ∧ (r = -1 ∨ ∃ k, k < n ∧ r = nI k ∧ Gc 6 k = hd ∧ Gc 3 k = ty) := by
  obtain ⟨r0, r1, r2, r3⟩ := id hR
  -- what is found from i on
  have cls : ∀ (rem i n1 : Nat), i + rem = n → rem < n1 → ∃ r, f_B_first_2 n1 hd ty (nI i) Gc = some (r, Gc) ∧ ((r = -1 ∧ ∀ k, i ≤ k → k < n → ¬ (Gc 6 k = hd ∧ Gc 3 k = ty)) ∨ ∃ k, i ≤ k ∧ k < n ∧ r = nI k ∧ Gc 6 k = hd ∧ Gc 3 k = ty ∧ ∀ j, i ≤ j → j < k → ¬ (Gc 6 j = hd ∧ Gc 3 j = ty)) := by
    intro rem
    induction rem with
    | zero =>
      intro i n1 hi hn
      obtain ⟨n1, rfl⟩ : ∃ k, n1 = k + 1 := ⟨n1 - 1, by omega⟩
      exact ⟨-1, by rw [f_B_first_2, r1, zp_pos (nI_le (by omega) (by omega))], Or.inl ⟨rfl, fun k h1 h2 => by omega⟩⟩
    | succ rem ih =>
      intro i n1 hi hn
      obtain ⟨n1, rfl⟩ : ∃ k, n1 = k + 1 := ⟨n1 - 1, by omega⟩
      obtain ⟨r, a1, a2⟩ := ih (i + 1) n1 (by omega) (by omega)
      rw [f_B_first_2, r1, zp_neg (nI_ge (by omega) (by omega)), zp_gd (zp_in (by omega) (by omega)), zp_cl (by omega)]
      have k32 : f_B_first_32 (f_B_first_2 n1) hd ty (nI i) Gc = some (r, Gc) := by
        unfold f_B_first_32
        rw [zp_lt, nI_1]
        exact a1
      by_cases c : Gc 6 i = hd ∧ Gc 3 i = ty
      · refine ⟨nI i, ?_, Or.inr ⟨i, by omega, by omega, rfl, c.1, c.2, fun j h1 h2 => by omega⟩⟩
        rw [zp_neg (fun z => z c.1), zp_gd (zp_in (by omega) (by omega)), zp_neg (fun z => z c.2)]
      · refine ⟨r, ?_, ?_⟩
        · by_cases c6 : Gc 6 i = hd
          · rw [zp_neg (fun z => z c6), zp_gd (zp_in (by omega) (by omega)), zp_pos (show ¬ Gc 3 i = ty from fun z => c ⟨c6, z⟩), k32]
          · rw [zp_pos c6, k32]
        · rcases a2 with ⟨e, a2⟩ | ⟨k, e1, e2, e3, e4, e5, e6⟩
          · refine Or.inl ⟨e, fun k h1 h2 => ?_⟩
            by_cases q : k = i
            · subst q; exact c
            · exact a2 k (by omega) h2
          · refine Or.inr ⟨k, by omega, e2, e3, e4, e5, fun j h1 h2 => ?_⟩
            by_cases q : j = i
            · subst q; exact c
            · exact e6 j (by omega) h2
  -- the reference goes from the end
  have ref : ∀ (i n1 : Nat) (x3 : Int32), i ≤ n → i < n1 → ((x3 = -1 ∧ ∀ k, i ≤ k → k < n → ¬ (Gc 6 k = hd ∧ Gc 3 k = ty)) ∨ ∃ k, i ≤ k ∧ k < n ∧ x3 = nI k ∧ Gc 6 k = hd ∧ Gc 3 k = ty ∧ ∀ j, i ≤ j → j < k → ¬ (Gc 6 j = hd ∧ Gc 3 j = ty)) → ∃ r, f_M_child_10 n1 hd ty x3 (nI i - (1 : Int32)) Gm = some (r, Gm) ∧ ((r = -1 ∧ ∀ k, 0 ≤ k → k < n → ¬ (Gc 6 k = hd ∧ Gc 3 k = ty)) ∨ ∃ k, 0 ≤ k ∧ k < n ∧ r = nI k ∧ Gc 6 k = hd ∧ Gc 3 k = ty ∧ ∀ j, 0 ≤ j → j < k → ¬ (Gc 6 j = hd ∧ Gc 3 j = ty)) := by
    intro i
    induction i with
    | zero =>
      intro n1 x3 hi hn h
      obtain ⟨n1, rfl⟩ : ∃ k, n1 = k + 1 := ⟨n1 - 1, by omega⟩
      exact ⟨x3, by rw [f_M_child_10, zp_pos (by decide)], h⟩
    | succ i ih =>
      intro n1 x3 hi hn h
      obtain ⟨n1, rfl⟩ : ∃ k, n1 = k + 1 := ⟨n1 - 1, by omega⟩
      obtain ⟨ty', f, e, l, t1, t2, t3, t4, t5, t6, g3, g36, g4, g34, g5, g35, g7, g38, g6, -⟩ := r3 i (by omega)
      have h36 : Gm 36 i = Gc 3 i := by rw [g36, g3]
      rw [f_M_child_10, show nI (i + 1) - (1 : Int32) = nI i from nI_pred i, zp_neg (nI_pos (by omega)), zp_gd (zp_in (by omega) (by omega)), zp_cl (by omega), ← g6, h36]
      have k43 : ∀ s, f_M_child_43 (f_M_child_10 n1) hd ty (nI i) s Gm = f_M_child_10 n1 hd ty s (nI i - (1 : Int32)) Gm := fun s => by
        unfold f_M_child_43
        rw [zp_lt, zp_lt, ← Int32.sub_eq_add_neg]
      by_cases c : Gc 6 i = hd ∧ Gc 3 i = ty
      · rw [zp_neg (fun z => z c.1), zp_gd (zp_in (by omega) (by omega)), zp_neg (fun z => z c.2), k43]
        exact ih n1 (nI i) (by omega) (by omega) (Or.inr ⟨i, by omega, by omega, rfl, c.1, c.2, fun j h1 h2 => by omega⟩)
      · have h' : ((x3 = -1 ∧ ∀ k, i ≤ k → k < n → ¬ (Gc 6 k = hd ∧ Gc 3 k = ty)) ∨ ∃ k, i ≤ k ∧ k < n ∧ x3 = nI k ∧ Gc 6 k = hd ∧ Gc 3 k = ty ∧ ∀ j, i ≤ j → j < k → ¬ (Gc 6 j = hd ∧ Gc 3 j = ty)) := by
          rcases h with ⟨e, a2⟩ | ⟨k, e1, e2, e3, e4, e5, e6⟩
          · refine Or.inl ⟨e, fun k h1 h2 => ?_⟩
            by_cases q : k = i
            · subst q; exact c
            · exact a2 k (by omega) h2
          · refine Or.inr ⟨k, by omega, e2, e3, e4, e5, fun j h1 h2 => ?_⟩
            by_cases q : j = i
            · subst q; exact c
            · exact e6 j (by omega) h2
        have k42 : f_M_child_42 (f_M_child_10 n1) hd ty x3 (nI i) Gm = f_M_child_10 n1 hd ty x3 (nI i - (1 : Int32)) Gm := k43 x3
        by_cases c6 : Gc 6 i = hd
        · rw [zp_neg (fun z => z c6), zp_gd (zp_in (by omega) (by omega)), zp_pos (show ¬ Gc 3 i = ty from fun z => c ⟨c6, z⟩), k42]
          exact ih n1 x3 (by omega) (by omega) h'
        · rw [zp_pos c6, k42]
          exact ih n1 x3 (by omega) (by omega) h'
  obtain ⟨r, a1, a2⟩ := cls n 0 2048 (by omega) (by omega)
  obtain ⟨r', b1, b2⟩ := ref n 2048 (-1) (Nat.le_refl _) (by omega) (Or.inl ⟨rfl, fun k h1 h2 => by omega⟩)
  have er : r = r' := by
    rcases a2 with ⟨e, a2⟩ | ⟨k, e1, e2, e3, e4, e5, e6⟩
    · rcases b2 with ⟨e', b2⟩ | ⟨k', d1, d2, d3, d4, d5, d6⟩
      · rw [e, e']
      · exact absurd ⟨d4, d5⟩ (a2 k' d1 d2)
    · rcases b2 with ⟨e', b2⟩ | ⟨k', d1, d2, d3, d4, d5, d6⟩
      · exact absurd ⟨e4, e5⟩ (b2 k e1 e2)
      · have : k = k' := by
          rcases Nat.lt_trichotomy k k' with z | z | z
          · exact absurd ⟨e4, e5⟩ (d6 k e1 z)
          · exact z
          · exact absurd ⟨d4, d5⟩ (e6 k' d1 z)
        rw [e3, d3, this]
  subst er
  refine ⟨r, ?_, ?_, ?_⟩
  · unfold f_B_first
    rw [zp_lt]
    exact a1
  · unfold f_M_child
    rw [zp_lt, zp_lt, r2]
    exact b1
  · rcases a2 with ⟨e, -⟩ | ⟨k, e1, e2, e3, e4, e5, -⟩
    · exact Or.inl e
    · exact Or.inr ⟨k, e2, e3, e4, e5⟩
