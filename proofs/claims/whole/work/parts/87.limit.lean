/-! limits of a sample -/
def ze_top (t : Nat) : Nat := if t = 1 then 1023 else 255
theorem ze_top_le (t : Nat) : 255 ≤ ze_top t ∧ ze_top t ≤ 1023 := by unfold ze_top; split <;> omega
theorem ze_lim {t : Nat} {Gc Gm : zx_G} (ht : t ≤ 1) (h1 : Gc 17 4 = nI (ze_top t)) (h2 : Gm 32 17 = nI t) (v : Int32) : ∃ w, w ≤ ze_top t ∧ f_P_limited v Gc = some (nI w, Gc) ∧ f_M_within v Gm = some (nI w, Gm) := by
  have tb := ze_top_le t
  have mM : f_M_within v Gm = f_M_within_17 v (nI (ze_top t)) Gm := by
    unfold f_M_within ze_top
    rw [h2]
    have : t = 0 ∨ t = 1 := by omega
    rcases this with rfl | rfl
    · rw [zp_pos (by decide)]; rfl
    · rw [zp_neg (fun z => z rfl)]; rfl
  rw [mM]
  unfold f_P_limited f_M_within_17 f_M_within_36
  rw [zp_lt, h1]
  by_cases c0 : 0 ≤ v
  · obtain ⟨n, hn, rfl⟩ := nI_of (Int32.not_lt.mpr c0)
    by_cases c1 : n ≤ ze_top t
    · refine ⟨n, c1, ?_, ?_⟩
      · unfold zx_mmin zx_mmax
        by_cases q : n = ze_top t
        · rw [if_neg (nI_nlt (by omega) (by omega))]
          rw [q]
          by_cases q2 : (0 : Int32) < nI (ze_top t)
          · rw [if_pos q2]
          · exact absurd ((zp_clt (c := (0 : Int32)) 0 rfl (by omega) (by omega)).mpr (by omega)) q2
        · rw [if_pos (nI_lt (by omega) (by omega))]
          by_cases q2 : (0 : Int32) < nI n
          · rw [if_pos q2]
          · rw [if_neg q2]
            have : n = 0 := by
              have q3 : ¬ 0 < n := fun z => q2 ((zp_clt (c := (0 : Int32)) 0 rfl (by omega) (by omega)).mpr z)
              omega
            subst this
            rfl
      · rw [zp_pos c0, zp_pos (nI_le c1 (by omega))]
    · refine ⟨ze_top t, Nat.le_refl _, ?_, ?_⟩
      · unfold zx_mmin zx_mmax
        rw [if_neg (nI_nlt (by omega) (by omega)), if_pos ((zp_clt (c := (0 : Int32)) 0 rfl (by omega) (by omega)).mpr (by omega))]
      · rw [zp_pos c0, zp_neg (nI_ge (by omega) (by omega))]
  · refine ⟨0, by omega, ?_, ?_⟩
    · have hv : v < 0 := Int32.not_le.mp c0
      have hlt : v < nI (ze_top t) := Int32.lt_of_lt_of_le hv (nI_pos' (by omega))
      unfold zx_mmin zx_mmax
      rw [if_pos hlt, if_neg (fun z => Int32.lt_irrefl (Int32.lt_trans z hv))]
      rfl
    · rw [zp_neg c0]; rfl
