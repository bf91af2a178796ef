section ZF
variable {M : zx_M} {κ : zx_K} {ad : Nat → Nat} {pc q : Nat} {lv : List (Nat × Value)} {st : List Value} {G : zx_G}
theorem zr_tsw_in {x v : Int32} {dflt lo hi : Int} {offs : Array Int} {len tgt : Nat} {off : Int} (h : zx_C M κ ad) (hd : decode M.2.1 pc = .ok (.tableswitch dflt lo hi offs, len)) (hc : x = v) (h1 : ¬ v.toInt < lo) (h2 : ¬ hi < v.toInt) (ho : offs[(v.toInt - lo).toNat]? = some off) (ht : (pc : Int) + off = (tgt : Int)) (k : zx_Z κ ad tgt lv st G) : zx_Z κ ad pc lv (.int x :: st) G := by
  subst hc
  exact fun H locs ls hl hP hS => lv_tableIn h.x h.b hd h1 h2 ho ht (k H locs ls hl hP hS)
theorem zr_tsw_out {x : Int32} {dflt lo hi : Int} {offs : Array Int} {len tgt : Nat} (h : zx_C M κ ad) (hd : decode M.2.1 pc = .ok (.tableswitch dflt lo hi offs, len)) (hc : x.toInt < lo ∨ hi < x.toInt) (ht : (pc : Int) + dflt = (tgt : Int)) (k : zx_Z κ ad tgt lv st G) : zx_Z κ ad pc lv (.int x :: st) G :=
  fun H locs ls hl hP hS => lv_tableOut h.x h.b hd hc ht (k H locs ls hl hP hS)
theorem zr_copy {sp dp n : Int32} {src dst n0 n1 index : Nat} {G1 : zx_G} (h : zx_C M κ ad) (hd : decode M.2.1 pc = .ok (.invokestatic index, 3)) (hq : pc + 3 = q) (hw : .methodLink M.1 index arraycopyName ∈ zx_ws ∧ .native arraycopyName ∈ zx_ws ∧ .static arraycopyName ∈ zx_ws ∧ .initialized "java/lang/System" ∈ zx_ws) (hs0 : zx_SH[src]? = some (.inl n0)) (hs1 : zx_SH[dst]? = some (.inl n1)) (hb : zx_cpok sp dp n n0 n1 = true)
    (hR : 1 ≤ M.2.2.2.2.1) (hst : (st.map fun v => v.category).sum + (nativeFrameWords "java/lang/System" "arraycopy" 5 + 11) ≤ M.2.2.2.2.2) (hG : G1 = zx_copy G src dst sp dp n) (k : zx_Z κ ad q lv st G1) : zx_Z κ ad pc lv (.int n :: .int dp :: .ref (ad dst) :: .int sp :: .ref (ad src) :: st) G := by
  intro H locs ls hl hP hS
  subst hG
  obtain ⟨b1, b2, b3, b4, b5⟩ := of_decide_eq_true hb
  refine va_copyi h.x h.b (by rw [h.ml, ← h.n]; exact hl.1.symm) h.o (h.t _ hw.1) (h.t _ hw.2.1) (h.t _ hw.2.2.1) (h.t _ hw.2.2.2) h.K hP (h.D G) hS src dst 0 0 (zx_wld_at hs0) (zx_wld_at hs1) rfl rfl rfl b1 b2 b3 b4 b5 (fun _ _ => rfl) (by rw [h.R]; exact hR) (by rw [h.R]; exact hst) hd (fun H1 locs1 hP1 _ hS1 => ?_)
  have e2 := zx_wld_set (cA := zx_cA κ) (ad := ad) (G := G) hs1 (va_cpy (G src) (G dst) sp.toNatClampNeg dp.toNatClampNeg n.toNatClampNeg)
  have e3 : (zx_wld (zx_cA κ) ad zx_SH G).set dst (ad dst, .inl (zx_cA κ, n1, .inl (va_cpy (G src) (G dst) sp.toNatClampNeg dp.toNatClampNeg n.toNatClampNeg))) = zx_wld (zx_cA κ) ad zx_SH (zx_copy G src dst sp dp n) := e2
  rw [e3] at hP1
  rw [hq]
  exact k H1 locs1 ls hl hP1 hS1
theorem zr_gets0 {index : Nat} (h : zx_C M κ ad) (hd : decode M.2.1 pc = .ok (.getstatic index, 3)) (hq : pc + 3 = q) (hw : Cond.fieldLink M.1 index "StillPicture$Coder" "COUNTS" "[I" ∈ zx_ws) (k : zx_Z κ ad q lv (.ref (ad 100) :: st) G) : zx_Z κ ad pc lv st G :=
  fun H locs ls hl hP hS => va_gets h.x h.b h.T.1 hS h.o (h.t _ hw) (fun _ h9 => h9) hd (by rw [hq]; exact k H locs ls hl hP hS)
theorem zr_tald0 {i : Int32} (h : zx_C M κ ad) (hd : decode M.2.1 pc = .ok (.iaload, 1)) (hq : pc + 1 = q) (hi : zx_in i 19 = true) (k : zx_Z κ ad q lv (.int (zx_tab0 i.toNatClampNeg) :: st) G) : zx_Z κ ad pc lv (.int i :: .ref (ad 100) :: st) G :=
  fun H locs ls hl hP hS => va_ti h.x h.b h.T.2.1 hS (zx_in_vp hi) rfl hd (by rw [hq]; exact k H locs ls hl hP hS)
theorem zr_gets1 {index : Nat} (h : zx_C M κ ad) (hd : decode M.2.1 pc = .ok (.getstatic index, 3)) (hq : pc + 3 = q) (hw : Cond.fieldLink M.1 index "StillPicture$Differences" "PLACES" "[I" ∈ zx_ws) (k : zx_Z κ ad q lv (.ref (ad 101) :: st) G) : zx_Z κ ad pc lv st G :=
  fun H locs ls hl hP hS => va_gets h.x h.b h.T.2.2.1 hS h.o (h.t _ hw) (fun _ h9 => h9) hd (by rw [hq]; exact k H locs ls hl hP hS)
theorem zr_tald1 {i : Int32} (h : zx_C M κ ad) (hd : decode M.2.1 pc = .ok (.iaload, 1)) (hq : pc + 1 = q) (hi : zx_in i 16 = true) (k : zx_Z κ ad q lv (.int (zx_tab1 i.toNatClampNeg) :: st) G) : zx_Z κ ad pc lv (.int i :: .ref (ad 101) :: st) G :=
  fun H locs ls hl hP hS => va_ti h.x h.b h.T.2.2.2.1 hS (zx_in_vp hi) rfl hd (by rw [hq]; exact k H locs ls hl hP hS)
theorem zr_gets2 {index : Nat} (h : zx_C M κ ad) (hd : decode M.2.1 pc = .ok (.getstatic index, 3)) (hq : pc + 3 = q) (hw : Cond.fieldLink M.1 index "StillPicture$Differences" "WAVES" "[I" ∈ zx_ws) (k : zx_Z κ ad q lv (.ref (ad 102) :: st) G) : zx_Z κ ad pc lv st G :=
  fun H locs ls hl hP hS => va_gets h.x h.b h.T.2.2.2.2.1 hS h.o (h.t _ hw) (fun _ h9 => h9) hd (by rw [hq]; exact k H locs ls hl hP hS)
theorem zr_tald2 {i : Int32} (h : zx_C M κ ad) (hd : decode M.2.1 pc = .ok (.iaload, 1)) (hq : pc + 1 = q) (hi : zx_in i 16 = true) (k : zx_Z κ ad q lv (.int (zx_tab2 i.toNatClampNeg) :: st) G) : zx_Z κ ad pc lv (.int i :: .ref (ad 102) :: st) G :=
  fun H locs ls hl hP hS => va_ti h.x h.b h.T.2.2.2.2.2 hS (zx_in_vp hi) rfl hd (by rw [hq]; exact k H locs ls hl hP hS)
end ZF
