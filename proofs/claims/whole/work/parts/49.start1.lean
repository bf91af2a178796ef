/-! from the entry of the law: tables, statics, then the constructors, then the law as a function -/
theorem zx_nest_tab {w : Cond} (h : zx_nest w = true) : w.onTables = true := by
  cases w <;> first | rfl | cases h
set_option maxRecDepth 100000 in
theorem ki_S : Cond.instantiable "StillPicture" 10 ∈ zx_ws := zx_mem 84 (by decide +kernel) rfl
set_option maxRecDepth 100000 in
theorem ki_B : Cond.instantiable "StillPicture$Boxes" 7 ∈ zx_ws := zx_mem 92 (by decide +kernel) rfl
set_option maxRecDepth 100000 in
theorem ki_I : Cond.instantiable "StillPicture$Item" 11 ∈ zx_ws := zx_mem 124 (by decide +kernel) rfl
set_option maxRecDepth 100000 in
theorem ki_U : Cond.instantiable "StillPicture$Cursor" 4 ∈ zx_ws := zx_mem 130 (by decide +kernel) rfl
set_option maxRecDepth 100000 in
theorem ki_H : Cond.instantiable "StillPicture$Header" 16 ∈ zx_ws := zx_mem 188 (by decide +kernel) rfl
set_option maxRecDepth 100000 in
theorem ki_C : Cond.instantiable "StillPicture$Coder" 10 ∈ zx_ws := zx_mem 263 (by decide +kernel) rfl
set_option maxRecDepth 100000 in
theorem ki_P : Cond.instantiable "StillPicture$Picture" 5 ∈ zx_ws := zx_mem 302 (by decide +kernel) rfl
set_option maxRecDepth 100000 in
theorem ki_T : Cond.instantiable "StillPicture$Tile" 6 ∈ zx_ws := zx_mem 329 (by decide +kernel) rfl
set_option maxRecDepth 100000 in
theorem ki_D : Cond.instantiable "StillPicture$Differences" 3 ∈ zx_ws := zx_mem 335 (by decide +kernel) rfl
set_option maxRecDepth 100000 in
theorem ki_E : Cond.instantiable "StillPicture$Prediction" 6 ∈ zx_ws := zx_mem 352 (by decide +kernel) rfl
set_option maxRecDepth 100000 in
theorem ki_F : Cond.instantiable "StillPicture$Filter" 3 ∈ zx_ws := zx_mem 397 (by decide +kernel) rfl
set_option maxRecDepth 100000 in
theorem ki_M : Cond.instantiable "StillPictureModel" 47 ∈ zx_ws := zx_mem 817 (by decide +kernel) rfl
set_option maxRecDepth 100000 in
theorem ks_el0 : ∀ j, j < 19 → Cond.eq (.elem (Term.static "StillPicture$Coder" "COUNTS" "[I") (.int (Int32.ofNat j))) (.int (zx_tab0 j)) ∈ flatC (Jvm.Cond.and given_1 narrow_1) := by decide +kernel
set_option maxRecDepth 100000 in
theorem ks_ar0 : Cond.arrayOf (Term.static "StillPicture$Coder" "COUNTS" "[I") .int ∈ flatC (Jvm.Cond.and given_1 narrow_1) ∧ Cond.eq (.length (Term.static "StillPicture$Coder" "COUNTS" "[I")) (.int 19) ∈ flatC (Jvm.Cond.and given_1 narrow_1) := by decide +kernel
set_option maxRecDepth 100000 in
theorem ks_ly0 : Cond.laysStatic "StillPicture$Coder" "COUNTS" "[I" ∈ lw_tbl ∧ Cond.initialized "StillPicture$Coder" ∈ lw_tbl := ⟨List.mem_of_getElem? (i := 597) (by decide +kernel), List.mem_of_getElem? (i := 73) (by decide +kernel)⟩
theorem ks_st0 {args : Array Value} {s : State} {A : Nat → Prop} (hts : ∀ w ∈ lw_tbl, w.before args s = true) (hg : (Jvm.Cond.and given_1 narrow_1).before args s = true) (hA : ∀ a : Nat, a < s.heap.size → ¬ A a) : ∃ t : Nat, va_Z "StillPicture$Coder" "COUNTS" "[I" (.ref t) A s s.heap ∧ va_T .int t 19 (fun k => .int (zx_tab0 k)) A s s.heap := by
  have hs := flat_of_before _ hg
  obtain ⟨t, h1, h2⟩ := va_Tof (tm := (Term.static "StillPicture$Coder" "COUNTS" "[I")) (N := 19) (f := fun k => .int (zx_tab0 k)) (by decide) (hs _ ks_ar0.1) (va_eqv (hs _ ks_ar0.2) rfl) (fun j hj => va_eqv (hs _ (ks_el0 j hj)) rfl) hA
  exact ⟨t, va_Zof (hts _ ks_ly0.1) (hts _ ks_ly0.2) h1 hA, h2⟩
set_option maxRecDepth 100000 in
theorem ks_el1 : ∀ j, j < 16 → Cond.eq (.elem (Term.static "StillPicture$Differences" "PLACES" "[I") (.int (Int32.ofNat j))) (.int (zx_tab1 j)) ∈ flatC (Jvm.Cond.and given_1 narrow_1) := by decide +kernel
set_option maxRecDepth 100000 in
theorem ks_ar1 : Cond.arrayOf (Term.static "StillPicture$Differences" "PLACES" "[I") .int ∈ flatC (Jvm.Cond.and given_1 narrow_1) ∧ Cond.eq (.length (Term.static "StillPicture$Differences" "PLACES" "[I")) (.int 16) ∈ flatC (Jvm.Cond.and given_1 narrow_1) := by decide +kernel
set_option maxRecDepth 100000 in
theorem ks_ly1 : Cond.laysStatic "StillPicture$Differences" "PLACES" "[I" ∈ lw_tbl ∧ Cond.initialized "StillPicture$Differences" ∈ lw_tbl := ⟨List.mem_of_getElem? (i := 663) (by decide +kernel), List.mem_of_getElem? (i := 76) (by decide +kernel)⟩
theorem ks_st1 {args : Array Value} {s : State} {A : Nat → Prop} (hts : ∀ w ∈ lw_tbl, w.before args s = true) (hg : (Jvm.Cond.and given_1 narrow_1).before args s = true) (hA : ∀ a : Nat, a < s.heap.size → ¬ A a) : ∃ t : Nat, va_Z "StillPicture$Differences" "PLACES" "[I" (.ref t) A s s.heap ∧ va_T .int t 16 (fun k => .int (zx_tab1 k)) A s s.heap := by
  have hs := flat_of_before _ hg
  obtain ⟨t, h1, h2⟩ := va_Tof (tm := (Term.static "StillPicture$Differences" "PLACES" "[I")) (N := 16) (f := fun k => .int (zx_tab1 k)) (by decide) (hs _ ks_ar1.1) (va_eqv (hs _ ks_ar1.2) rfl) (fun j hj => va_eqv (hs _ (ks_el1 j hj)) rfl) hA
  exact ⟨t, va_Zof (hts _ ks_ly1.1) (hts _ ks_ly1.2) h1 hA, h2⟩
set_option maxRecDepth 100000 in
theorem ks_el2 : ∀ j, j < 16 → Cond.eq (.elem (Term.static "StillPicture$Differences" "WAVES" "[I") (.int (Int32.ofNat j))) (.int (zx_tab2 j)) ∈ flatC (Jvm.Cond.and given_1 narrow_1) := by decide +kernel
set_option maxRecDepth 100000 in
theorem ks_ar2 : Cond.arrayOf (Term.static "StillPicture$Differences" "WAVES" "[I") .int ∈ flatC (Jvm.Cond.and given_1 narrow_1) ∧ Cond.eq (.length (Term.static "StillPicture$Differences" "WAVES" "[I")) (.int 16) ∈ flatC (Jvm.Cond.and given_1 narrow_1) := by decide +kernel
set_option maxRecDepth 100000 in
theorem ks_ly2 : Cond.laysStatic "StillPicture$Differences" "WAVES" "[I" ∈ lw_tbl ∧ Cond.initialized "StillPicture$Differences" ∈ lw_tbl := ⟨List.mem_of_getElem? (i := 687) (by decide +kernel), List.mem_of_getElem? (i := 76) (by decide +kernel)⟩
theorem ks_st2 {args : Array Value} {s : State} {A : Nat → Prop} (hts : ∀ w ∈ lw_tbl, w.before args s = true) (hg : (Jvm.Cond.and given_1 narrow_1).before args s = true) (hA : ∀ a : Nat, a < s.heap.size → ¬ A a) : ∃ t : Nat, va_Z "StillPicture$Differences" "WAVES" "[I" (.ref t) A s s.heap ∧ va_T .int t 16 (fun k => .int (zx_tab2 k)) A s s.heap := by
  have hs := flat_of_before _ hg
  obtain ⟨t, h1, h2⟩ := va_Tof (tm := (Term.static "StillPicture$Differences" "WAVES" "[I")) (N := 16) (f := fun k => .int (zx_tab2 k)) (by decide) (hs _ ks_ar2.1) (va_eqv (hs _ ks_ar2.2) rfl) (fun j hj => va_eqv (hs _ (ks_el2 j hj)) rfl) hA
  exact ⟨t, va_Zof (hts _ ks_ly2.1) (hts _ ks_ly2.2) h1 hA, h2⟩
theorem zw_tables {args : Array Value} {s : State} (hw : ∀ w ∈ zx_ws, w.before args s = true) : ∃ (D : va_G) (cA : ClassId), va_K D vwCl [(cA, .int)] s := by
  obtain ⟨c0, i0, h0⟩ := u_known (n := 10) hw uw_S (hw _ ki_S)
  obtain ⟨c1, i1, h1⟩ := u_known (n := 7) hw uw_B (hw _ ki_B)
  obtain ⟨c2, i2, h2⟩ := u_known (n := 11) hw uw_I (hw _ ki_I)
  obtain ⟨c3, i3, h3⟩ := u_known (n := 4) hw uw_U (hw _ ki_U)
  obtain ⟨c4, i4, h4⟩ := u_known (n := 16) hw uw_H (hw _ ki_H)
  obtain ⟨c5, i5, h5⟩ := u_known (n := 10) hw uw_C (hw _ ki_C)
  obtain ⟨c6, i6, h6⟩ := u_known (n := 5) hw uw_P (hw _ ki_P)
  obtain ⟨c7, i7, h7⟩ := u_known (n := 6) hw uw_T (hw _ ki_T)
  obtain ⟨c8, i8, h8⟩ := u_known (n := 3) hw uw_D (hw _ ki_D)
  obtain ⟨c9, i9, h9⟩ := u_known (n := 6) hw uw_E (hw _ ki_E)
  obtain ⟨c10, i10, h10⟩ := u_known (n := 3) hw uw_F (hw _ ki_F)
  obtain ⟨c11, i11, h11⟩ := u_known (n := 47) hw uw_M (hw _ ki_M)
  obtain ⟨cA, kA, comp, f1, f2, f3⟩ := Cond.arrayClass_spec (hw _ kc_arr)
  refine ⟨(fun c => ([c0, c1, c2, c3, c4, c5, c6, c7, c8, c9, c10, c11] : List ClassId).getD c c0, fun c => ([i0, i1, i2, i3, i4, i5, i6, i7, i8, i9, i10, i11] : List (Nat → Nat)).getD c i0), cA, fun c q hc => ?_, fun k q hk => ?_⟩
  · have hlt : c < 12 := (List.getElem?_eq_some_iff.mp hc).1
    have : c = 0 ∨ c = 1 ∨ c = 2 ∨ c = 3 ∨ c = 4 ∨ c = 5 ∨ c = 6 ∨ c = 7 ∨ c = 8 ∨ c = 9 ∨ c = 10 ∨ c = 11 := by omega
    rcases this with rfl | rfl | rfl | rfl | rfl | rfl | rfl | rfl | rfl | rfl | rfl | rfl
    · cases hc; exact h0
    · cases hc; exact h1
    · cases hc; exact h2
    · cases hc; exact h3
    · cases hc; exact h4
    · cases hc; exact h5
    · cases hc; exact h6
    · cases hc; exact h7
    · cases hc; exact h8
    · cases hc; exact h9
    · cases hc; exact h10
    · cases hc; exact h11
  · have hlt : k < 1 := (List.getElem?_eq_some_iff.mp hk).1
    have : k = 0 := by omega
    subst this
    cases hk
    exact ⟨fun n z => ⟨fun k h => (by cases h), kA, f2, comp, f3⟩, f1⟩
set_option maxRecDepth 100000 in
theorem zw_start {p : Program} {e : Env} {s : State} {m : MethodId} {below : List Frame} {meth : Method} {c : Code} (l : Launch) {b L : Nat} {xs : Nat → Int32} (C0 : lw_At p s m meth c b L xs) (hpure : ∃ G1, f_L_law L xs zx_G0 = some (1, G1)) : W p l e room_1 s m #[Value.ref b] below meth c s.heap [] 0 0 (lw_Z below #[Value.ref b] s) (entryFrame m ([Value.ref b] : List Value).toArray 4) := by
  obtain ⟨hx, hb, hr, hml, hown, hts, hX, hbl, hlk, hgv⟩ := C0
  have hw : ∀ w ∈ zx_ws, w.before #[Value.ref b] s = true := fun w h => hts w (List.mem_filter.mp h).1
  have hN : zx_N s := fun w h => va_Nw.of (zx_nest_tab (List.mem_filter.mp h).2) (hts w (List.mem_filter.mp h).1)
  obtain ⟨D, cA, hK⟩ := zw_tables hw
  have hAo : ∀ a : Nat, a < s.heap.size → ¬ (fun q => s.heap.size ≤ q) a := fun a ha h => absurd ha (Nat.not_lt.mpr h)
  obtain ⟨t0, z0, y0⟩ := ks_st0 hts hgv hAo
  obtain ⟨t1, z1, y1⟩ := ks_st1 hts hgv hAo
  obtain ⟨t2, z2, y2⟩ := ks_st2 hts hgv hAo
  obtain ⟨G1, hf⟩ := hpure
  have hl := lv_entry ([Value.ref b]) (n := 4) (Nat.le_of_ble_eq_true rfl)
  rw [lg_entry_eq]
  have hC : zc_C M_L_law ((p, l, e, room_1, s, m, #[Value.ref b], below, meth, c), (D, cA, (fun q => s.heap.size ≤ q), lw_Z below #[Value.ref b] s, 4, 53, 4143)) :=
    ⟨hx, hb, hml, rfl, hown, hw, hr, hlk, hK, fun q h => h, rfl, hN⟩
  refine zw_ctors (b := b) (t0 := t0) (t1 := t1) (t2 := t2) hC rfl rfl ?_ s.heap [] _ hl (fun k q hk => by cases hk) ⟨fun i j p q hp => (by cases hp), fun k q hk => (by cases hk)⟩ va_S.rf
  intro ad e100 e101 e102 e103 hD
  have hZ : zx_C M_L_law ((p, l, e, room_1, s, m, #[Value.ref b], below, meth, c), (D, cA, (fun q => s.heap.size ≤ q), lw_Z below #[Value.ref b] s, 4, 53, 4143)) ad :=
    ⟨hx, hb, hml, rfl, hown, hw, hr, hlk, hK, hD, by subst e100 e101 e102; exact ⟨z0, y0, z1, y1, z2, y2⟩, rfl, hN⟩
  exact z_L_law_16 hZ (r := 1) (G1 := G1) ⟨rfl, rfl, rfl, rfl, fun q h => h, rfl, by rw [e103]⟩ (L := L) (xs := xs) ⟨by rw [e103]; exact hX, by rw [e103]; exact hbl, by rw [e103]; exact hAo b hbl⟩ zx_G0 hf
