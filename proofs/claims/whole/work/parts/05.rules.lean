def zx_N (U : State) : Prop := ∀ w ∈ zx_nw, va_Nw w U
theorem zx_nest_warm {w : Cond} {s U : State} (hw : zx_nest w = true) (hW : s.WarmedH U.vm) (h : va_Nw w s) : va_Nw w U := by
  cases w with
  | fieldLinkNest a i b n d g => exact va_Nw.warmF hW h
  | methodLinkNest a i x g => exact va_Nw.warmM hW h
  | _ => cases hw
theorem zx_nest_same {w : Cond} {s U : State} (hw : zx_nest w = true) (hW : s.vm = U.vm) (h : va_Nw w s) : va_Nw w U := by
  cases w with
  | fieldLinkNest a i b n d g => exact va_Nw.same rfl hW h
  | methodLinkNest a i x g => exact va_Nw.same rfl hW h
  | _ => cases hw
theorem zx_N.warm {s U : State} (hW : s.WarmedH U.vm) (h : zx_N s) : zx_N U := fun w hw => zx_nest_warm (List.all_eq_true.mp zx_nw_ok w hw) hW (h w hw)
theorem zx_N.same {s U : State} (hW : s.vm = U.vm) (h : zx_N s) : zx_N U := fun w hw => zx_nest_same (List.all_eq_true.mp zx_nw_ok w hw) hW (h w hw)
/-- what a walk is over: program, launch, env, room, start, method, arguments, frames below, method, code; tables, int[] 's number, own cells, end, locals -/
abbrev zx_K : Type := (Program × Launch × Env × Room × State × MethodId × Array Value × List Frame × Method × Code) × (va_G × ClassId × (Nat → Prop) × (State → Prop) × Nat × Nat × Nat)
abbrev zx_p (κ : zx_K) : Program := κ.1.1
abbrev zx_l (κ : zx_K) : Launch := κ.1.2.1
abbrev zx_e (κ : zx_K) : Env := κ.1.2.2.1
abbrev zx_R (κ : zx_K) : Room := κ.1.2.2.2.1
abbrev zx_s (κ : zx_K) : State := κ.1.2.2.2.2.1
abbrev zx_m (κ : zx_K) : MethodId := κ.1.2.2.2.2.2.1
abbrev zx_a (κ : zx_K) : Array Value := κ.1.2.2.2.2.2.2.1
abbrev zx_b (κ : zx_K) : List Frame := κ.1.2.2.2.2.2.2.2.1
abbrev zx_h (κ : zx_K) : Method := κ.1.2.2.2.2.2.2.2.2.1
abbrev zx_c (κ : zx_K) : Code := κ.1.2.2.2.2.2.2.2.2.2
abbrev zx_D (κ : zx_K) : va_G := κ.2.1
abbrev zx_cA (κ : zx_K) : ClassId := κ.2.2.1
abbrev zx_A (κ : zx_K) : Nat → Prop := κ.2.2.2.1
abbrev zx_Q (κ : zx_K) : State → Prop := κ.2.2.2.2.1
abbrev zx_n (κ : zx_K) : Nat := κ.2.2.2.2.2.1
abbrev zx_kc (κ : zx_K) : Nat := κ.2.2.2.2.2.2.1
abbrev zx_ks (κ : zx_K) : Nat := κ.2.2.2.2.2.2.2
/-- the judgement: from this place, with these locals and this stack, over the world of G, the walk comes to its end -/
def zx_Z (κ : zx_K) (ad : Nat → Nat) (pc : Nat) (lv : List (Nat × Value)) (st : List Value) (G : zx_G) : Prop :=
  ∀ (H : Heap) (locs : List Loc) (ls : Array Slot), lv_has ls (zx_n κ) lv → va_P (zx_D κ) vwCl (zx_wld (zx_cA κ) ad zx_SH G) H → va_S (zx_A κ) (zx_s κ).heap H locs →
    W (zx_p κ) (zx_l κ) (zx_e κ) (zx_R κ) (zx_s κ) (zx_m κ) (zx_a κ) (zx_b κ) (zx_h κ) (zx_c κ) H locs (zx_kc κ) (zx_ks κ) (zx_Q κ) (F0 (zx_m κ) pc ls st)
/-- room -/
abbrev zx_rm (f w : Nat) : Room := { frames := f, cells := 0, slots := 0, locals := w }
abbrev zx_rmk (f w c n : Nat) : Room := { frames := f, cells := c, slots := n, locals := w }
/-- what a walk's context grants -/
def zx_C (M : zx_M) (κ : zx_K) (ad : Nat → Nat) : Prop :=
  (zx_p κ).tables.exec = Jvm.exec ∧ (zx_c κ).code = M.2.1 ∧ (zx_c κ).maxLocals = M.2.2.1 ∧ zx_n κ = M.2.2.1 ∧ (zx_s κ).vm.findClass M.1 = some (zx_m κ).cls ∧ (∀ w ∈ zx_ws, w.before (zx_a κ) (zx_s κ) = true) ∧
  (zx_h κ).sig.returnType = M.2.2.2.1 ∧ (zx_h κ).locks = false ∧ va_K (zx_D κ) vwCl [(zx_cA κ, .int)] (zx_s κ) ∧ (∀ G : zx_G, va_D (zx_A κ) (zx_wld (zx_cA κ) ad zx_SH G)) ∧ zx_T ad (zx_A κ) (zx_s κ) (zx_s κ).heap ∧ zx_R κ = zx_rmk M.2.2.2.2.1 M.2.2.2.2.2 (zx_kc κ) (zx_ks κ) ∧ zx_N (zx_s κ)
theorem zx_C.x {M : zx_M} {κ : zx_K} {ad : Nat → Nat} (h : zx_C M κ ad) : (zx_p κ).tables.exec = Jvm.exec := h.1
theorem zx_C.b {M : zx_M} {κ : zx_K} {ad : Nat → Nat} (h : zx_C M κ ad) : (zx_c κ).code = M.2.1 := h.2.1
theorem zx_C.ml {M : zx_M} {κ : zx_K} {ad : Nat → Nat} (h : zx_C M κ ad) : (zx_c κ).maxLocals = M.2.2.1 := h.2.2.1
theorem zx_C.n {M : zx_M} {κ : zx_K} {ad : Nat → Nat} (h : zx_C M κ ad) : zx_n κ = M.2.2.1 := h.2.2.2.1
theorem zx_C.o {M : zx_M} {κ : zx_K} {ad : Nat → Nat} (h : zx_C M κ ad) : (zx_s κ).vm.findClass M.1 = some (zx_m κ).cls := h.2.2.2.2.1
theorem zx_C.t {M : zx_M} {κ : zx_K} {ad : Nat → Nat} (h : zx_C M κ ad) : ∀ w ∈ zx_ws, w.before (zx_a κ) (zx_s κ) = true := h.2.2.2.2.2.1
theorem zx_C.r {M : zx_M} {κ : zx_K} {ad : Nat → Nat} (h : zx_C M κ ad) : (zx_h κ).sig.returnType = M.2.2.2.1 := h.2.2.2.2.2.2.1
theorem zx_C.k {M : zx_M} {κ : zx_K} {ad : Nat → Nat} (h : zx_C M κ ad) : (zx_h κ).locks = false := h.2.2.2.2.2.2.2.1
theorem zx_C.K {M : zx_M} {κ : zx_K} {ad : Nat → Nat} (h : zx_C M κ ad) : va_K (zx_D κ) vwCl [(zx_cA κ, .int)] (zx_s κ) := h.2.2.2.2.2.2.2.2.1
theorem zx_C.D {M : zx_M} {κ : zx_K} {ad : Nat → Nat} (h : zx_C M κ ad) : ∀ G : zx_G, va_D (zx_A κ) (zx_wld (zx_cA κ) ad zx_SH G) := h.2.2.2.2.2.2.2.2.2.1
theorem zx_C.T {M : zx_M} {κ : zx_K} {ad : Nat → Nat} (h : zx_C M κ ad) : zx_T ad (zx_A κ) (zx_s κ) (zx_s κ).heap := h.2.2.2.2.2.2.2.2.2.2.1
theorem zx_C.R {M : zx_M} {κ : zx_K} {ad : Nat → Nat} (h : zx_C M κ ad) : zx_R κ = zx_rmk M.2.2.2.2.1 M.2.2.2.2.2 (zx_kc κ) (zx_ks κ) := h.2.2.2.2.2.2.2.2.2.2.2.1
theorem zx_C.N {M : zx_M} {κ : zx_K} {ad : Nat → Nat} (h : zx_C M κ ad) : zx_N (zx_s κ) := h.2.2.2.2.2.2.2.2.2.2.2.2
section ZR
variable {M : zx_M} {κ : zx_K} {ad : Nat → Nat} {pc q : Nat} {lv : List (Nat × Value)} {st : List Value} {G : zx_G}
theorem zr_sub {lv' : List (Nat × Value)} (ks : List Nat) (hl : lv_pick lv ks = lv') (k : zx_Z κ ad pc lv' st G) : zx_Z κ ad pc lv st G :=
  fun H locs ls hv hP hS => k H locs ls (lv_sub hv ks hl) hP hS
theorem zr_eqG {G1 : zx_G} (h : G1 = G) (k : zx_Z κ ad pc lv st G1) : zx_Z κ ad pc lv st G := h ▸ k
theorem zr_iconst (h : zx_C M κ ad) {n : Int} {v : Int32} (hd : decode M.2.1 pc = .ok (.iconst n, 1)) (hq : pc + 1 = q) (hv : Int32.ofInt n = v) (k : zx_Z κ ad q lv (.int v :: st) G) : zx_Z κ ad pc lv st G :=
  fun H locs ls hl hP hS => lv_iconst h.x h.b hd hv (by rw [hq]; exact k H locs ls hl hP hS)
theorem zr_bipush (h : zx_C M κ ad) {n : Int} {v : Int32} (hd : decode M.2.1 pc = .ok (.bipush n, 2)) (hq : pc + 2 = q) (hv : (Int8.ofInt n).toInt32 = v) (k : zx_Z κ ad q lv (.int v :: st) G) : zx_Z κ ad pc lv st G :=
  fun H locs ls hl hP hS => lv_bipush h.x h.b hd hv (by rw [hq]; exact k H locs ls hl hP hS)
theorem zr_sipush (h : zx_C M κ ad) {n : Int} {v : Int32} (hd : decode M.2.1 pc = .ok (.sipush n, 3)) (hq : pc + 3 = q) (hv : (Int16.ofInt n).toInt32 = v) (k : zx_Z κ ad q lv (.int v :: st) G) : zx_Z κ ad pc lv st G :=
  fun H locs ls hl hP hS => lv_sipush h.x h.b hd hv (by rw [hq]; exact k H locs ls hl hP hS)
theorem zr_ldc (h : zx_C M κ ad) {index : Nat} {v : Int32} (hd : decode M.2.1 pc = .ok (.ldc index, 2)) (hq : pc + 2 = q) (hw : Cond.constant M.1 index v ∈ zx_ws) (k : zx_Z κ ad q lv (.int v :: st) G) : zx_Z κ ad pc lv st G :=
  fun H locs ls hl hP hS => lv_ldc h.x h.b h.o (h.t _ hw) hd (by rw [hq]; exact k H locs ls hl hP hS)
theorem zr_ldc_w (h : zx_C M κ ad) {index : Nat} {v : Int32} (hd : decode M.2.1 pc = .ok (.ldc_w index, 3)) (hq : pc + 3 = q) (hw : Cond.constant M.1 index v ∈ zx_ws) (k : zx_Z κ ad q lv (.int v :: st) G) : zx_Z κ ad pc lv st G :=
  fun H locs ls hl hP hS => lv_ldcw h.x h.b h.o (h.t _ hw) hd (by rw [hq]; exact k H locs ls hl hP hS)
theorem zr_iload_n (h : zx_C M κ ad) {k0 : Fin 4} {i : Nat} {x : Int32} (hd : decode M.2.1 pc = .ok (.iload_n k0, 1)) (hq : pc + 1 = q) (hi : (k0 : Nat) = i) (j : Nat) (hj : lv[j]? = some (i, .int x)) (k : zx_Z κ ad q lv (.int x :: st) G) : zx_Z κ ad pc lv st G :=
  fun H locs ls hl hP hS => lv_iload_n h.x h.b hd hi (lv_at hl j hj) (by rw [hq]; exact k H locs ls hl hP hS)
theorem zr_iload (h : zx_C M κ ad) {i : Nat} {x : Int32} (hd : decode M.2.1 pc = .ok (.iload i, 2)) (hq : pc + 2 = q) (j : Nat) (hj : lv[j]? = some (i, .int x)) (k : zx_Z κ ad q lv (.int x :: st) G) : zx_Z κ ad pc lv st G :=
  fun H locs ls hl hP hS => lv_iload h.x h.b hd (lv_at hl j hj) (by rw [hq]; exact k H locs ls hl hP hS)
theorem zr_istore_n (h : zx_C M κ ad) {k0 : Fin 4} {i : Nat} {x y : Int32} {lv' : List (Nat × Value)} (hd : decode M.2.1 pc = .ok (.istore_n k0, 1)) (hq : pc + 1 = q) (hi : (k0 : Nat) = i) (hn : i < M.2.2.1) (hx : y = x) (hl' : (i, Value.int y) :: lv.filter (fun q => !(q.1 == i) && !(q.1 + 1 == i && q.2.category == 2)) = lv') (k : zx_Z κ ad q lv' st G) : zx_Z κ ad pc lv (.int x :: st) G :=
  fun H locs ls hl hP hS => by subst hx; exact lv_istore_n h.x h.b hd hi hl (by rw [h.n]; exact hn) hl' (fun ls' hl2 => by rw [hq]; exact k H locs ls' hl2 hP hS)
theorem zr_istore (h : zx_C M κ ad) {i : Nat} {x y : Int32} {lv' : List (Nat × Value)} (hd : decode M.2.1 pc = .ok (.istore i, 2)) (hq : pc + 2 = q) (hn : i < M.2.2.1) (hx : y = x) (hl' : (i, Value.int y) :: lv.filter (fun q => !(q.1 == i) && !(q.1 + 1 == i && q.2.category == 2)) = lv') (k : zx_Z κ ad q lv' st G) : zx_Z κ ad pc lv (.int x :: st) G :=
  fun H locs ls hl hP hS => by subst hx; exact lv_istore h.x h.b hd hl (by rw [h.n]; exact hn) hl' (fun ls' hl2 => by rw [hq]; exact k H locs ls' hl2 hP hS)
theorem zr_aload_n (h : zx_C M κ ad) {k0 : Fin 4} {i : Nat} {x : Nat} (hd : decode M.2.1 pc = .ok (.aload_n k0, 1)) (hq : pc + 1 = q) (hi : (k0 : Nat) = i) (j : Nat) (hj : lv[j]? = some (i, .ref x)) (k : zx_Z κ ad q lv (.ref x :: st) G) : zx_Z κ ad pc lv st G :=
  fun H locs ls hl hP hS => lv_aload_n h.x h.b hd hi (lv_at hl j hj) (by rw [hq]; exact k H locs ls hl hP hS)
theorem zr_aload (h : zx_C M κ ad) {i : Nat} {x : Nat} (hd : decode M.2.1 pc = .ok (.aload i, 2)) (hq : pc + 2 = q) (j : Nat) (hj : lv[j]? = some (i, .ref x)) (k : zx_Z κ ad q lv (.ref x :: st) G) : zx_Z κ ad pc lv st G :=
  fun H locs ls hl hP hS => lv_aload h.x h.b hd (lv_at hl j hj) (by rw [hq]; exact k H locs ls hl hP hS)
theorem zr_astore_n (h : zx_C M κ ad) {k0 : Fin 4} {i : Nat} {x : Nat} {lv' : List (Nat × Value)} (hd : decode M.2.1 pc = .ok (.astore_n k0, 1)) (hq : pc + 1 = q) (hi : (k0 : Nat) = i) (hn : i < M.2.2.1) (hl' : (i, Value.ref x) :: lv.filter (fun q => !(q.1 == i) && !(q.1 + 1 == i && q.2.category == 2)) = lv') (k : zx_Z κ ad q lv' st G) : zx_Z κ ad pc lv (.ref x :: st) G :=
  fun H locs ls hl hP hS => by exact lv_astore_n h.x h.b hd hi hl (by rw [h.n]; exact hn) hl' (fun ls' hl2 => by rw [hq]; exact k H locs ls' hl2 hP hS)
theorem zr_astore (h : zx_C M κ ad) {i : Nat} {x : Nat} {lv' : List (Nat × Value)} (hd : decode M.2.1 pc = .ok (.astore i, 2)) (hq : pc + 2 = q) (hn : i < M.2.2.1) (hl' : (i, Value.ref x) :: lv.filter (fun q => !(q.1 == i) && !(q.1 + 1 == i && q.2.category == 2)) = lv') (k : zx_Z κ ad q lv' st G) : zx_Z κ ad pc lv (.ref x :: st) G :=
  fun H locs ls hl hP hS => by exact lv_astore h.x h.b hd hl (by rw [h.n]; exact hn) hl' (fun ls' hl2 => by rw [hq]; exact k H locs ls' hl2 hP hS)
theorem zr_iinc (h : zx_C M κ ad) {i j : Nat} {n : Int} {x v c0 : Int32} {lv' : List (Nat × Value)} (hd : decode M.2.1 pc = .ok (.iinc i n, 3)) (hq : pc + 3 = q) (hj : lv[j]? = some (i, .int x)) (hc : Int32.ofInt n = c0) (hv : v = x + c0) (hn : i < M.2.2.1) (hl' : (i, Value.int v) :: lv.filter (fun q => !(q.1 == i) && !(q.1 + 1 == i && q.2.category == 2)) = lv') (k : zx_Z κ ad q lv' st G) : zx_Z κ ad pc lv st G :=
  fun H locs ls hl hP hS => lv_iinc h.x h.b hd hl hj (by rw [hc]; exact hv.symm) (by rw [h.n]; exact hn) hl' (fun ls' hl2 => by rw [hq]; exact k H locs ls' hl2 hP hS)
theorem zr_iadd (h : zx_C M κ ad) {x y : Int32} (hd : decode M.2.1 pc = .ok (.iadd, 1)) (hq : pc + 1 = q) (k : zx_Z κ ad q lv (.int (x + y) :: st) G) : zx_Z κ ad pc lv (.int y :: .int x :: st) G :=
  fun H locs ls hl hP hS => lv_iadd h.x h.b hd (by rw [hq]; exact k H locs ls hl hP hS)
theorem zr_isub (h : zx_C M κ ad) {x y : Int32} (hd : decode M.2.1 pc = .ok (.isub, 1)) (hq : pc + 1 = q) (k : zx_Z κ ad q lv (.int (x - y) :: st) G) : zx_Z κ ad pc lv (.int y :: .int x :: st) G :=
  fun H locs ls hl hP hS => lv_isub h.x h.b hd (by rw [hq]; exact k H locs ls hl hP hS)
theorem zr_imul (h : zx_C M κ ad) {x y : Int32} (hd : decode M.2.1 pc = .ok (.imul, 1)) (hq : pc + 1 = q) (k : zx_Z κ ad q lv (.int (x * y) :: st) G) : zx_Z κ ad pc lv (.int y :: .int x :: st) G :=
  fun H locs ls hl hP hS => lv_imul h.x h.b hd (by rw [hq]; exact k H locs ls hl hP hS)
theorem zr_iand (h : zx_C M κ ad) {x y : Int32} (hd : decode M.2.1 pc = .ok (.iand, 1)) (hq : pc + 1 = q) (k : zx_Z κ ad q lv (.int (x &&& y) :: st) G) : zx_Z κ ad pc lv (.int y :: .int x :: st) G :=
  fun H locs ls hl hP hS => lv_iand h.x h.b hd (by rw [hq]; exact k H locs ls hl hP hS)
theorem zr_ior (h : zx_C M κ ad) {x y : Int32} (hd : decode M.2.1 pc = .ok (.ior, 1)) (hq : pc + 1 = q) (k : zx_Z κ ad q lv (.int (x ||| y) :: st) G) : zx_Z κ ad pc lv (.int y :: .int x :: st) G :=
  fun H locs ls hl hP hS => lv_ior h.x h.b hd (by rw [hq]; exact k H locs ls hl hP hS)
theorem zr_ixor (h : zx_C M κ ad) {x y : Int32} (hd : decode M.2.1 pc = .ok (.ixor, 1)) (hq : pc + 1 = q) (k : zx_Z κ ad q lv (.int (x ^^^ y) :: st) G) : zx_Z κ ad pc lv (.int y :: .int x :: st) G :=
  fun H locs ls hl hP hS => lv_ixor h.x h.b hd (by rw [hq]; exact k H locs ls hl hP hS)
theorem zr_ishl (h : zx_C M κ ad) {x y : Int32} (hd : decode M.2.1 pc = .ok (.ishl, 1)) (hq : pc + 1 = q) (k : zx_Z κ ad q lv (.int (x <<< (y &&& 31)) :: st) G) : zx_Z κ ad pc lv (.int y :: .int x :: st) G :=
  fun H locs ls hl hP hS => lv_ishl h.x h.b hd (by rw [hq]; exact k H locs ls hl hP hS)
theorem zr_ishr (h : zx_C M κ ad) {x y : Int32} (hd : decode M.2.1 pc = .ok (.ishr, 1)) (hq : pc + 1 = q) (k : zx_Z κ ad q lv (.int (x >>> (y &&& 31)) :: st) G) : zx_Z κ ad pc lv (.int y :: .int x :: st) G :=
  fun H locs ls hl hP hS => lv_ishr h.x h.b hd (by rw [hq]; exact k H locs ls hl hP hS)
theorem zr_idiv (h : zx_C M κ ad) {x y : Int32} (hd : decode M.2.1 pc = .ok (.idiv, 1)) (hq : pc + 1 = q) (hne : ¬ y = 0) (k : zx_Z κ ad q lv (.int (zx_div x y) :: st) G) : zx_Z κ ad pc lv (.int y :: .int x :: st) G :=
  fun H locs ls hl hP hS => lv_idiv h.x h.b hd hne (by rw [hq]; exact k H locs ls hl hP hS)
theorem zr_irem (h : zx_C M κ ad) {x y : Int32} (hd : decode M.2.1 pc = .ok (.irem, 1)) (hq : pc + 1 = q) (hne : ¬ y = 0) (k : zx_Z κ ad q lv (.int (zx_rem x y) :: st) G) : zx_Z κ ad pc lv (.int y :: .int x :: st) G :=
  fun H locs ls hl hP hS => lv_irem h.x h.b hd hne (by rw [hq]; exact k H locs ls hl hP hS)
theorem zr_ineg (h : zx_C M κ ad) {x : Int32} (hd : decode M.2.1 pc = .ok (.ineg, 1)) (hq : pc + 1 = q) (k : zx_Z κ ad q lv (.int (-x) :: st) G) : zx_Z κ ad pc lv (.int x :: st) G :=
  fun H locs ls hl hP hS => lv_ineg h.x h.b hd (by rw [hq]; exact k H locs ls hl hP hS)
theorem zr_dup (h : zx_C M κ ad) {va : Value} (hd : decode M.2.1 pc = .ok (.dup, 1)) (hq : pc + 1 = q) (ha : va.category = 1) (k : zx_Z κ ad q lv (va :: va :: st) G) : zx_Z κ ad pc lv (va :: st) G :=
  fun H locs ls hl hP hS => lv_dup h.x h.b hd ha (by rw [hq]; exact k H locs ls hl hP hS)
theorem zr_pop (h : zx_C M κ ad) {va : Value} (hd : decode M.2.1 pc = .ok (.pop, 1)) (hq : pc + 1 = q) (ha : va.category = 1) (k : zx_Z κ ad q lv st G) : zx_Z κ ad pc lv (va :: st) G :=
  fun H locs ls hl hP hS => lv_pop h.x h.b hd ha (by rw [hq]; exact k H locs ls hl hP hS)
theorem zr_dup_x1 (h : zx_C M κ ad) {va vb : Value} (hd : decode M.2.1 pc = .ok (.dup_x1, 1)) (hq : pc + 1 = q) (ha : va.category = 1) (hb : vb.category = 1) (k : zx_Z κ ad q lv (va :: vb :: va :: st) G) : zx_Z κ ad pc lv (va :: vb :: st) G :=
  fun H locs ls hl hP hS => lv_dup_x1 h.x h.b hd ha hb (by rw [hq]; exact k H locs ls hl hP hS)
theorem zr_dup2 (h : zx_C M κ ad) {va vb : Value} (hd : decode M.2.1 pc = .ok (.dup2, 1)) (hq : pc + 1 = q) (ha : va.category = 1) (hb : vb.category = 1) (k : zx_Z κ ad q lv (va :: vb :: va :: vb :: st) G) : zx_Z κ ad pc lv (va :: vb :: st) G :=
  fun H locs ls hl hP hS => lv_dup2_11 h.x h.b hd ha hb (by rw [hq]; exact k H locs ls hl hP hS)
theorem zr_goto (h : zx_C M κ ad) {off : Int} {tgt : Nat} (hd : decode M.2.1 pc = .ok (.goto off, 3)) (ht : (pc : Int) + off = (tgt : Int)) (k : zx_Z κ ad tgt lv st G) : zx_Z κ ad pc lv st G :=
  fun H locs ls hl hP hS => lv_goto h.x h.b hd ht (k H locs ls hl hP hS)
theorem zr_if_eq_t (h : zx_C M κ ad) {x : Int32} {off : Int} {tgt : Nat} (hd : decode M.2.1 pc = .ok (.ifCond .eq off, 3)) (ht : (pc : Int) + off = (tgt : Int)) (hc : x = 0) (k : zx_Z κ ad tgt lv st G) : zx_Z κ ad pc lv (.int x :: st) G :=
  fun H locs ls hl hP hS => lv_if_eq h.x h.b hd ht (fun _ => k H locs ls hl hP hS) (fun hn => absurd hc hn)
theorem zr_if_eq_f (h : zx_C M κ ad) {x : Int32} {off : Int} (tgt : Nat) (hd : decode M.2.1 pc = .ok (.ifCond .eq off, 3)) (ht : (pc : Int) + off = (tgt : Int)) (hq : pc + 3 = q) (hc : ¬ (x = 0)) (k : zx_Z κ ad q lv st G) : zx_Z κ ad pc lv (.int x :: st) G :=
  fun H locs ls hl hP hS => lv_if_eq h.x h.b hd ht (fun hn => absurd hn hc) (fun _ => by rw [hq]; exact k H locs ls hl hP hS)
theorem zr_icmp_eq_t (h : zx_C M κ ad) {x y : Int32} {off : Int} {tgt : Nat} (hd : decode M.2.1 pc = .ok (.if_icmp .eq off, 3)) (ht : (pc : Int) + off = (tgt : Int)) (hc : x = y) (k : zx_Z κ ad tgt lv st G) : zx_Z κ ad pc lv (.int y :: .int x :: st) G :=
  fun H locs ls hl hP hS => lv_icmp_eq h.x h.b hd ht (fun _ => k H locs ls hl hP hS) (fun hn => absurd hc hn)
theorem zr_icmp_eq_f (h : zx_C M κ ad) {x y : Int32} {off : Int} (tgt : Nat) (hd : decode M.2.1 pc = .ok (.if_icmp .eq off, 3)) (ht : (pc : Int) + off = (tgt : Int)) (hq : pc + 3 = q) (hc : ¬ (x = y)) (k : zx_Z κ ad q lv st G) : zx_Z κ ad pc lv (.int y :: .int x :: st) G :=
  fun H locs ls hl hP hS => lv_icmp_eq h.x h.b hd ht (fun hn => absurd hn hc) (fun _ => by rw [hq]; exact k H locs ls hl hP hS)
theorem zr_if_ne_t (h : zx_C M κ ad) {x : Int32} {off : Int} {tgt : Nat} (hd : decode M.2.1 pc = .ok (.ifCond .ne off, 3)) (ht : (pc : Int) + off = (tgt : Int)) (hc : ¬ x = 0) (k : zx_Z κ ad tgt lv st G) : zx_Z κ ad pc lv (.int x :: st) G :=
  fun H locs ls hl hP hS => lv_if_ne h.x h.b hd ht (fun _ => k H locs ls hl hP hS) (fun hn => absurd hn hc)
theorem zr_if_ne_f (h : zx_C M κ ad) {x : Int32} {off : Int} (tgt : Nat) (hd : decode M.2.1 pc = .ok (.ifCond .ne off, 3)) (ht : (pc : Int) + off = (tgt : Int)) (hq : pc + 3 = q) (hc : ¬ (¬ x = 0)) (k : zx_Z κ ad q lv st G) : zx_Z κ ad pc lv (.int x :: st) G :=
  fun H locs ls hl hP hS => lv_if_ne h.x h.b hd ht (fun hn => absurd hn hc) (fun _ => by rw [hq]; exact k H locs ls hl hP hS)
theorem zr_icmp_ne_t (h : zx_C M κ ad) {x y : Int32} {off : Int} {tgt : Nat} (hd : decode M.2.1 pc = .ok (.if_icmp .ne off, 3)) (ht : (pc : Int) + off = (tgt : Int)) (hc : ¬ x = y) (k : zx_Z κ ad tgt lv st G) : zx_Z κ ad pc lv (.int y :: .int x :: st) G :=
  fun H locs ls hl hP hS => lv_icmp_ne h.x h.b hd ht (fun _ => k H locs ls hl hP hS) (fun hn => absurd hn hc)
theorem zr_icmp_ne_f (h : zx_C M κ ad) {x y : Int32} {off : Int} (tgt : Nat) (hd : decode M.2.1 pc = .ok (.if_icmp .ne off, 3)) (ht : (pc : Int) + off = (tgt : Int)) (hq : pc + 3 = q) (hc : ¬ (¬ x = y)) (k : zx_Z κ ad q lv st G) : zx_Z κ ad pc lv (.int y :: .int x :: st) G :=
  fun H locs ls hl hP hS => lv_icmp_ne h.x h.b hd ht (fun hn => absurd hn hc) (fun _ => by rw [hq]; exact k H locs ls hl hP hS)
theorem zr_if_lt_t (h : zx_C M κ ad) {x : Int32} {off : Int} {tgt : Nat} (hd : decode M.2.1 pc = .ok (.ifCond .lt off, 3)) (ht : (pc : Int) + off = (tgt : Int)) (hc : x < 0) (k : zx_Z κ ad tgt lv st G) : zx_Z κ ad pc lv (.int x :: st) G :=
  fun H locs ls hl hP hS => lv_if_lt h.x h.b hd ht (fun _ => k H locs ls hl hP hS) (fun hn => absurd hc hn)
theorem zr_if_lt_f (h : zx_C M κ ad) {x : Int32} {off : Int} (tgt : Nat) (hd : decode M.2.1 pc = .ok (.ifCond .lt off, 3)) (ht : (pc : Int) + off = (tgt : Int)) (hq : pc + 3 = q) (hc : ¬ (x < 0)) (k : zx_Z κ ad q lv st G) : zx_Z κ ad pc lv (.int x :: st) G :=
  fun H locs ls hl hP hS => lv_if_lt h.x h.b hd ht (fun hn => absurd hn hc) (fun _ => by rw [hq]; exact k H locs ls hl hP hS)
theorem zr_icmp_lt_t (h : zx_C M κ ad) {x y : Int32} {off : Int} {tgt : Nat} (hd : decode M.2.1 pc = .ok (.if_icmp .lt off, 3)) (ht : (pc : Int) + off = (tgt : Int)) (hc : x < y) (k : zx_Z κ ad tgt lv st G) : zx_Z κ ad pc lv (.int y :: .int x :: st) G :=
  fun H locs ls hl hP hS => lv_icmp_lt h.x h.b hd ht (fun _ => k H locs ls hl hP hS) (fun hn => absurd hc hn)
theorem zr_icmp_lt_f (h : zx_C M κ ad) {x y : Int32} {off : Int} (tgt : Nat) (hd : decode M.2.1 pc = .ok (.if_icmp .lt off, 3)) (ht : (pc : Int) + off = (tgt : Int)) (hq : pc + 3 = q) (hc : ¬ (x < y)) (k : zx_Z κ ad q lv st G) : zx_Z κ ad pc lv (.int y :: .int x :: st) G :=
  fun H locs ls hl hP hS => lv_icmp_lt h.x h.b hd ht (fun hn => absurd hn hc) (fun _ => by rw [hq]; exact k H locs ls hl hP hS)
theorem zr_if_ge_t (h : zx_C M κ ad) {x : Int32} {off : Int} {tgt : Nat} (hd : decode M.2.1 pc = .ok (.ifCond .ge off, 3)) (ht : (pc : Int) + off = (tgt : Int)) (hc : 0 ≤ x) (k : zx_Z κ ad tgt lv st G) : zx_Z κ ad pc lv (.int x :: st) G :=
  fun H locs ls hl hP hS => lv_if_ge h.x h.b hd ht (fun _ => k H locs ls hl hP hS) (fun hn => absurd hc hn)
theorem zr_if_ge_f (h : zx_C M κ ad) {x : Int32} {off : Int} (tgt : Nat) (hd : decode M.2.1 pc = .ok (.ifCond .ge off, 3)) (ht : (pc : Int) + off = (tgt : Int)) (hq : pc + 3 = q) (hc : ¬ (0 ≤ x)) (k : zx_Z κ ad q lv st G) : zx_Z κ ad pc lv (.int x :: st) G :=
  fun H locs ls hl hP hS => lv_if_ge h.x h.b hd ht (fun hn => absurd hn hc) (fun _ => by rw [hq]; exact k H locs ls hl hP hS)
theorem zr_icmp_ge_t (h : zx_C M κ ad) {x y : Int32} {off : Int} {tgt : Nat} (hd : decode M.2.1 pc = .ok (.if_icmp .ge off, 3)) (ht : (pc : Int) + off = (tgt : Int)) (hc : y ≤ x) (k : zx_Z κ ad tgt lv st G) : zx_Z κ ad pc lv (.int y :: .int x :: st) G :=
  fun H locs ls hl hP hS => lv_icmp_ge h.x h.b hd ht (fun _ => k H locs ls hl hP hS) (fun hn => absurd hc hn)
theorem zr_icmp_ge_f (h : zx_C M κ ad) {x y : Int32} {off : Int} (tgt : Nat) (hd : decode M.2.1 pc = .ok (.if_icmp .ge off, 3)) (ht : (pc : Int) + off = (tgt : Int)) (hq : pc + 3 = q) (hc : ¬ (y ≤ x)) (k : zx_Z κ ad q lv st G) : zx_Z κ ad pc lv (.int y :: .int x :: st) G :=
  fun H locs ls hl hP hS => lv_icmp_ge h.x h.b hd ht (fun hn => absurd hn hc) (fun _ => by rw [hq]; exact k H locs ls hl hP hS)
theorem zr_if_gt_t (h : zx_C M κ ad) {x : Int32} {off : Int} {tgt : Nat} (hd : decode M.2.1 pc = .ok (.ifCond .gt off, 3)) (ht : (pc : Int) + off = (tgt : Int)) (hc : 0 < x) (k : zx_Z κ ad tgt lv st G) : zx_Z κ ad pc lv (.int x :: st) G :=
  fun H locs ls hl hP hS => lv_if_gt h.x h.b hd ht (fun _ => k H locs ls hl hP hS) (fun hn => absurd hc hn)
theorem zr_if_gt_f (h : zx_C M κ ad) {x : Int32} {off : Int} (tgt : Nat) (hd : decode M.2.1 pc = .ok (.ifCond .gt off, 3)) (ht : (pc : Int) + off = (tgt : Int)) (hq : pc + 3 = q) (hc : ¬ (0 < x)) (k : zx_Z κ ad q lv st G) : zx_Z κ ad pc lv (.int x :: st) G :=
  fun H locs ls hl hP hS => lv_if_gt h.x h.b hd ht (fun hn => absurd hn hc) (fun _ => by rw [hq]; exact k H locs ls hl hP hS)
theorem zr_icmp_gt_t (h : zx_C M κ ad) {x y : Int32} {off : Int} {tgt : Nat} (hd : decode M.2.1 pc = .ok (.if_icmp .gt off, 3)) (ht : (pc : Int) + off = (tgt : Int)) (hc : y < x) (k : zx_Z κ ad tgt lv st G) : zx_Z κ ad pc lv (.int y :: .int x :: st) G :=
  fun H locs ls hl hP hS => lv_icmp_gt h.x h.b hd ht (fun _ => k H locs ls hl hP hS) (fun hn => absurd hc hn)
theorem zr_icmp_gt_f (h : zx_C M κ ad) {x y : Int32} {off : Int} (tgt : Nat) (hd : decode M.2.1 pc = .ok (.if_icmp .gt off, 3)) (ht : (pc : Int) + off = (tgt : Int)) (hq : pc + 3 = q) (hc : ¬ (y < x)) (k : zx_Z κ ad q lv st G) : zx_Z κ ad pc lv (.int y :: .int x :: st) G :=
  fun H locs ls hl hP hS => lv_icmp_gt h.x h.b hd ht (fun hn => absurd hn hc) (fun _ => by rw [hq]; exact k H locs ls hl hP hS)
theorem zr_if_le_t (h : zx_C M κ ad) {x : Int32} {off : Int} {tgt : Nat} (hd : decode M.2.1 pc = .ok (.ifCond .le off, 3)) (ht : (pc : Int) + off = (tgt : Int)) (hc : x ≤ 0) (k : zx_Z κ ad tgt lv st G) : zx_Z κ ad pc lv (.int x :: st) G :=
  fun H locs ls hl hP hS => lv_if_le h.x h.b hd ht (fun _ => k H locs ls hl hP hS) (fun hn => absurd hc hn)
theorem zr_if_le_f (h : zx_C M κ ad) {x : Int32} {off : Int} (tgt : Nat) (hd : decode M.2.1 pc = .ok (.ifCond .le off, 3)) (ht : (pc : Int) + off = (tgt : Int)) (hq : pc + 3 = q) (hc : ¬ (x ≤ 0)) (k : zx_Z κ ad q lv st G) : zx_Z κ ad pc lv (.int x :: st) G :=
  fun H locs ls hl hP hS => lv_if_le h.x h.b hd ht (fun hn => absurd hn hc) (fun _ => by rw [hq]; exact k H locs ls hl hP hS)
theorem zr_icmp_le_t (h : zx_C M κ ad) {x y : Int32} {off : Int} {tgt : Nat} (hd : decode M.2.1 pc = .ok (.if_icmp .le off, 3)) (ht : (pc : Int) + off = (tgt : Int)) (hc : x ≤ y) (k : zx_Z κ ad tgt lv st G) : zx_Z κ ad pc lv (.int y :: .int x :: st) G :=
  fun H locs ls hl hP hS => lv_icmp_le h.x h.b hd ht (fun _ => k H locs ls hl hP hS) (fun hn => absurd hc hn)
theorem zr_icmp_le_f (h : zx_C M κ ad) {x y : Int32} {off : Int} (tgt : Nat) (hd : decode M.2.1 pc = .ok (.if_icmp .le off, 3)) (ht : (pc : Int) + off = (tgt : Int)) (hq : pc + 3 = q) (hc : ¬ (x ≤ y)) (k : zx_Z κ ad q lv st G) : zx_Z κ ad pc lv (.int y :: .int x :: st) G :=
  fun H locs ls hl hP hS => lv_icmp_le h.x h.b hd ht (fun hn => absurd hn hc) (fun _ => by rw [hq]; exact k H locs ls hl hP hS)
/-- a field's link is one of the words, plain or by the nest -/
def zx_fl (own : String) (index ci k : Nat) : Prop := ∃ (C : String) (T : u_T) (N : Nat), vwCl[ci]? = some (C, T, N) ∧ k < N ∧ (∀ w ∈ u_ws C T N, w ∈ zx_ws) ∧ ((∃ ref, ref = (T k).1 ∧ Cond.fieldLink own index ref (T k).2.1 (T k).2.2.1 ∈ zx_ws) ∨ ∃ (ref host : String), ref = (T k).1 ∧ Cond.fieldLinkNest own index ref (T k).2.1 (T k).2.2.1 host ∈ zx_nw)
theorem zx_get {v : Value} {p ci kf index : Nat} {ts : List (Option Nat)} (h : zx_C M κ ad) (hd : decode M.2.1 pc = .ok (.getfield index, 3)) (hq : pc + 3 = q) (hs : zx_SH[p]? = some (.inr (ci, ts))) (hf : zx_fl M.1 index ci kf) (hv : (ts.mapIdx (zx_fv ad (G p)))[kf]? = some v) (k : zx_Z κ ad q lv (v :: st) G) : zx_Z κ ad pc lv (.ref (ad p) :: st) G := by
  intro H locs ls hl hP hS
  obtain ⟨C, T, N, hc, hk, hin, ⟨ref, rfl, hw⟩ | ⟨ref, host, rfl, hw⟩⟩ := hf
  · exact va_get h.x h.b h.t hin h.o h.K hP p (zx_wld_at hs) hc kf hk (h.t _ hw) (fun _ h9 => h9) hv hd (by rw [hq]; exact k H locs ls hl hP hS)
  · exact va_getN h.x h.b h.t hin h.o h.K hP p (zx_wld_at hs) hc kf hk (va_Nw.use rfl (h.N _ hw)) (fun _ h9 => h9) hv hd (by rw [hq]; exact k H locs ls hl hP hS)
theorem zr_getI {p ci kf index : Nat} {ts : List (Option Nat)} (h : zx_C M κ ad) (hd : decode M.2.1 pc = .ok (.getfield index, 3)) (hq : pc + 3 = q) (hf : zx_fl M.1 index ci kf) (hs : zx_SH[p]? = some (.inr (ci, ts))) (hv : ts[kf]? = some none) (k : zx_Z κ ad q lv (.int (G p kf) :: st) G) : zx_Z κ ad pc lv (.ref (ad p) :: st) G :=
  zx_get h hd hq hs hf (by rw [List.getElem?_mapIdx, hv]; rfl) k
theorem zr_getR {p ci kf index r : Nat} {ts : List (Option Nat)} (h : zx_C M κ ad) (hd : decode M.2.1 pc = .ok (.getfield index, 3)) (hq : pc + 3 = q) (hf : zx_fl M.1 index ci kf) (hs : zx_SH[p]? = some (.inr (ci, ts))) (hv : ts[kf]? = some (some r)) (k : zx_Z κ ad q lv (.ref (ad r) :: st) G) : zx_Z κ ad pc lv (.ref (ad p) :: st) G :=
  zx_get h hd hq hs hf (by rw [List.getElem?_mapIdx, hv]; rfl) k
/-- a field that may be written: its type, and the tables' rows of its owner -/
def zx_pl (ci k : Nat) (ty : FieldType) : Prop := ∃ (C : String) (T : u_T) (N : Nat) (t0 : Nat → FieldType), vwCl[ci]? = some (C, T, N) ∧ (∀ k, k < N → parseFieldDescriptor (T k).2.2.1 = some (t0 k)) ∧ (∀ a, a < N → ∀ b, b < N → a ≠ b → (T a).2.1 ≠ (T b).2.1) ∧ (T k).2.2.2 = false ∧ parseFieldDescriptor (T k).2.2.1 = some ty
theorem zr_putI {x : Int32} {p ci kf index : Nat} {ty : FieldType} {ts : List (Option Nat)} {G1 : zx_G} (h : zx_C M κ ad) (hd : decode M.2.1 pc = .ok (.putfield index, 3)) (hq : pc + 3 = q) (hf : zx_fl M.1 index ci kf) (hp : zx_pl ci kf ty) (hs : zx_SH[p]? = some (.inr (ci, ts))) (hv : ts[kf]? = some none) (hn : narrow ty (.int x) = .int x) (hfit : fits ty (.int x) = true) (hG : G1 = zx_up G p kf x) (k : zx_Z κ ad q lv st G1) : zx_Z κ ad pc lv (.int x :: .ref (ad p) :: st) G := by
  intro H locs ls hl hP hS
  subst hG
  obtain ⟨C, T, N, hc, hk, hin, hlk⟩ := hf
  obtain ⟨C', T', N', t0, hc', hty, hnm, hfin, hdsc⟩ := hp
  have e9 := hc.symm.trans hc'
  cases e9
  have hlen : kf < (ts.mapIdx (zx_fv ad (G p))).length := by
    have h1 := (List.getElem?_eq_some_iff.mp hv).1
    simpa using h1
  have go : ∀ (H1 : Heap) (locs1 : List Loc), va_P (zx_D κ) vwCl ((zx_wld (zx_cA κ) ad zx_SH G).set p (ad p, .inr (ci, (ts.mapIdx (zx_fv ad (G p))).set kf (.int x)))) H1 → va_D (zx_A κ) ((zx_wld (zx_cA κ) ad zx_SH G).set p (ad p, .inr (ci, (ts.mapIdx (zx_fv ad (G p))).set kf (.int x)))) → va_S (zx_A κ) (zx_s κ).heap H1 locs1 → W (zx_p κ) (zx_l κ) (zx_e κ) (zx_R κ) (zx_s κ) (zx_m κ) (zx_a κ) (zx_b κ) (zx_h κ) (zx_c κ) H1 locs1 (zx_kc κ) (zx_ks κ) (zx_Q κ) (F0 (zx_m κ) (pc + 3) ls st) := by
    intro H1 locs1 hP1 _ hS1
    rw [zx_fv_set hv x] at hP1
    have e := zx_wld_set (cA := zx_cA κ) (ad := ad) (G := G) hs (upd (G p) kf x)
    have e2 : (zx_wld (zx_cA κ) ad zx_SH G).set p (ad p, .inr (ci, ts.mapIdx (zx_fv ad (upd (G p) kf x)))) = zx_wld (zx_cA κ) ad zx_SH (zx_up G p kf x) := e
    rw [e2] at hP1
    rw [hq]
    exact k H1 locs1 ls hl hP1 hS1
  rcases hlk with ⟨ref, rfl, hw⟩ | ⟨ref, host, rfl, hw⟩
  · exact va_put h.x h.b h.t hin t0 hty hnm h.o h.K hP (h.D G) hS p (zx_wld_at hs) hc kf hk (h.t _ hw) (fun _ h9 => h9) hfin hdsc hn hfit hlen hd go
  · exact va_putN h.x h.b h.t hin t0 hty hnm h.o h.K hP (h.D G) hS p (zx_wld_at hs) hc kf hk (va_Nw.use rfl (h.N _ hw)) (fun _ h9 => h9) hfin hdsc hn hfit hlen hd go
theorem zr_iald {i : Int32} {p n : Nat} (h : zx_C M κ ad) (hd : decode M.2.1 pc = .ok (.iaload, 1)) (hq : pc + 1 = q) (hs : zx_SH[p]? = some (.inl n)) (hi : zx_in i n = true) (k : zx_Z κ ad q lv (.int (G p i.toNatClampNeg) :: st) G) : zx_Z κ ad pc lv (.int i :: .ref (ad p) :: st) G :=
  fun H locs ls hl hP hS => va_iald h.x h.b h.K hP p 0 (zx_wld_at hs) rfl (zx_in_vp hi) hd (by rw [hq]; exact k H locs ls hl hP hS)
theorem zr_iast {i x : Int32} {p n : Nat} {G1 : zx_G} (h : zx_C M κ ad) (hd : decode M.2.1 pc = .ok (.iastore, 1)) (hq : pc + 1 = q) (hs : zx_SH[p]? = some (.inl n)) (hi : zx_in i n = true) (hG : G1 = zx_up G p i.toNatClampNeg x) (k : zx_Z κ ad q lv st G1) : zx_Z κ ad pc lv (.int x :: .int i :: .ref (ad p) :: st) G := by
  intro H locs ls hl hP hS
  subst hG
  refine va_iast h.x h.b h.K hP (h.D G) hS p 0 (zx_wld_at hs) rfl (zx_in_vp hi) hd (fun H1 locs1 hP1 _ hS1 => ?_)
  have e2 : (zx_wld (zx_cA κ) ad zx_SH G).set p (ad p, .inl (zx_cA κ, n, .inl (upd (G p) i.toNatClampNeg x))) = zx_wld (zx_cA κ) ad zx_SH (zx_up G p i.toNatClampNeg x) := zx_wld_set (cA := zx_cA κ) (ad := ad) (G := G) hs (upd (G p) i.toNatClampNeg x)
  rw [e2] at hP1
  rw [hq]
  exact k H1 locs1 ls hl hP1 hS1
theorem zr_alen {v : Int32} {p n : Nat} (h : zx_C M κ ad) (hd : decode M.2.1 pc = .ok (.arraylength, 1)) (hq : pc + 1 = q) (hs : zx_SH[p]? = some (.inl n)) (hv : Int32.ofNat n = v) (k : zx_Z κ ad q lv (.int v :: st) G) : zx_Z κ ad pc lv (.ref (ad p) :: st) G :=
  fun H locs ls hl hP hS => va_alen h.x h.b h.K hP p 0 (zx_wld_at hs) rfl hv hd (by rw [hq]; exact k H locs ls hl hP hS)
end ZR
