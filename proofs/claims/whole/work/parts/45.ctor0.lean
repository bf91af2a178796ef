/-! constructors: the world grows; a list of cells at addresses -/
def zc_Z (κ : zx_K) (pc : Nat) (lv : List (Nat × Value)) (st : List Value) (ws : va_W) (cells slots : Nat) : Prop :=
  ∀ (H : Heap) (locs : List Loc) (ls : Array Slot), lv_has ls (zx_n κ) lv → va_P (zx_D κ) vwCl ws H → va_D (zx_A κ) ws → va_S (zx_A κ) (zx_s κ).heap H locs →
    W (zx_p κ) (zx_l κ) (zx_e κ) (zx_R κ) (zx_s κ) (zx_m κ) (zx_a κ) (zx_b κ) (zx_h κ) (zx_c κ) H locs cells slots (zx_Q κ) (F0 (zx_m κ) pc ls st)
def zc_C (M : zx_M) (κ : zx_K) : Prop :=
  (zx_p κ).tables.exec = Jvm.exec ∧ (zx_c κ).code = M.2.1 ∧ (zx_c κ).maxLocals = M.2.2.1 ∧ zx_n κ = M.2.2.1 ∧ (zx_s κ).vm.findClass M.1 = some (zx_m κ).cls ∧ (∀ w ∈ zx_ws, w.before (zx_a κ) (zx_s κ) = true) ∧
  (zx_h κ).sig.returnType = M.2.2.2.1 ∧ (zx_h κ).locks = false ∧ va_K (zx_D κ) vwCl [(zx_cA κ, .int)] (zx_s κ) ∧ (∀ q, (zx_s κ).heap.size ≤ q → zx_A κ q) ∧ zx_R κ = zx_rmk M.2.2.2.2.1 M.2.2.2.2.2 (zx_kc κ) (zx_ks κ) ∧ zx_N (zx_s κ)
/-- a constructor's contract: the cells ws become wo u, u the new addresses -/
def zc_met (l : Launch) (y : MethodName) (M : zx_M) (av : List Value) (D : va_G) (cA : ClassId) (ws : va_W) (wo : (Nat → Nat) → va_W) (mc ms sz : Nat) : Prop :=
  Met l y (.code y M.2.1 M.2.2.1 M.2.2.2.1 :: zx_ws) (zx_rmk M.2.2.2.2.1 M.2.2.2.2.2 mc ms) (va_Pc av (fun U => U.heap.size = sz ∧ va_P D vwCl ws U.heap ∧ va_K D vwCl [(cA, .int)] U ∧ va_D (fun _ => True) ws ∧ zx_N U))
    (va_Qv (fun _ : Nat → Nat => True) (fun u t => va_P D vwCl (wo u) t.heap ∧ va_D (va_A ws sz) (wo u)) (va_A ws sz)) mc ms (va_A ws sz)
def zc_E (κ : zx_K) (wo : (Nat → Nat) → va_W) : Prop :=
  zx_Q κ = MQ (zx_b κ) (va_Qv (fun _ : Nat → Nat => True) (fun u t => va_P (zx_D κ) vwCl (wo u) t.heap ∧ va_D (zx_A κ) (wo u)) (zx_A κ)) (zx_a κ) (zx_s κ) (zx_kc κ) (zx_ks κ) (zx_A κ) ∧ (zx_h κ).name = "<init>"
theorem zc_toMet {l : Launch} {y : MethodName} {M : zx_M} {av : List Value} {D : va_G} {cA : ClassId} {ws : va_W} {wo : (Nat → Nat) → va_W} {mc ms sz : Nat} (hy : plainName y.cls = true) (ho : y.cls = M.1) (hi : y.name = "<init>") (hn : (lg_sl av).length ≤ M.2.2.1)
    (body : ∀ κ : zx_K, zc_C M κ → zc_E κ wo → zx_kc κ = mc → zx_ks κ = ms → zx_D κ = D → zx_cA κ = cA → zc_Z κ 0 (lv_args 0 av) [] ws 0 0) : zc_met l y M av D cA ws wo mc ms sz := by
  refine Met.ofW (cc := M.2.1) (maxL := M.2.2.1) (ret := M.2.2.2.1) hy rfl ?_
  intro p e s m args below meth c s₁ B hml hv
  obtain ⟨rfl, hsz, hP, hK, hD0, hN⟩ := hv
  subst hsz
  have hts := atoms_spec (ws := .code y M.2.1 M.2.2.1 M.2.2.2.1 :: zx_ws) B.pre
  have hown : s.vm.findClass M.1 = some m.cls := by rw [← ho]; exact findClass_of_methodNamed B.named
  have hin : meth.name = "<init>" := (name_of_methodNamed B.named B.method).1.trans hi
  have hl := lv_entry av (n := M.2.2.1) hn
  rw [lg_entry_eq]
  exact body ((p, l, e, _, s, m, av.toArray, below, meth, c), (D, cA, va_A ws s.heap.size, MQ below (va_Qv (fun _ : Nat → Nat => True) (fun u t => va_P D vwCl (wo u) t.heap ∧ va_D (va_A ws s.heap.size) (wo u)) (va_A ws s.heap.size)) av.toArray s mc ms (va_A ws s.heap.size), M.2.2.1, mc, ms))
    ⟨B.exec, B.bytes, hml, rfl, hown, fun w hw => hts w (List.mem_cons_of_mem _ hw), B.returns, B.notSynchronized, hK, fun q h => Or.inr h, rfl, hN⟩ ⟨rfl, hin⟩ rfl rfl rfl rfl s.heap [] _ hl hP hD0.self va_S.rf
section ZC
variable {M : zx_M} {κ : zx_K} {pc q cells slots : Nat} {lv : List (Nat × Value)} {st : List Value} {ws : va_W}
theorem zc_C.x (h : zc_C M κ) : (zx_p κ).tables.exec = Jvm.exec := h.1
theorem zc_C.b (h : zc_C M κ) : (zx_c κ).code = M.2.1 := h.2.1
theorem zc_C.ml (h : zc_C M κ) : (zx_c κ).maxLocals = M.2.2.1 := h.2.2.1
theorem zc_C.n (h : zc_C M κ) : zx_n κ = M.2.2.1 := h.2.2.2.1
theorem zc_C.o (h : zc_C M κ) : (zx_s κ).vm.findClass M.1 = some (zx_m κ).cls := h.2.2.2.2.1
theorem zc_C.t (h : zc_C M κ) : ∀ w ∈ zx_ws, w.before (zx_a κ) (zx_s κ) = true := h.2.2.2.2.2.1
theorem zc_C.r (h : zc_C M κ) : (zx_h κ).sig.returnType = M.2.2.2.1 := h.2.2.2.2.2.2.1
theorem zc_C.k (h : zc_C M κ) : (zx_h κ).locks = false := h.2.2.2.2.2.2.2.1
theorem zc_C.K (h : zc_C M κ) : va_K (zx_D κ) vwCl [(zx_cA κ, .int)] (zx_s κ) := h.2.2.2.2.2.2.2.2.1
theorem zc_C.A (h : zc_C M κ) : ∀ q, (zx_s κ).heap.size ≤ q → zx_A κ q := h.2.2.2.2.2.2.2.2.2.1
theorem zc_C.R (h : zc_C M κ) : zx_R κ = zx_rmk M.2.2.2.2.1 M.2.2.2.2.2 (zx_kc κ) (zx_ks κ) := h.2.2.2.2.2.2.2.2.2.2.1
theorem zc_C.N (h : zc_C M κ) : zx_N (zx_s κ) := h.2.2.2.2.2.2.2.2.2.2.2
theorem zc_iconst (h : zc_C M κ) {n : Int} {v : Int32} (hd : decode M.2.1 pc = .ok (.iconst n, 1)) (hq : pc + 1 = q) (hv : Int32.ofInt n = v) (k : zc_Z κ q lv (.int v :: st) ws cells slots) : zc_Z κ pc lv st ws cells slots :=
  fun H locs ls hl hP hD hS => lv_iconst h.x h.b hd hv (by rw [hq]; exact k H locs ls hl hP hD hS)
theorem zc_bipush (h : zc_C M κ) {n : Int} {v : Int32} (hd : decode M.2.1 pc = .ok (.bipush n, 2)) (hq : pc + 2 = q) (hv : (Int8.ofInt n).toInt32 = v) (k : zc_Z κ q lv (.int v :: st) ws cells slots) : zc_Z κ pc lv st ws cells slots :=
  fun H locs ls hl hP hD hS => lv_bipush h.x h.b hd hv (by rw [hq]; exact k H locs ls hl hP hD hS)
theorem zc_sipush (h : zc_C M κ) {n : Int} {v : Int32} (hd : decode M.2.1 pc = .ok (.sipush n, 3)) (hq : pc + 3 = q) (hv : (Int16.ofInt n).toInt32 = v) (k : zc_Z κ q lv (.int v :: st) ws cells slots) : zc_Z κ pc lv st ws cells slots :=
  fun H locs ls hl hP hD hS => lv_sipush h.x h.b hd hv (by rw [hq]; exact k H locs ls hl hP hD hS)
theorem zc_aload_n (h : zc_C M κ) {k0 : Fin 4} {i : Nat} {x : Nat} (hd : decode M.2.1 pc = .ok (.aload_n k0, 1)) (hq : pc + 1 = q) (hi : (k0 : Nat) = i) (j : Nat) (hj : lv[j]? = some (i, .ref x)) (k : zc_Z κ q lv (.ref x :: st) ws cells slots) : zc_Z κ pc lv st ws cells slots :=
  fun H locs ls hl hP hD hS => lv_aload_n h.x h.b hd hi (lv_at hl j hj) (by rw [hq]; exact k H locs ls hl hP hD hS)
theorem zc_astore_n (h : zc_C M κ) {k0 : Fin 4} {i : Nat} {x : Nat} {lv' : List (Nat × Value)} (hd : decode M.2.1 pc = .ok (.astore_n k0, 1)) (hq : pc + 1 = q) (hi : (k0 : Nat) = i) (hn : i < M.2.2.1) (hl' : (i, Value.ref x) :: lv.filter (fun q => !(q.1 == i) && !(q.1 + 1 == i && q.2.category == 2)) = lv') (k : zc_Z κ q lv' st ws cells slots) : zc_Z κ pc lv (.ref x :: st) ws cells slots :=
  fun H locs ls hl hP hD hS => lv_astore_n h.x h.b hd hi hl (by rw [h.n]; exact hn) hl' (fun ls' hl2 => by rw [hq]; exact k H locs ls' hl2 hP hD hS)
theorem zc_dup (h : zc_C M κ) {va : Value} (hd : decode M.2.1 pc = .ok (.dup, 1)) (hq : pc + 1 = q) (ha : va.category = 1) (k : zc_Z κ q lv (va :: va :: st) ws cells slots) : zc_Z κ pc lv (va :: st) ws cells slots :=
  fun H locs ls hl hP hD hS => lv_dup h.x h.b hd ha (by rw [hq]; exact k H locs ls hl hP hD hS)
theorem zc_get {v : Value} {a p ci kf index : Nat} {fs : List Value} (h : zc_C M κ) (hd : decode M.2.1 pc = .ok (.getfield index, 3)) (hq : pc + 3 = q) (hf : zx_fl M.1 index ci kf) (hs : ws[p]? = some (a, .inr (ci, fs))) (hv : fs[kf]? = some v) (k : zc_Z κ q lv (v :: st) ws cells slots) : zc_Z κ pc lv (.ref a :: st) ws cells slots := by
  intro H locs ls hl hP hD hS
  obtain ⟨C, T, N, hc, hk, hin, ⟨ref, rfl, hw⟩ | ⟨ref, host, rfl, hw⟩⟩ := hf
  · exact va_get h.x h.b h.t hin h.o h.K hP p hs hc kf hk (h.t _ hw) (fun _ h9 => h9) hv hd (by rw [hq]; exact k H locs ls hl hP hD hS)
  · exact va_getN h.x h.b h.t hin h.o h.K hP p hs hc kf hk (va_Nw.use rfl (h.N _ hw)) (fun _ h9 => h9) hv hd (by rw [hq]; exact k H locs ls hl hP hD hS)
/-- a field that is written in a constructor, final or not -/
def zc_pl (own : String) (ci k : Nat) (ty : FieldType) : Prop := ∃ (C : String) (T : u_T) (N : Nat) (t0 : Nat → FieldType), vwCl[ci]? = some (C, T, N) ∧ (∀ k, k < N → parseFieldDescriptor (T k).2.2.1 = some (t0 k)) ∧ (∀ a, a < N → ∀ b, b < N → a ≠ b → (T a).2.1 ≠ (T b).2.1) ∧ (T k).1 = own ∧ parseFieldDescriptor (T k).2.2.1 = some ty
theorem zc_put {v : Value} {a p ci kf index : Nat} {ty : FieldType} {fs : List Value} {ws' : va_W} (h : zc_C M κ) (hin2 : (zx_h κ).name = "<init>") (hd : decode M.2.1 pc = .ok (.putfield index, 3)) (hq : pc + 3 = q) (hw : ∃ (C : String) (T : u_T) (N : Nat), vwCl[ci]? = some (C, T, N) ∧ kf < N ∧ (∀ w ∈ u_ws C T N, w ∈ zx_ws) ∧ Cond.fieldLink M.1 index (T kf).1 (T kf).2.1 (T kf).2.2.1 ∈ zx_ws) (hp : zc_pl M.1 ci kf ty) (hs : ws[p]? = some (a, .inr (ci, fs))) (hn : narrow ty v = v) (hfit : fits ty v = true) (hlen : kf < fs.length) (hws : ws.set p (a, .inr (ci, fs.set kf v)) = ws') (k : zc_Z κ q lv st ws' cells slots) : zc_Z κ pc lv (v :: .ref a :: st) ws cells slots := by
  intro H locs ls hl hP hD hS
  obtain ⟨C, T, N, hc, hk, hin, hw⟩ := hw
  obtain ⟨C', T', N', t0, hc', hty, hnm, hdecl, hdsc⟩ := hp
  cases hc.symm.trans hc'
  subst hws
  cases hfin : (T kf).2.2.2 with
  | true => exact va_putF h.x h.b h.t hin t0 hty hnm h.o h.K hP hD hS p hs hc kf hk (h.t _ hw) (fun _ h9 => h9) hfin hin2 hdecl hdsc hn hfit hlen hd (fun H1 locs1 hP1 hD1 hS1 => by rw [hq]; exact k H1 locs1 ls hl hP1 hD1 hS1)
  | false => exact va_put h.x h.b h.t hin t0 hty hnm h.o h.K hP hD hS p hs hc kf hk (h.t _ hw) (fun _ h9 => h9) hfin hdsc hn hfit hlen hd (fun H1 locs1 hP1 hD1 hS1 => by rw [hq]; exact k H1 locs1 ls hl hP1 hD1 hS1)
theorem zc_iast {i x : Int32} {a p n : Nat} {f : Nat → Int32} {ws' : va_W} (h : zc_C M κ) (hd : decode M.2.1 pc = .ok (.iastore, 1)) (hq : pc + 1 = q) (hs : ws[p]? = some (a, .inl (zx_cA κ, n, .inl f))) (hi : zx_in i n = true) (hws : ws.set p (a, .inl (zx_cA κ, n, .inl (upd f i.toNatClampNeg x))) = ws') (k : zc_Z κ q lv st ws' cells slots) : zc_Z κ pc lv (.int x :: .int i :: .ref a :: st) ws cells slots := by
  intro H locs ls hl hP hD hS
  subst hws
  exact va_iast h.x h.b h.K hP hD hS p 0 hs rfl (zx_in_vp hi) hd (fun H1 locs1 hP1 hD1 hS1 => by rw [hq]; exact k H1 locs1 ls hl hP1 hD1 hS1)
theorem zc_newa {n : Int32} {N cells' slots' : Nat} {ws' : Nat → va_W} (h : zc_C M κ) (hd : decode M.2.1 pc = .ok (.newarray .int, 2)) (hq : pc + 2 = q) (ha : Cond.arrayClass .int ∈ zx_ws) (hn : ¬ n < 0) (hN : n.toNatClampNeg = N) (hsm : N ≤ 1000) (hc : cells + 1 = cells') (hsl : slots + N = slots') (hcc : cells' ≤ zx_kc κ) (hss : slots' ≤ zx_ks κ) (hws : ∀ a, ws ++ [(a, .inl (zx_cA κ, N, .inl (fun _ => 0)))] = ws' a) (k : ∀ a : Nat, zc_Z κ q lv (.ref a :: st) (ws' a) cells' slots') : zc_Z κ pc lv (.int n :: st) ws cells slots := by
  intro H locs ls hl hP hD hS
  subst hc hsl
  refine va_newaK h.x h.b (atype := .int) (h.t _ ha) rfl hd rfl hn hN (by show N * 4 ≤ 536870912; omega) (by rw [h.R]; exact hcc) (by rw [h.R]; exact hss) rfl (fun H1 cB e1 z1 o1 hAr hNm => ?_)
  have hcB : cB = zx_cA κ := Option.some.inj (hNm.symm.trans (h.K.2 0 _ rfl).2)
  subst hcB
  have hk : ∀ (k : Nat) (x : Nat × va_E), ws[k]? = some x → H1[x.1]? = H[x.1]? := fun k x hx => o1 x.1 ((hP k x hx).lt)
  have hP1 : va_P (zx_D κ) vwCl (ws ++ [(H.size, .inl (zx_cA κ, N, .inl (fun _ => 0)))]) H1 := (hP.kept hk).app (fun k x hx => by
    have hz : k < 1 := (List.getElem?_eq_some_iff.mp hx).1
    rw [show k = 0 by omega] at hx
    cases hx
    show H1[H.size]? = some (vp_cell _ _)
    rw [vp_cell_i]
    exact e1)
  have hD1 : va_D (zx_A κ) (ws ++ [(H.size, .inl (zx_cA κ, N, .inl (fun _ => 0)))]) := hD.push hP rfl (h.A _ hS.1)
  rw [hws] at hP1 hD1
  have e9 := k H.size H1 locs ls hl hP1 hD1 ⟨Nat.le_trans hS.1 (by omega), fun x h1 h2 => (o1 x (Nat.lt_of_lt_of_le h1 hS.1)).trans (hS.2.1 x h1 h2), hS.2.2⟩
  rw [← hq] at e9
  exact e9
theorem zc_new {C : String} {T : u_T} {N ci index cells' slots' : Nat} {fs : List Value} {ws' : Nat → va_W} (h : zc_C M κ) (hd : decode M.2.1 pc = .ok (.new index, 3)) (hq : pc + 3 = q) (hin : ∀ w ∈ u_ws C T N, w ∈ zx_ws) (ty : Nat → FieldType) (hty : ∀ k, k < N → parseFieldDescriptor (T k).2.2.1 = some (ty k)) (hw : Cond.classLink M.1 index C ∈ zx_ws ∧ Cond.instantiable C N ∈ zx_ws ∧ Cond.initialized C ∈ zx_ws) (hcl : vwCl[ci]? = some (C, T, N)) (hfs : ∀ j, j < N → defaultValue (ty j) = vp_V fs j) (hc : cells + 1 = cells') (hsl : slots + N = slots') (hcc : cells' ≤ zx_kc κ) (hss : slots' ≤ zx_ks κ) (hws : ∀ a, ws ++ [(a, .inr (ci, fs))] = ws' a) (k : ∀ a : Nat, zc_Z κ q lv (.ref a :: st) (ws' a) cells' slots') : zc_Z κ pc lv st ws cells slots := by
  intro H locs ls hl hP hD hS
  subst hc hsl
  exact va_new h.x h.b h.t hin ty hty h.o (h.t _ hw.1) (h.t _ hw.2.1) (h.t _ hw.2.2) h.K hP hD hS h.A hcl hfs (by rw [h.R]; exact hcc) (by rw [h.R]; exact hss) hd (fun a H1 hP1 hD1 hS1 => by
    rw [hws] at hP1 hD1
    rw [hq]
    exact k a H1 locs ls hl hP1 hD1 hS1)
theorem zc_objInit {a idx : Nat} (h : zc_C M κ) (hd : decode M.2.1 pc = .ok (.invokespecial idx, 3)) (hq : pc + 3 = q) (hw : Cond.methodLink M.1 idx Lib.objectInit ∈ zx_ws ∧ Cond.instanceMethod Lib.objectInit ∈ zx_ws ∧ Cond.code Lib.objectInit ⟨#[0xb1]⟩ 1 none ∈ zx_ws) (hf : 1 ≤ M.2.2.2.2.1) (hl2 : (st.map fun v => v.category).sum + 12 ≤ M.2.2.2.2.2) (k : zc_Z κ q lv st ws cells slots) : zc_Z κ pc lv (.ref a :: st) ws cells slots := by
  intro H locs ls hl hP hD hS
  refine W.objInit h.x h.b h.o (h.t _ hw.1) (h.t _ hw.2.1) (h.t _ hw.2.2) rfl (by rw [h.ml, ← h.n]; exact hl.1) rfl hd (by rw [h.R]; exact hf) (by rw [h.R]; show 2 * 0 + _ + 12 ≤ M.2.2.2.2.2; omega) ?_
  subst hq
  exact k H locs ls hl hP hD hS
theorem zc_call {y : MethodName} {My : zx_M} {As st0 : List Value} {b n index mc ms cells' slots' : Nat} {wc wr : va_W} {wo : (Nat → Nat) → va_W} {ws' : (Nat → Nat) → va_W} (isC isR : List Nat) (h : zc_C M κ) (hM : ∀ sz, zc_met (zx_l κ) y My (.ref b :: As) (zx_D κ) (zx_cA κ) wc wo mc ms sz) (hw : zx_cb M.1 index y My n ∧ Cond.instanceMethod y ∈ zx_ws) (hi : y.name = "<init>") (hd : decode M.2.1 pc = .ok (.invokespecial index, 3)) (hq : pc + 3 = q) (hret : My.2.2.2.1 = none) (hst : st0 = As.reverse ++ .ref b :: st) (hC : isC.map (fun i => ws[i]?) = wc.map some) (hR0 : isR.map (fun i => ws[i]?) = wr.map some) (hnd : va_nd isR = true) (hndC : va_nd isC = true) (hdis : ∀ i ∈ isR, i ∉ isC)
    (hx : As.length = n ∧ My.2.2.2.2.1 + 1 ≤ M.2.2.2.2.1 ∧ 19 + My.2.2.1 + My.2.2.2.2.2 ≤ M.2.2.2.2.2) (hW : (st.map fun v => v.category).sum ≤ 8) (hc : cells + mc = cells') (hsl : slots + ms = slots') (hcc : cells' ≤ zx_kc κ) (hss : slots' ≤ zx_ks κ) (hws : ∀ u, wr ++ wo u = ws' u) (k : ∀ u : Nat → Nat, zc_Z κ q lv st (ws' u) cells' slots') : zc_Z κ pc lv st0 ws cells slots := by
  intro H locs ls hl hP hD hS
  subst hc hsl
  obtain ⟨⟨hcd, hini, hdd, hlk⟩, hins⟩ := hw
  have hr : (zx_rmk My.2.2.2.2.1 My.2.2.2.2.2 mc ms).frames + 1 ≤ (zx_R κ).frames ∧ 8 + (My.2.2.1 + 11) + (zx_rmk My.2.2.2.2.1 My.2.2.2.2.2 mc ms).locals ≤ (zx_R κ).locals := by
    rw [h.R]; dsimp only [zx_rmk]; omega
  have hPc : va_P (zx_D κ) vwCl wc H := hP.sub isC (by
    have e := congrArg (List.filterMap id) hC
    simpa [List.filterMap_map] using e)
  have hDc : va_D (zx_A κ) wc := hD.sub isC hndC hC
  have hF := va_free (wc := wc) hD hS h.A isC hC
  have hpre : PreS (zx_s κ) H (va_Pc (.ref b :: As) (fun U => U.heap.size = H.size ∧ va_P (zx_D κ) vwCl wc U.heap ∧ va_K (zx_D κ) vwCl [(zx_cA κ, .int)] U ∧ va_D (fun _ => True) wc ∧ zx_N U)) (.ref b :: As) :=
    ⟨fun a U g mk q => by obtain ⟨q0, q1, qP, qK, qD, qN⟩ := q; exact ⟨q0, q1, qP, va_K.moved (u := U) (U := U.calling g mk a) (Vm.Alike.refl U.vm) qK, qD, qN.same (s := U) (U := U.calling g mk a) rfl⟩, fun U hU hW => ⟨rfl, by rw [hU], by rw [hU]; exact hPc, va_K.moved hW.alike h.K, hDc.weaken (fun _ _ _ _ => trivial), h.N.warm hW⟩⟩
  have hM1 := hM H.size
  unfold zc_met at hM1
  rw [hret] at hM1 hcd
  have hcode : GoodIn zx_ws (Cond.code y My.2.1 My.2.2.1 none :: zx_ws) := by
    intro w hw
    rcases List.mem_cons.mp hw with rfl | hw
    · exact zx_good _ hcd
    · exact zx_good _ hw
  have hrun : va_Run (zx_p κ) (zx_l κ) (zx_e κ) (zx_R κ) (zx_s κ) (zx_m κ) (zx_a κ) (zx_b κ) (zx_h κ) (zx_c κ) H locs cells slots mc ms (F0 (zx_m κ) pc ls st0) st (va_Qv (fun _ : Nat → Nat => True) (fun u t => va_P (zx_D κ) vwCl (wo u) t.heap ∧ va_D (va_A wc H.size) (wo u)) (va_A wc H.size) (Value.ref b :: As).toArray) (va_A wc H.size) := by
    by_cases hpl : Cond.methodLink M.1 index y ∈ zx_ws
    · exact va_runI (nL := M.2.2.1) (n := n) ⟨h.x, h.b, h.ml, h.o, h.t⟩ hM1 ⟨callB_of n h.t hcode rfl rfl rfl (h.t _ hini) (h.t _ hpl) hdd hr, hi, h.t _ hins⟩ hpre rfl hx.1 (by rw [← h.n]; exact hl.1) hst (lv_room hW) hd ⟨by rw [h.R]; exact hcc, by rw [h.R]; exact hss⟩
    · rcases hlk with hlk | ⟨host, hlk⟩
      · exact absurd hlk hpl
      · exact va_runIN (nL := M.2.2.1) (n := n) ⟨h.x, h.b, h.ml, h.o, h.t⟩ hM1 ⟨va_cnB n h.t hcode rfl rfl rfl (h.N _ hlk) (h.t _ hini) hdd hr, hi, h.t _ hins⟩ hpre rfl hx.1 (by rw [← h.n]; exact hl.1) hst (lv_room hW) hd ⟨by rw [h.R]; exact hcc, by rw [h.R]; exact hss⟩
  refine va_callv hrun hS (fun q _ h => hF q h) hF (fun u t H1 locs1 ht hvm _ hB hz hk hS1 => ?_)
  obtain ⟨hP1, hD1⟩ := hB
  rw [ht] at hP1
  obtain ⟨hP2, hD2⟩ := va_join hP hD isC isR hC hR0 hnd hdis hk hF hP1 hD1
  rw [hws] at hP2 hD2
  rw [hq]
  exact k u H1 locs1 ls hl hP2 hD2 hS1
theorem zc_ret {wo : (Nat → Nat) → va_W} (u : Nat → Nat) (is : List Nat) (h : zc_C M κ) (hE : zc_E κ wo) (hd : decode M.2.1 pc = .ok (.return_, 1)) (hr : M.2.2.2.1 = none) (hn : va_nd is = true) (hs : is.map (fun i => ws[i]?) = (wo u).map some) (hc : cells = zx_kc κ) (hsl : slots = zx_ks κ) : zc_Z κ pc lv [] ws cells slots := by
  intro H locs ls hl hP hD hS
  subst hc hsl
  rw [hE.1]
  refine W.vret h.x h.b (by rw [h.r]; exact hr) (fun t ht hW => ?_) hS.2.2 hd h.k
  have hP9 : va_P (zx_D κ) vwCl (wo u) H := hP.sub is (by
    have e := congrArg (List.filterMap id) hs
    simpa [List.filterMap_map] using e)
  exact ⟨⟨u, rfl, trivial, by subst ht; exact hP9, hD.sub is hn hs⟩, hS.F ht⟩
end ZC
