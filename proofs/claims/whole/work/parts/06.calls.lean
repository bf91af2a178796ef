/-- a method's start: the world of G, the tables, the statics, the words of the nest -/
def zx_P (D : va_G) (cA : ClassId) (ad : Nat → Nat) (A : Nat → Prop) (G : zx_G) (U : State) : Prop :=
  va_P D vwCl (zx_wld cA ad zx_SH G) U.heap ∧ va_K D vwCl [(cA, .int)] U ∧ (∀ G : zx_G, va_D A (zx_wld cA ad zx_SH G)) ∧ zx_T ad A U U.heap ∧ zx_N U
/-- a method's end -/
def zx_post (M : zx_M) (D : va_G) (cA : ClassId) (ad : Nat → Nat) (A : Nat → Prop) (r : Int32) (G1 : zx_G) : Array Value → State → Outcome → State → Prop := match M.2.2.2.1 with
  | none => va_Qv (fun _ : Unit => True) (fun _ t => va_P D vwCl (zx_wld cA ad zx_SH G1) t.heap) A
  | some _ => va_Qi (fun (x : Int32) (_ : Unit) => x = r) (fun _ t => va_P D vwCl (zx_wld cA ad zx_SH G1) t.heap) A
def zx_met (l : Launch) (y : MethodName) (M : zx_M) (av : List Value) (D : va_G) (cA : ClassId) (ad : Nat → Nat) (A : Nat → Prop) (G : zx_G) (r : Int32) (G1 : zx_G) : Prop :=
  Met l y (.code y M.2.1 M.2.2.1 M.2.2.2.1 :: zx_ws) (zx_rm M.2.2.2.2.1 M.2.2.2.2.2) (va_Pc av (zx_P D cA ad A G)) (zx_post M D cA ad A r G1) 0 0 A
/-- the walk's end is the method's -/
def zx_E (M : zx_M) (κ : zx_K) (ad : Nat → Nat) (r : Int32) (G1 : zx_G) : Prop :=
  zx_Q κ = MQ (zx_b κ) (zx_post M (zx_D κ) (zx_cA κ) ad (zx_A κ) r G1) (zx_a κ) (zx_s κ) (zx_kc κ) (zx_ks κ) (zx_A κ)
theorem zx_toMet {l : Launch} {y : MethodName} {M : zx_M} {av : List Value} {D : va_G} {cA : ClassId} {ad : Nat → Nat} {A : Nat → Prop} {G : zx_G} {r : Int32} {G1 : zx_G} (hy : plainName y.cls = true) (ho : y.cls = M.1) (hn : (lg_sl av).length ≤ M.2.2.1)
    (body : ∀ κ : zx_K, zx_C M κ ad → zx_E M κ ad r G1 → zx_Z κ ad 0 (lv_args 0 av) [] G) : zx_met l y M av D cA ad A G r G1 := by
  refine Met.ofW (cc := M.2.1) (maxL := M.2.2.1) (ret := M.2.2.2.1) hy rfl ?_
  intro p e s m args below meth c s₁ B hml hv
  obtain ⟨rfl, hP, hK, hD, hT, hN⟩ := hv
  have hts := atoms_spec (ws := .code y M.2.1 M.2.2.1 M.2.2.2.1 :: zx_ws) B.pre
  have hown : s.vm.findClass M.1 = some m.cls := by rw [← ho]; exact findClass_of_methodNamed B.named
  have hl := lv_entry av (n := M.2.2.1) hn
  rw [lg_entry_eq]
  exact body ((p, l, e, _, s, m, av.toArray, below, meth, c), (D, cA, A, MQ below (zx_post M D cA ad A r G1) av.toArray s 0 0 A, M.2.2.1, 0, 0)) ⟨B.exec, B.bytes, hml, rfl, hown, fun w hw => hts w (List.mem_cons_of_mem _ hw), B.returns, B.notSynchronized, hK, hD, hT, rfl, hN⟩ (by unfold zx_E; rfl) s.heap [] _ hl hP va_S.rf
section ZE
variable {M : zx_M} {κ : zx_K} {ad : Nat → Nat} {pc q : Nat} {lv : List (Nat × Value)} {st : List Value} {G : zx_G} {r : Int32} {G1 : zx_G}
theorem zr_iret {x : Int32} (h : zx_C M κ ad) (hE : zx_E M κ ad r G1) (hd : decode M.2.1 pc = .ok (.ireturn, 1)) (hr : M.2.2.2.1 = some .int) (hf : some (x, G) = some (r, G1)) : zx_Z κ ad pc lv [.int x] G := by
  cases hf
  intro H locs ls hl hP hS
  rw [hE]
  refine W.iret h.x h.b (by rw [h.r]; exact hr) (fun t ht hW => ?_) hS.2.2 hd h.k
  simp only [zx_post, hr]
  exact ⟨⟨_, (), rfl, rfl, (by subst ht; exact hP)⟩, hS.F ht⟩
theorem zr_zret {x : Int32} (h : zx_C M κ ad) (hE : zx_E M κ ad r G1) (hd : decode M.2.1 pc = .ok (.ireturn, 1)) (hr : M.2.2.2.1 = some .boolean) (hb : zx_01 x = true) (hf : some (x, G) = some (r, G1)) : zx_Z κ ad pc lv [.int x] G := by
  cases hf
  intro H locs ls hl hP hS
  rw [hE]
  refine W.zret h.x h.b (by rw [h.r]; exact hr) (zx_01_n hb) (fun t ht hW => ?_) hS.2.2 hd h.k
  simp only [zx_post, hr]
  exact ⟨⟨_, (), rfl, rfl, (by subst ht; exact hP)⟩, hS.F ht⟩
theorem zr_vret (h : zx_C M κ ad) (hE : zx_E M κ ad r G1) (hd : decode M.2.1 pc = .ok (.return_, 1)) (hr : M.2.2.2.1 = none) (hf : some ((0 : Int32), G) = some (r, G1)) : zx_Z κ ad pc lv [] G := by
  cases hf
  intro H locs ls hl hP hS
  rw [hE]
  refine W.vret h.x h.b (by rw [h.r]; exact hr) (fun t ht hW => ?_) hS.2.2 hd h.k
  simp only [zx_post, hr]
  exact ⟨⟨(), rfl, trivial, (by subst ht; exact hP)⟩, hS.F ht⟩
/-- the callee's start, out of the caller's context -/
theorem zx_pre (h : zx_C M κ ad) {H : Heap} {locs : List Loc} (hP : va_P (zx_D κ) vwCl (zx_wld (zx_cA κ) ad zx_SH G) H) (hS : va_S (zx_A κ) (zx_s κ).heap H locs) (U : State) (hU : U.heap = H) (hW : (zx_s κ).WarmedH U.vm) : zx_P (zx_D κ) (zx_cA κ) ad (zx_A κ) G U :=
  ⟨by rw [hU]; exact hP, va_K.moved hW.alike h.K, h.D, by rw [hU]; exact (h.T.moved hW.alike).kept hS.2.1, h.N.warm hW⟩
theorem zx_blind {D : va_G} {cA : ClassId} {A : Nat → Prop} {av : List Value} : FrameBlind (va_Pc av (zx_P D cA ad A G)) := by
  intro a U g mk hq
  obtain ⟨q0, qP, qK, qD, qT, qN⟩ := hq
  exact ⟨q0, qP, va_K.moved (u := U) (U := U.calling g mk a) (Vm.Alike.refl U.vm) qK, qD, qT.moved (u := U) (U := U.calling g mk a) (Vm.Alike.refl U.vm), qN.same (s := U) (U := U.calling g mk a) rfl⟩
/-- a call's words: plain, or by the nest -/
def zx_cb (own : String) (index : Nat) (y : MethodName) (My : zx_M) (n : Nat) : Prop :=
  .code y My.2.1 My.2.2.1 My.2.2.2.1 ∈ zx_ws ∧ .initialized y.cls ∈ zx_ws ∧ (y.cls ≠ "java/lang/invoke/MethodHandle" ∧ y.cls ≠ "java/lang/invoke/VarHandle" ∧ (parseMethodDescriptor y.desc).map (fun d => d.parameters.length) = some n) ∧ (.methodLink own index y ∈ zx_ws ∨ ∃ host, .methodLinkNest own index y host ∈ zx_nw)
def zx_cv (own : String) (index : Nat) (y : MethodName) (My : zx_M) (n : Nat) : Prop :=
  zx_cb own index y My n ∧ .instanceMethod y ∈ zx_ws ∧ .selects y.cls y y ∈ zx_ws
def zx_cs (own : String) (index : Nat) (y : MethodName) (My : zx_M) (n : Nat) : Prop :=
  zx_cb own index y My n ∧ .static y ∈ zx_ws
theorem zx_good1 {y : MethodName} {My : zx_M} (hc : Cond.code y My.2.1 My.2.2.1 My.2.2.2.1 ∈ zx_ws) : GoodIn zx_ws (.code y My.2.1 My.2.2.1 My.2.2.2.1 :: zx_ws) := by
  intro w hw
  rcases List.mem_cons.mp hw with rfl | hw
  · exact zx_good _ hc
  · exact zx_good _ hw
theorem zx_runV {y : MethodName} {My : zx_M} {As : List Value} {b ci n index : Nat} {ts : List (Option Nat)} {g : JFrame} {rest : List Value} {H : Heap} {locs : List Loc} (h : zx_C M κ ad) (hM : zx_met (zx_l κ) y My (.ref (ad b) :: As) (zx_D κ) (zx_cA κ) ad (zx_A κ) G r G1) (hw : zx_cv M.1 index y My n) (hcl : (vwCl[ci]?).map (fun q => q.1) = some y.cls)
    (hs : zx_SH[b]? = some (.inr (ci, ts))) (hP : va_P (zx_D κ) vwCl (zx_wld (zx_cA κ) ad zx_SH G) H) (hS : va_S (zx_A κ) (zx_s κ).heap H locs) (hR : My.2.2.2.2.1 + 1 ≤ M.2.2.2.2.1 ∧ 19 + My.2.2.1 + My.2.2.2.2.2 ≤ M.2.2.2.2.2)
    (hg : g.method = zx_m κ) (hn : As.length = n) (hsize : g.locals.size = M.2.2.1) (hstack : g.stack = As.reverse ++ .ref (ad b) :: rest) (hW : 2 * g.monitorRoom + (rest.map fun v => v.category).sum ≤ 8) (hdg : decode M.2.1 g.pc = .ok (.invokevirtual index, 3)) :
    va_Run (zx_p κ) (zx_l κ) (zx_e κ) (zx_R κ) (zx_s κ) (zx_m κ) (zx_a κ) (zx_b κ) (zx_h κ) (zx_c κ) H locs (zx_kc κ) (zx_ks κ) 0 0 g rest (zx_post My (zx_D κ) (zx_cA κ) ad (zx_A κ) r G1 (Value.ref (ad b) :: As).toArray) (zx_A κ) := by
  obtain ⟨⟨hc, hi, hd, hlk⟩, hin, hse⟩ := hw
  have hr : (zx_rm My.2.2.2.2.1 My.2.2.2.2.2).frames + 1 ≤ (zx_R κ).frames ∧ 8 + (My.2.2.1 + 11) + (zx_rm My.2.2.2.2.1 My.2.2.2.2.2).locals ≤ (zx_R κ).locals := by
    rw [h.R]; dsimp only [zx_rm]; omega
  have hrecv : ∃ cellB : Cell, H[ad b]? = some cellB ∧ cellB.vm.isStatics = false ∧ (zx_s κ).vm.findClass y.cls = some cellB.cls := by
    cases hq : vwCl[ci]? with
    | none => rw [hq] at hcl; cases hcl
    | some q =>
      rw [hq] at hcl
      have e : q.1 = y.cls := Option.some.inj hcl
      rw [← e]
      exact va_recv h.K hP hq (zx_wld_at hs)
  have hpre : PreV (zx_s κ) H y.cls (ad b) (va_Pc (.ref (ad b) :: As) (zx_P (zx_D κ) (zx_cA κ) ad (zx_A κ) G)) As := ⟨zx_blind, hrecv, fun U hU hW => ⟨rfl, zx_pre h hP hS U hU hW⟩⟩
  rcases hlk with hlk | ⟨host, hlk⟩
  · exact va_runV (nL := M.2.2.1) (n := n) ⟨h.x, h.b, h.ml, h.o, h.t⟩ hM ⟨callB_of n h.t (zx_good1 hc) rfl rfl rfl (h.t _ hi) (h.t _ hlk) hd hr, h.t _ hin, h.t _ hse⟩ hpre hg hn hsize hstack hW hdg ⟨by rw [h.R]; exact Nat.le_refl _, by rw [h.R]; exact Nat.le_refl _⟩
  · exact va_runVN (nL := M.2.2.1) (n := n) ⟨h.x, h.b, h.ml, h.o, h.t⟩ hM ⟨va_cnB n h.t (zx_good1 hc) rfl rfl rfl (h.N _ hlk) (h.t _ hi) hd hr, h.t _ hin, h.t _ hse⟩ hpre hg hn hsize hstack hW hdg ⟨by rw [h.R]; exact Nat.le_refl _, by rw [h.R]; exact Nat.le_refl _⟩
theorem zx_runS {y : MethodName} {My : zx_M} {As : List Value} {n index : Nat} {g : JFrame} {rest : List Value} {H : Heap} {locs : List Loc} (h : zx_C M κ ad) (hM : zx_met (zx_l κ) y My As (zx_D κ) (zx_cA κ) ad (zx_A κ) G r G1) (hw : zx_cs M.1 index y My n)
    (hP : va_P (zx_D κ) vwCl (zx_wld (zx_cA κ) ad zx_SH G) H) (hS : va_S (zx_A κ) (zx_s κ).heap H locs) (hR : My.2.2.2.2.1 + 1 ≤ M.2.2.2.2.1 ∧ 19 + My.2.2.1 + My.2.2.2.2.2 ≤ M.2.2.2.2.2)
    (hg : g.method = zx_m κ) (hn : As.length = n) (hsize : g.locals.size = M.2.2.1) (hstack : g.stack = As.reverse ++ rest) (hW : 2 * g.monitorRoom + (rest.map fun v => v.category).sum ≤ 8) (hdg : decode M.2.1 g.pc = .ok (.invokestatic index, 3)) :
    va_Run (zx_p κ) (zx_l κ) (zx_e κ) (zx_R κ) (zx_s κ) (zx_m κ) (zx_a κ) (zx_b κ) (zx_h κ) (zx_c κ) H locs (zx_kc κ) (zx_ks κ) 0 0 g rest (zx_post My (zx_D κ) (zx_cA κ) ad (zx_A κ) r G1 As.toArray) (zx_A κ) := by
  obtain ⟨⟨hc, hi, hd, hlk⟩, hst⟩ := hw
  have hr : (zx_rm My.2.2.2.2.1 My.2.2.2.2.2).frames + 1 ≤ (zx_R κ).frames ∧ 8 + (My.2.2.1 + 11) + (zx_rm My.2.2.2.2.1 My.2.2.2.2.2).locals ≤ (zx_R κ).locals := by
    rw [h.R]; dsimp only [zx_rm]; omega
  have hpre : PreS (zx_s κ) H (va_Pc As (zx_P (zx_D κ) (zx_cA κ) ad (zx_A κ) G)) As := ⟨zx_blind, fun U hU hW => ⟨rfl, zx_pre h hP hS U hU hW⟩⟩
  rcases hlk with hlk | ⟨host, hlk⟩
  · exact va_runS (nL := M.2.2.1) (n := n) ⟨h.x, h.b, h.ml, h.o, h.t⟩ hM ⟨callB_of n h.t (zx_good1 hc) rfl rfl rfl (h.t _ hi) (h.t _ hlk) hd hr, h.t _ hst⟩ hpre hg hn hsize hstack hW hdg ⟨by rw [h.R]; exact Nat.le_refl _, by rw [h.R]; exact Nat.le_refl _⟩
  · exact va_runSN (nL := M.2.2.1) (n := n) ⟨h.x, h.b, h.ml, h.o, h.t⟩ hM ⟨va_cnB n h.t (zx_good1 hc) rfl rfl rfl (h.N _ hlk) (h.t _ hi) hd hr, h.t _ hst, trivial⟩ hpre hg hn hsize hstack hW hdg ⟨by rw [h.R]; exact Nat.le_refl _, by rw [h.R]; exact Nat.le_refl _⟩
theorem zr_callVI {y : MethodName} {My : zx_M} {As st0 : List Value} {b ci n index : Nat} {ts : List (Option Nat)} {ty : FieldType} (h : zx_C M κ ad) (hM : zx_met (zx_l κ) y My (.ref (ad b) :: As) (zx_D κ) (zx_cA κ) ad (zx_A κ) G r G1) (hw : zx_cv M.1 index y My n) (hd : decode M.2.1 pc = .ok (.invokevirtual index, 3)) (hq : pc + 3 = q) (hr : My.2.2.2.1 = some ty) (hst : st0 = As.reverse ++ .ref (ad b) :: st) (hs : zx_SH[b]? = some (.inr (ci, ts)))
    (hx : (vwCl[ci]?).map (fun q => q.1) = some y.cls ∧ As.length = n ∧ My.2.2.2.2.1 + 1 ≤ M.2.2.2.2.1 ∧ 19 + My.2.2.1 + My.2.2.2.2.2 ≤ M.2.2.2.2.2) (hW : (st.map fun v => v.category).sum ≤ 8) (k : zx_Z κ ad q lv (.int r :: st) G1) : zx_Z κ ad pc lv st0 G := by
  intro H locs ls hl hP hS
  have hrun := zx_runV (g := F0 (zx_m κ) pc ls st0) (rest := st) h hM hw hx.1 hs hP hS hx.2.2 rfl hx.2.1 (by rw [← h.n]; exact hl.1) hst (lv_room hW) hd
  rw [show zx_post My (zx_D κ) (zx_cA κ) ad (zx_A κ) r G1 = va_Qi (fun (x : Int32) (_ : Unit) => x = r) (fun _ t => va_P (zx_D κ) vwCl (zx_wld (zx_cA κ) ad zx_SH G1) t.heap) (zx_A κ) by simp only [zx_post, hr]] at hrun
  refine va_calli hrun hS (fun q _ h => h) (fun q h => h) (fun r1 u t H1 locs1 ht hvm hp hB hz hk hS1 => ?_)
  subst hp
  rw [ht] at hB
  rw [hq]
  exact k H1 locs1 ls hl hB hS1
theorem zr_callVV {y : MethodName} {My : zx_M} {As st0 : List Value} {b ci n index : Nat} {ts : List (Option Nat)} (h : zx_C M κ ad) (hM : zx_met (zx_l κ) y My (.ref (ad b) :: As) (zx_D κ) (zx_cA κ) ad (zx_A κ) G r G1) (hw : zx_cv M.1 index y My n) (hd : decode M.2.1 pc = .ok (.invokevirtual index, 3)) (hq : pc + 3 = q) (hr : My.2.2.2.1 = none) (hst : st0 = As.reverse ++ .ref (ad b) :: st) (hs : zx_SH[b]? = some (.inr (ci, ts)))
    (hx : (vwCl[ci]?).map (fun q => q.1) = some y.cls ∧ As.length = n ∧ My.2.2.2.2.1 + 1 ≤ M.2.2.2.2.1 ∧ 19 + My.2.2.1 + My.2.2.2.2.2 ≤ M.2.2.2.2.2) (hW : (st.map fun v => v.category).sum ≤ 8) (k : zx_Z κ ad q lv st G1) : zx_Z κ ad pc lv st0 G := by
  intro H locs ls hl hP hS
  have hrun := zx_runV (g := F0 (zx_m κ) pc ls st0) (rest := st) h hM hw hx.1 hs hP hS hx.2.2 rfl hx.2.1 (by rw [← h.n]; exact hl.1) hst (lv_room hW) hd
  rw [show zx_post My (zx_D κ) (zx_cA κ) ad (zx_A κ) r G1 = va_Qv (fun _ : Unit => True) (fun _ t => va_P (zx_D κ) vwCl (zx_wld (zx_cA κ) ad zx_SH G1) t.heap) (zx_A κ) by simp only [zx_post, hr]] at hrun
  refine va_callv hrun hS (fun q _ h => h) (fun q h => h) (fun u t H1 locs1 ht hvm hp hB hz hk hS1 => ?_)
  rw [ht] at hB
  rw [hq]
  exact k H1 locs1 ls hl hB hS1
theorem zr_callSI {y : MethodName} {My : zx_M} {As st0 : List Value} {n index : Nat} {ty : FieldType} (h : zx_C M κ ad) (hM : zx_met (zx_l κ) y My As (zx_D κ) (zx_cA κ) ad (zx_A κ) G r G1) (hw : zx_cs M.1 index y My n) (hd : decode M.2.1 pc = .ok (.invokestatic index, 3)) (hq : pc + 3 = q) (hr : My.2.2.2.1 = some ty) (hst : st0 = As.reverse ++ st)
    (hx : As.length = n ∧ My.2.2.2.2.1 + 1 ≤ M.2.2.2.2.1 ∧ 19 + My.2.2.1 + My.2.2.2.2.2 ≤ M.2.2.2.2.2) (hW : (st.map fun v => v.category).sum ≤ 8) (k : zx_Z κ ad q lv (.int r :: st) G1) : zx_Z κ ad pc lv st0 G := by
  intro H locs ls hl hP hS
  have hrun := zx_runS (g := F0 (zx_m κ) pc ls st0) (rest := st) h hM hw hP hS hx.2 rfl hx.1 (by rw [← h.n]; exact hl.1) hst (lv_room hW) hd
  rw [show zx_post My (zx_D κ) (zx_cA κ) ad (zx_A κ) r G1 = va_Qi (fun (x : Int32) (_ : Unit) => x = r) (fun _ t => va_P (zx_D κ) vwCl (zx_wld (zx_cA κ) ad zx_SH G1) t.heap) (zx_A κ) by simp only [zx_post, hr]] at hrun
  refine va_calli hrun hS (fun q _ h => h) (fun q h => h) (fun r1 u t H1 locs1 ht hvm hp hB hz hk hS1 => ?_)
  subst hp
  rw [ht] at hB
  rw [hq]
  exact k H1 locs1 ls hl hB hS1
theorem zr_callSV {y : MethodName} {My : zx_M} {As st0 : List Value} {n index : Nat} (h : zx_C M κ ad) (hM : zx_met (zx_l κ) y My As (zx_D κ) (zx_cA κ) ad (zx_A κ) G r G1) (hw : zx_cs M.1 index y My n) (hd : decode M.2.1 pc = .ok (.invokestatic index, 3)) (hq : pc + 3 = q) (hr : My.2.2.2.1 = none) (hst : st0 = As.reverse ++ st)
    (hx : As.length = n ∧ My.2.2.2.2.1 + 1 ≤ M.2.2.2.2.1 ∧ 19 + My.2.2.1 + My.2.2.2.2.2 ≤ M.2.2.2.2.2) (hW : (st.map fun v => v.category).sum ≤ 8) (k : zx_Z κ ad q lv st G1) : zx_Z κ ad pc lv st0 G := by
  intro H locs ls hl hP hS
  have hrun := zx_runS (g := F0 (zx_m κ) pc ls st0) (rest := st) h hM hw hP hS hx.2 rfl hx.1 (by rw [← h.n]; exact hl.1) hst (lv_room hW) hd
  rw [show zx_post My (zx_D κ) (zx_cA κ) ad (zx_A κ) r G1 = va_Qv (fun _ : Unit => True) (fun _ t => va_P (zx_D κ) vwCl (zx_wld (zx_cA κ) ad zx_SH G1) t.heap) (zx_A κ) by simp only [zx_post, hr]] at hrun
  refine va_callv hrun hS (fun q _ h => h) (fun q h => h) (fun u t H1 locs1 ht hvm hp hB hz hk hS1 => ?_)
  rw [ht] at hB
  rw [hq]
  exact k H1 locs1 ls hl hB hS1
/-- Math -/
theorem zr_mmax {x y : Int32} {index : Nat} (h : zx_C M κ ad) (hd : decode M.2.1 pc = .ok (.invokestatic index, 3)) (hq : pc + 3 = q) (hw : .methodLink M.1 index Lib.Math.max.name ∈ zx_ws ∧ .static Lib.Math.max.name ∈ zx_ws ∧ .initialized "java/lang/Math" ∈ zx_ws ∧ .code Lib.Math.max.name Lib.Math.max.code 2 (some .int) ∈ zx_ws)
    (hR : 1 ≤ M.2.2.2.2.1) (hst : (st.map fun v => v.category).sum + 13 ≤ M.2.2.2.2.2) (k : zx_Z κ ad q lv (.int (zx_mmax x y) :: st) G) : zx_Z κ ad pc lv (.int y :: .int x :: st) G :=
  fun H locs ls hl hP hS => va_mmax h.x h.b (by rw [h.ml, ← h.n]; exact hl.1.symm) h.o (h.t _ hw.1) (h.t _ hw.2.1) (h.t _ hw.2.2.1) (h.t _ hw.2.2.2) (by rw [h.R]; exact hR) (by rw [h.R]; exact hst) (by rw [h.R]; exact Nat.le_refl _) (by rw [h.R]; exact Nat.le_refl _) hd (by rw [hq]; exact k H locs ls hl hP hS)
theorem zr_mmin {x y : Int32} {index : Nat} (h : zx_C M κ ad) (hd : decode M.2.1 pc = .ok (.invokestatic index, 3)) (hq : pc + 3 = q) (hw : .methodLink M.1 index Lib.Math.min.name ∈ zx_ws ∧ .static Lib.Math.min.name ∈ zx_ws ∧ .initialized "java/lang/Math" ∈ zx_ws ∧ .code Lib.Math.min.name Lib.Math.min.code 2 (some .int) ∈ zx_ws)
    (hR : 1 ≤ M.2.2.2.2.1) (hst : (st.map fun v => v.category).sum + 13 ≤ M.2.2.2.2.2) (k : zx_Z κ ad q lv (.int (zx_mmin x y) :: st) G) : zx_Z κ ad pc lv (.int y :: .int x :: st) G :=
  fun H locs ls hl hP hS => va_mmin h.x h.b (by rw [h.ml, ← h.n]; exact hl.1.symm) h.o (h.t _ hw.1) (h.t _ hw.2.1) (h.t _ hw.2.2.1) (h.t _ hw.2.2.2) (by rw [h.R]; exact hR) (by rw [h.R]; exact hst) (by rw [h.R]; exact Nat.le_refl _) (by rw [h.R]; exact Nat.le_refl _) hd (by rw [hq]; exact k H locs ls hl hP hS)
theorem zr_mabs {x : Int32} {index : Nat} (h : zx_C M κ ad) (hd : decode M.2.1 pc = .ok (.invokestatic index, 3)) (hq : pc + 3 = q) (hw : .methodLink M.1 index Lib.Math.abs.name ∈ zx_ws ∧ .static Lib.Math.abs.name ∈ zx_ws ∧ .initialized "java/lang/Math" ∈ zx_ws ∧ .code Lib.Math.abs.name Lib.Math.abs.code 1 (some .int) ∈ zx_ws)
    (hR : 1 ≤ M.2.2.2.2.1) (hst : (st.map fun v => v.category).sum + 13 ≤ M.2.2.2.2.2) (k : zx_Z κ ad q lv (.int (zx_mabs x) :: st) G) : zx_Z κ ad pc lv (.int x :: st) G :=
  fun H locs ls hl hP hS => va_mabs h.x h.b (by rw [h.ml, ← h.n]; exact hl.1.symm) h.o (h.t _ hw.1) (h.t _ hw.2.1) (h.t _ hw.2.2.1) (h.t _ hw.2.2.2) (by rw [h.R]; exact hR) (by rw [h.R]; exact hst) (by rw [h.R]; exact Nat.le_refl _) (by rw [h.R]; exact Nat.le_refl _) hd (by rw [hq]; exact k H locs ls hl hP hS)
end ZE
