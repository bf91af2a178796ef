/-! THE CLAIM OUT OF ONE WALK OF THE LAW'S BODY. Your part is whole_start (and what it stands on); all else here is the same for every law, but numbers. -/
def R_law : String := "StillPictureLaw"
def lw_P (b : Addr) (xs : List Int32) (args : Array Value) (s : State) : Prop := args = #[.ref b] ∧ s.IntsAt b xs ∧ xs.length ≤ 2048 ∧ (Jvm.Cond.and given_1 narrow_1).before args s = true
def lw_Q (_ : Array Value) (s : State) (o : Outcome) (t : State) : Prop := o = .returned (some (.int 1)) ∧ Framed s o t [] 53 4143
def lw_Z (below : List Frame) (a : Array Value) (s : State) : State → Prop := fun t => ∃ o, t.status = .running ∧ Ended t below o ∧ lw_Q a s o t
/-- the law's own end, with 1 on the stack, nothing written that was there before, its room as the claim has it -/
theorem lw_ret {p : Program} {l : Launch} {e : Env} {s : State} {m : MethodId} {below : List Frame} {meth : Method} {c : Code} {b : Nat} (hx : p.tables.exec = Jvm.exec) (hb : c.code = code) (hr : meth.sig.returnType = ret) (hlocks : meth.locks = false) {pc : Nat} {H : Heap} {ls : Array Slot} (hdg : decode code pc = .ok (.ireturn, 1)) : W p l e room_1 s m #[Value.ref b] below meth c H [] 53 4143 (lw_Z below #[Value.ref b] s) (F0 m pc ls [.int 1]) := by
  intro T hT X
  obtain ⟨fs, hret, hrun, hended, hW, hframe⟩ := X.leave (v := some (.int 1)) (hlocks := hlocks) (fun h => by rw [hr] at h; cases h)
  have hmeth' : T.vm.method? m = some meth := X.method'
  refine ⟨T.setFrames fs, ?_, .returned (some (.int 1)), hrun, hended, rfl, ⟨_, rfl⟩, hW, hframe⟩
  jvm_step X.here [X.here.top, hx, hb, hdg, hmeth', hr, ret, narrow_b1]
  (try refine ⟨rfl, ?_⟩); (try refine ⟨rfl, ?_⟩)
  first | (intro acts; rw [hret _ acts rfl rfl rfl]) | rw [hret _ _ rfl rfl rfl]
  exact Steps.refl _
/-- what holds at the law's entry: the machine, the code, the tables' words (any of lw_tbl by 'hts w (by decide +kernel)'), the script of L ints xs at the cell b, what the Statement gives of the start (any of its parts by flat_of_before) -/
def lw_At (p : Program) (s : State) (m : MethodId) (meth : Method) (c : Code) (b L : Nat) (xs : Nat → Int32) : Prop :=
  p.tables.exec = Jvm.exec ∧ c.code = code ∧ meth.sig.returnType = ret ∧ c.maxLocals = 4 ∧ s.vm.findClass R_law = some m.cls ∧ (∀ w ∈ lw_tbl, w.before #[Value.ref b] s = true) ∧ va_X b L xs s s.heap ∧ b < s.heap.size ∧ meth.locks = false ∧ (Jvm.Cond.and given_1 narrow_1).before #[Value.ref b] s = true
/-- the script: a cell of before, 103 among the places -/
def zx_X (κ : zx_K) (ad : Nat → Nat) (L : Nat) (xs : Nat → Int32) : Prop := va_X (ad 103) L xs (zx_s κ) (zx_s κ).heap ∧ ad 103 < (zx_s κ).heap.size ∧ ¬ zx_A κ (ad 103)
/-- the law's end: 1, its own cells alone written, the claim's room -/
def zx_EL (_M : zx_M) (κ : zx_K) (ad : Nat → Nat) (r : Int32) (_G1 : zx_G) : Prop := zx_Q κ = lw_Z (zx_b κ) (zx_a κ) (zx_s κ) ∧ r = 1 ∧ zx_kc κ = 53 ∧ zx_ks κ = 4143 ∧ (∀ q, zx_A κ q → (zx_s κ).heap.size ≤ q) ∧ zx_R κ = room_1 ∧ zx_a κ = #[.ref (ad 103)]
section ZL
variable {κ : zx_K} {ad : Nat → Nat} {pc q : Nat} {lv : List (Nat × Value)} {st : List Value} {G : zx_G} {L : Nat} {xs : Nat → Int32}
theorem zr_sld {M : zx_M} {i : Int32} (h : zx_C M κ ad) (hX : zx_X κ ad L xs) (hd : decode M.2.1 pc = .ok (.iaload, 1)) (hq : pc + 1 = q) (hi : zx_in i L = true) (k : zx_Z κ ad q lv (.int (xs i.toNatClampNeg) :: st) G) : zx_Z κ ad pc lv (.int i :: .ref (ad 103) :: st) G :=
  fun H locs ls hl hP hS => va_sld h.x h.b hX.1 hX.2.1 hX.2.2 hS (zx_in_vp hi) hd (by rw [hq]; exact k H locs ls hl hP hS)
theorem zr_slen {M : zx_M} (h : zx_C M κ ad) (hX : zx_X κ ad L xs) (hd : decode M.2.1 pc = .ok (.arraylength, 1)) (hq : pc + 1 = q) (k : zx_Z κ ad q lv (.int (Int32.ofNat L) :: st) G) : zx_Z κ ad pc lv (.ref (ad 103) :: st) G :=
  fun H locs ls hl hP hS => va_slen h.x h.b hX.1 hX.2.1 hX.2.2 hS hd (by rw [hq]; exact k H locs ls hl hP hS)
theorem zr_lret {x r : Int32} {G1 : zx_G} (h : zx_C M_L_law κ ad) (hE : zx_EL M_L_law κ ad r G1) (hd : decode code pc = .ok (.ireturn, 1)) (hf : some (x, G) = some (r, G1)) : zx_Z κ ad pc lv [.int x] G := by
  cases hf
  obtain ⟨⟨p, l, e, R, s, m, a, b, mth, c⟩, D, cA, A, Q, n, kc, ks⟩ := κ
  obtain ⟨hQ, hr, hkc, hks, hA, hR, ha⟩ := hE
  have hx := h.x
  have hb := h.b
  have hrt := h.r
  have hlk := h.k
  dsimp only [zx_Q, zx_b, zx_a, zx_s, zx_kc, zx_ks, zx_A, zx_R, zx_p, zx_c, zx_h] at hQ hkc hks hA hR ha hx hb hrt hlk
  subst ha
  subst hQ hr hkc hks hR
  intro H locs ls hl hP hS
  exact va_forget (fun q hq => hA _ (hS.2.2 q hq)) (lw_ret hx hb hrt hlk hd)
end ZL
