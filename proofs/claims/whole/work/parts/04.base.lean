/-! The fixed world: after the constructors the cells of both objects stand; a state is a function zx_G: cell, place -> int. Rows of the kit, turned to judgements over that function. -/
abbrev zx_G : Type := Nat → Nat → Int32
def zx_upA (G : zx_G) (p : Nat) (f : Nat → Int32) : zx_G := fun q => if q = p then f else G q
def zx_up (G : zx_G) (p k : Nat) (x : Int32) : zx_G := zx_upA G p (upd (G p) k x)
def zx_fv (ad : Nat → Nat) (g : Nat → Int32) (k : Nat) (t : Option Nat) : Value := match t with
  | none => .int (g k)
  | some q => .ref (ad q)
def zx_ce (cA : ClassId) (ad : Nat → Nat) (g : Nat → Int32) (e : zx_S) : va_E := match e with
  | .inl n => .inl (cA, n, .inl g)
  | .inr o => .inr (o.1, o.2.mapIdx (zx_fv ad g))
def zx_wld (cA : ClassId) (ad : Nat → Nat) (sh : List zx_S) (G : zx_G) : va_W := sh.mapIdx (fun p e => (ad p, zx_ce cA ad (G p) e))
theorem zx_wld_at {cA : ClassId} {ad : Nat → Nat} {sh : List zx_S} {G : zx_G} {p : Nat} {e : zx_S} (h : sh[p]? = some e) : (zx_wld cA ad sh G)[p]? = some (ad p, zx_ce cA ad (G p) e) := by
  simp [zx_wld, List.getElem?_mapIdx, h]
theorem zx_wld_set {cA : ClassId} {ad : Nat → Nat} {sh : List zx_S} {G : zx_G} {p : Nat} {e : zx_S} (h : sh[p]? = some e) (f : Nat → Int32) : (zx_wld cA ad sh G).set p (ad p, zx_ce cA ad f e) = zx_wld cA ad sh (zx_upA G p f) := by
  apply List.ext_getElem?
  intro i
  have hp : p < (zx_wld cA ad sh G).length := by
    have h1 := (List.getElem?_eq_some_iff.mp h).1
    simpa [zx_wld] using h1
  rw [List.getElem?_set]
  by_cases hi : p = i
  · subst hi
    rw [if_pos rfl, if_pos hp, zx_wld_at h]
    simp [zx_upA]
  · rw [if_neg hi]
    simp only [zx_wld, List.getElem?_mapIdx, zx_upA]
    rw [if_neg (fun q => hi q.symm)]
theorem zx_fv_set {ad : Nat → Nat} {g : Nat → Int32} {ts : List (Option Nat)} {k : Nat} (h : ts[k]? = some none) (x : Int32) : (ts.mapIdx (zx_fv ad g)).set k (.int x) = ts.mapIdx (zx_fv ad (upd g k x)) := by
  apply List.ext_getElem?
  intro i
  have hk : k < (ts.mapIdx (zx_fv ad g)).length := by
    have h1 := (List.getElem?_eq_some_iff.mp h).1
    simpa using h1
  rw [List.getElem?_set]
  by_cases hi : k = i
  · subst hi
    rw [if_pos rfl, if_pos hk, List.getElem?_mapIdx, h]
    simp [zx_fv, upd]
  · rw [if_neg hi]
    simp only [List.getElem?_mapIdx]
    cases ts[i]? with
    | none => rfl
    | some t =>
      cases t with
      | none => simp [zx_fv, upd, Ne.symm hi]
      | some q => rfl
theorem zx_wld_D {cA : ClassId} {ad : Nat → Nat} {sh : List zx_S} {A : Nat → Prop} {G : zx_G} (G1 : zx_G) (h : va_D A (zx_wld cA ad sh G)) : va_D A (zx_wld cA ad sh G1) := by
  have key : ∀ (G2 G3 : zx_G) (k : Nat) (q : Nat × va_E), (zx_wld cA ad sh G2)[k]? = some q → ∃ q1 : Nat × va_E, (zx_wld cA ad sh G3)[k]? = some q1 ∧ q1.1 = q.1 := by
    intro G2 G3 k q hq
    simp only [zx_wld, List.getElem?_mapIdx] at hq ⊢
    cases hs : sh[k]? with
    | none => rw [hs] at hq; cases hq
    | some e =>
      rw [hs] at hq
      cases hq
      exact ⟨_, rfl, rfl⟩
  refine ⟨fun i j p q hp hq he => ?_, fun k q hq => ?_⟩
  · obtain ⟨p1, h1, e1⟩ := key G1 G i p hp
    obtain ⟨q1, h2, e2⟩ := key G1 G j q hq
    exact h.1 i j p1 q1 h1 h2 (by rw [e1, e2]; exact he)
  · obtain ⟨q1, h2, e2⟩ := key G1 G k q hq
    rw [← e2]
    exact h.2 k q1 h2
/-- pure words of the decompiled functions -/
def zx_in (i : Int32) (n : Nat) : Bool := decide (¬ (i < 0 ∨ n ≤ i.toNatClampNeg))
theorem zx_in_vp {i : Int32} {n : Nat} (h : zx_in i n = true) : vp_in i n := (of_decide_eq_true h : ¬ (i < 0 ∨ n ≤ i.toNatClampNeg))
def zx_gd {α : Type} (c : Bool) (x : Option α) : Option α := if c = true then x else none
theorem zx_gd_some {α : Type} {c : Bool} {x : Option α} {y : α} (h : zx_gd c x = some y) : c = true ∧ x = some y := by
  unfold zx_gd at h
  by_cases hc : c = true
  · rw [if_pos hc] at h; exact ⟨hc, h⟩
  · rw [if_neg hc] at h; cases h
def zx_bd {β : Type} (x : Option (Int32 × zx_G)) (k : Int32 → zx_G → Option β) : Option β := match x with
  | none => none
  | some a => k a.1 a.2
theorem zx_bd_some {β : Type} {x : Option (Int32 × zx_G)} {k : Int32 → zx_G → Option β} {y : β} (h : zx_bd x k = some y) : ∃ (r : Int32) (G : zx_G), x = some (r, G) ∧ k r G = some y := by
  cases x with
  | none => cases h
  | some a => exact ⟨a.1, a.2, rfl, h⟩
def zx_lt {α β : Type} (v : α) (k : α → Option β) : Option β := k v
theorem zx_lt_some {α β : Type} {v : α} {k : α → Option β} {y : β} (h : zx_lt v k = some y) : ∃ a, a = v ∧ k a = some y := ⟨v, rfl, h⟩
def zx_if {α : Type} (c : Prop) [Decidable c] (x y : Option α) : Option α := if c then x else y
theorem zx_if_some {α : Type} {c : Prop} [Decidable c] {x y : Option α} {z : α} (h : zx_if c x y = some z) : (c ∧ x = some z) ∨ (¬ c ∧ y = some z) := by
  unfold zx_if at h
  by_cases hc : c
  · rw [if_pos hc] at h; exact Or.inl ⟨hc, h⟩
  · rw [if_neg hc] at h; exact Or.inr ⟨hc, h⟩
def zx_nz (y : Int32) : Bool := decide (¬ y = 0)
theorem zx_nz_ne {y : Int32} (h : zx_nz y = true) : ¬ y = 0 := of_decide_eq_true h
def zx_div (x y : Int32) : Int32 := x / y
def zx_rem (x y : Int32) : Int32 := x - x / y * y
def zx_01 (x : Int32) : Bool := decide (x = 0 ∨ x = 1)
theorem zx_01_n {x : Int32} (h : zx_01 x = true) : narrow .boolean (.int x) = .int x := by
  rcases of_decide_eq_true h with rfl | rfl <;> rfl
theorem zx_01_f {x : Int32} (h : zx_01 x = true) : fits .boolean (.int x) = true := by
  rcases of_decide_eq_true h with rfl | rfl <;> rfl
def zx_mmax (x y : Int32) : Int32 := if x < y then y else x
def zx_mmin (x y : Int32) : Int32 := if y < x then y else x
def zx_mabs (x : Int32) : Int32 := if 0 ≤ x then x else 0 - x
def zx_cpok (sp dp n : Int32) (n0 n1 : Nat) : Bool := decide (¬ sp < 0 ∧ ¬ dp < 0 ∧ ¬ n < 0 ∧ sp.toNatClampNeg + n.toNatClampNeg ≤ n0 ∧ dp.toNatClampNeg + n.toNatClampNeg ≤ n1)
def zx_copy (G : zx_G) (src dst : Nat) (sp dp n : Int32) : zx_G := zx_upA G dst (va_cpy (G src) (G dst) sp.toNatClampNeg dp.toNatClampNeg n.toNatClampNeg)
