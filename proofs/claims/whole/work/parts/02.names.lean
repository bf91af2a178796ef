/-! names: fields, shapes, words; written by a program -/
def zt_S : u_T := fun k => match k with
  | 0 => ("StillPicture", "file", "[I", true)
  | 1 => ("StillPicture", "boxes", "LStillPicture$Boxes;", true)
  | 2 => ("StillPicture", "item", "LStillPicture$Item;", true)
  | 3 => ("StillPicture", "header", "LStillPicture$Header;", true)
  | 4 => ("StillPicture", "coder", "LStillPicture$Coder;", true)
  | 5 => ("StillPicture", "picture", "LStillPicture$Picture;", true)
  | 6 => ("StillPicture", "tile", "LStillPicture$Tile;", true)
  | 7 => ("StillPicture", "filter", "LStillPicture$Filter;", true)
  | 8 => ("StillPicture", "length", "I", false)
  | _ => ("StillPicture", "decoded", "Z", false)
def zy_S : Nat → FieldType := fun k => match k with
  | 0 => .array .int
  | 1 => .object "StillPicture$Boxes"
  | 2 => .object "StillPicture$Item"
  | 3 => .object "StillPicture$Header"
  | 4 => .object "StillPicture$Coder"
  | 5 => .object "StillPicture$Picture"
  | 6 => .object "StillPicture$Tile"
  | 7 => .object "StillPicture$Filter"
  | 8 => .int
  | _ => .boolean
theorem zn_S : ∀ a, a < 10 → ∀ b, b < 10 → a ≠ b → (zt_S a).2.1 ≠ (zt_S b).2.1 := by decide +kernel
theorem zy_S_ok : ∀ k, k < 10 → parseFieldDescriptor (zt_S k).2.2.1 = some (zy_S k) := by decide +kernel
def zt_B : u_T := fun k => match k with
  | 0 => ("StillPicture$Boxes", "file", "[I", true)
  | 1 => ("StillPicture$Boxes", "type", "[I", true)
  | 2 => ("StillPicture$Boxes", "from", "[I", true)
  | 3 => ("StillPicture$Boxes", "to", "[I", true)
  | 4 => ("StillPicture$Boxes", "holder", "[I", true)
  | 5 => ("StillPicture$Boxes", "level", "[I", true)
  | _ => ("StillPicture$Boxes", "count", "I", false)
def zy_B : Nat → FieldType := fun k => match k with
  | 0 => .array .int
  | 1 => .array .int
  | 2 => .array .int
  | 3 => .array .int
  | 4 => .array .int
  | 5 => .array .int
  | _ => .int
theorem zn_B : ∀ a, a < 7 → ∀ b, b < 7 → a ≠ b → (zt_B a).2.1 ≠ (zt_B b).2.1 := by decide +kernel
theorem zy_B_ok : ∀ k, k < 7 → parseFieldDescriptor (zt_B k).2.2.1 = some (zy_B k) := by decide +kernel
def zt_I : u_T := fun k => match k with
  | 0 => ("StillPicture$Item", "file", "[I", true)
  | 1 => ("StillPicture$Item", "boxes", "LStillPicture$Boxes;", true)
  | 2 => ("StillPicture$Item", "cursor", "LStillPicture$Cursor;", true)
  | 3 => ("StillPicture$Item", "data", "[I", true)
  | 4 => ("StillPicture$Item", "dataLength", "I", false)
  | 5 => ("StillPicture$Item", "fileLength", "I", false)
  | 6 => ("StillPicture$Item", "name", "I", false)
  | 7 => ("StillPicture$Item", "holder", "I", false)
  | 8 => ("StillPicture$Item", "shapeBox", "I", false)
  | 9 => ("StillPicture$Item", "colourBox", "I", false)
  | _ => ("StillPicture$Item", "extraBox", "I", false)
def zy_I : Nat → FieldType := fun k => match k with
  | 0 => .array .int
  | 1 => .object "StillPicture$Boxes"
  | 2 => .object "StillPicture$Cursor"
  | 3 => .array .int
  | 4 => .int
  | 5 => .int
  | 6 => .int
  | 7 => .int
  | 8 => .int
  | 9 => .int
  | _ => .int
theorem zn_I : ∀ a, a < 11 → ∀ b, b < 11 → a ≠ b → (zt_I a).2.1 ≠ (zt_I b).2.1 := by decide +kernel
theorem zy_I_ok : ∀ k, k < 11 → parseFieldDescriptor (zt_I k).2.2.1 = some (zy_I k) := by decide +kernel
def zt_U : u_T := fun k => match k with
  | 0 => ("StillPicture$Cursor", "bytes", "[I", true)
  | 1 => ("StillPicture$Cursor", "at", "I", false)
  | 2 => ("StillPicture$Cursor", "end", "I", false)
  | _ => ("StillPicture$Cursor", "bit", "I", false)
def zy_U : Nat → FieldType := fun k => match k with
  | 0 => .array .int
  | 1 => .int
  | 2 => .int
  | _ => .int
theorem zn_U : ∀ a, a < 4 → ∀ b, b < 4 → a ≠ b → (zt_U a).2.1 ≠ (zt_U b).2.1 := by decide +kernel
theorem zy_U_ok : ∀ k, k < 4 → parseFieldDescriptor (zt_U k).2.2.1 = some (zy_U k) := by decide +kernel
def zt_H : u_T := fun k => match k with
  | 0 => ("StillPicture$Header", "item", "LStillPicture$Item;", true)
  | 1 => ("StillPicture$Header", "units", "LStillPicture$Cursor;", true)
  | 2 => ("StillPicture$Header", "bits", "LStillPicture$Cursor;", true)
  | 3 => ("StillPicture$Header", "hasSequence", "Z", false)
  | 4 => ("StillPicture$Header", "hasFrame", "Z", false)
  | 5 => ("StillPicture$Header", "isSoft", "Z", false)
  | 6 => ("StillPicture$Header", "planeCount", "I", false)
  | 7 => ("StillPicture$Header", "width", "I", false)
  | 8 => ("StillPicture$Header", "height", "I", false)
  | 9 => ("StillPicture$Header", "depth", "I", false)
  | 10 => ("StillPicture$Header", "q", "I", false)
  | 11 => ("StillPicture$Header", "isStill", "Z", false)
  | 12 => ("StillPicture$Header", "level", "I", false)
  | 13 => ("StillPicture$Header", "strength", "I", false)
  | 14 => ("StillPicture$Header", "tileFrom", "I", false)
  | _ => ("StillPicture$Header", "tileTo", "I", false)
def zy_H : Nat → FieldType := fun k => match k with
  | 0 => .object "StillPicture$Item"
  | 1 => .object "StillPicture$Cursor"
  | 2 => .object "StillPicture$Cursor"
  | 3 => .boolean
  | 4 => .boolean
  | 5 => .boolean
  | 6 => .int
  | 7 => .int
  | 8 => .int
  | 9 => .int
  | 10 => .int
  | 11 => .boolean
  | 12 => .int
  | 13 => .int
  | 14 => .int
  | _ => .int
theorem zn_H : ∀ a, a < 16 → ∀ b, b < 16 → a ≠ b → (zt_H a).2.1 ≠ (zt_H b).2.1 := by decide +kernel
theorem zy_H_ok : ∀ k, k < 16 → parseFieldDescriptor (zt_H k).2.2.1 = some (zy_H k) := by decide +kernel
def zt_C : u_T := fun k => match k with
  | 0 => ("StillPicture$Coder", "bytes", "[I", true)
  | 1 => ("StillPicture$Coder", "numbers", "[I", true)
  | 2 => ("StillPicture$Coder", "uses", "[I", true)
  | 3 => ("StillPicture$Coder", "tileFrom", "I", false)
  | 4 => ("StillPicture$Coder", "tileTo", "I", false)
  | 5 => ("StillPicture$Coder", "isStill", "Z", false)
  | 6 => ("StillPicture$Coder", "range", "I", false)
  | 7 => ("StillPicture$Coder", "value", "I", false)
  | 8 => ("StillPicture$Coder", "bitCount", "I", false)
  | _ => ("StillPicture$Coder", "symbolCount", "I", false)
def zy_C : Nat → FieldType := fun k => match k with
  | 0 => .array .int
  | 1 => .array .int
  | 2 => .array .int
  | 3 => .int
  | 4 => .int
  | 5 => .boolean
  | 6 => .int
  | 7 => .int
  | 8 => .int
  | _ => .int
theorem zn_C : ∀ a, a < 10 → ∀ b, b < 10 → a ≠ b → (zt_C a).2.1 ≠ (zt_C b).2.1 := by decide +kernel
theorem zy_C_ok : ∀ k, k < 10 → parseFieldDescriptor (zt_C k).2.2.1 = some (zy_C k) := by decide +kernel
def zt_P : u_T := fun k => match k with
  | 0 => ("StillPicture$Picture", "samples", "[I", true)
  | 1 => ("StillPicture$Picture", "owners", "[I", true)
  | 2 => ("StillPicture$Picture", "told", "[I", true)
  | 3 => ("StillPicture$Picture", "blockCount", "I", false)
  | _ => ("StillPicture$Picture", "top", "I", false)
def zy_P : Nat → FieldType := fun k => match k with
  | 0 => .array .int
  | 1 => .array .int
  | 2 => .array .int
  | 3 => .int
  | _ => .int
theorem zn_P : ∀ a, a < 5 → ∀ b, b < 5 → a ≠ b → (zt_P a).2.1 ≠ (zt_P b).2.1 := by decide +kernel
theorem zy_P_ok : ∀ k, k < 5 → parseFieldDescriptor (zt_P k).2.2.1 = some (zy_P k) := by decide +kernel
def zt_T : u_T := fun k => match k with
  | 0 => ("StillPicture$Tile", "header", "LStillPicture$Header;", true)
  | 1 => ("StillPicture$Tile", "coder", "LStillPicture$Coder;", true)
  | 2 => ("StillPicture$Tile", "picture", "LStillPicture$Picture;", true)
  | 3 => ("StillPicture$Tile", "differences", "LStillPicture$Differences;", true)
  | 4 => ("StillPicture$Tile", "prediction", "LStillPicture$Prediction;", true)
  | _ => ("StillPicture$Tile", "shares", "[I", true)
def zy_T : Nat → FieldType := fun k => match k with
  | 0 => .object "StillPicture$Header"
  | 1 => .object "StillPicture$Coder"
  | 2 => .object "StillPicture$Picture"
  | 3 => .object "StillPicture$Differences"
  | 4 => .object "StillPicture$Prediction"
  | _ => .array .int
theorem zn_T : ∀ a, a < 6 → ∀ b, b < 6 → a ≠ b → (zt_T a).2.1 ≠ (zt_T b).2.1 := by decide +kernel
theorem zy_T_ok : ∀ k, k < 6 → parseFieldDescriptor (zt_T k).2.2.1 = some (zy_T k) := by decide +kernel
def zt_D : u_T := fun k => match k with
  | 0 => ("StillPicture$Differences", "coder", "LStillPicture$Coder;", true)
  | 1 => ("StillPicture$Differences", "values", "[I", true)
  | _ => ("StillPicture$Differences", "line", "[I", true)
def zy_D : Nat → FieldType := fun k => match k with
  | 0 => .object "StillPicture$Coder"
  | 1 => .array .int
  | _ => .array .int
theorem zn_D : ∀ a, a < 3 → ∀ b, b < 3 → a ≠ b → (zt_D a).2.1 ≠ (zt_D b).2.1 := by decide +kernel
theorem zy_D_ok : ∀ k, k < 3 → parseFieldDescriptor (zt_D k).2.2.1 = some (zy_D k) := by decide +kernel
def zt_E : u_T := fun k => match k with
  | 0 => ("StillPicture$Prediction", "picture", "LStillPicture$Picture;", true)
  | 1 => ("StillPicture$Prediction", "values", "[I", true)
  | 2 => ("StillPicture$Prediction", "above", "[I", true)
  | 3 => ("StillPicture$Prediction", "left", "[I", true)
  | 4 => ("StillPicture$Prediction", "corner", "I", false)
  | _ => ("StillPicture$Prediction", "mean", "I", false)
def zy_E : Nat → FieldType := fun k => match k with
  | 0 => .object "StillPicture$Picture"
  | 1 => .array .int
  | 2 => .array .int
  | 3 => .array .int
  | 4 => .int
  | _ => .int
theorem zn_E : ∀ a, a < 6 → ∀ b, b < 6 → a ≠ b → (zt_E a).2.1 ≠ (zt_E b).2.1 := by decide +kernel
theorem zy_E_ok : ∀ k, k < 6 → parseFieldDescriptor (zt_E k).2.2.1 = some (zy_E k) := by decide +kernel
def zt_F : u_T := fun k => match k with
  | 0 => ("StillPicture$Filter", "header", "LStillPicture$Header;", true)
  | 1 => ("StillPicture$Filter", "picture", "LStillPicture$Picture;", true)
  | _ => ("StillPicture$Filter", "softened", "[I", true)
def zy_F : Nat → FieldType := fun k => match k with
  | 0 => .object "StillPicture$Header"
  | 1 => .object "StillPicture$Picture"
  | _ => .array .int
theorem zn_F : ∀ a, a < 3 → ∀ b, b < 3 → a ≠ b → (zt_F a).2.1 ≠ (zt_F b).2.1 := by decide +kernel
theorem zy_F_ok : ∀ k, k < 3 → parseFieldDescriptor (zt_F k).2.2.1 = some (zy_F k) := by decide +kernel
def zt_M : u_T := fun k => match k with
  | 0 => ("StillPictureModel", "size", "I", false)
  | 1 => ("StillPictureModel", "file", "[I", true)
  | 2 => ("StillPictureModel", "boxes", "I", false)
  | 3 => ("StillPictureModel", "from", "[I", true)
  | 4 => ("StillPictureModel", "to", "[I", true)
  | 5 => ("StillPictureModel", "type", "[I", true)
  | 6 => ("StillPictureModel", "around", "[I", true)
  | 7 => ("StillPictureModel", "depthOf", "[I", true)
  | 8 => ("StillPictureModel", "count", "I", false)
  | 9 => ("StillPictureModel", "data", "[I", true)
  | 10 => ("StillPictureModel", "code", "I", false)
  | 11 => ("StillPictureModel", "at", "I", false)
  | 12 => ("StillPictureModel", "end", "I", false)
  | 13 => ("StillPictureModel", "sizes", "I", false)
  | 14 => ("StillPictureModel", "colours", "I", false)
  | 15 => ("StillPictureModel", "depths", "I", false)
  | 16 => ("StillPictureModel", "layout", "I", false)
  | 17 => ("StillPictureModel", "ten", "I", false)
  | 18 => ("StillPictureModel", "wide", "I", false)
  | 19 => ("StillPictureModel", "high", "I", false)
  | 20 => ("StillPictureModel", "soft", "I", false)
  | 21 => ("StillPictureModel", "q", "I", false)
  | 22 => ("StillPictureModel", "still", "I", false)
  | 23 => ("StillPictureModel", "level", "I", false)
  | 24 => ("StillPictureModel", "strength", "I", false)
  | 25 => ("StillPictureModel", "tile", "I", false)
  | 26 => ("StillPictureModel", "tileEnd", "I", false)
  | 27 => ("StillPictureModel", "range", "I", false)
  | 28 => ("StillPictureModel", "value", "I", false)
  | 29 => ("StillPictureModel", "bits", "I", false)
  | 30 => ("StillPictureModel", "read", "I", false)
  | 31 => ("StillPictureModel", "cut", "[I", true)
  | 32 => ("StillPictureModel", "reads", "[I", true)
  | 33 => ("StillPictureModel", "picture", "Z", false)
  | 34 => ("StillPictureModel", "plane", "[I", true)
  | 35 => ("StillPictureModel", "old", "[I", true)
  | 36 => ("StillPictureModel", "unit", "[I", true)
  | 37 => ("StillPictureModel", "many", "I", false)
  | 38 => ("StillPictureModel", "about", "[I", true)
  | 39 => ("StillPictureModel", "share", "[I", true)
  | 40 => ("StillPictureModel", "d", "[I", true)
  | 41 => ("StillPictureModel", "row", "[I", true)
  | 42 => ("StillPictureModel", "above", "[I", true)
  | 43 => ("StillPictureModel", "left", "[I", true)
  | 44 => ("StillPictureModel", "corner", "I", false)
  | 45 => ("StillPictureModel", "places", "[I", true)
  | _ => ("StillPictureModel", "waves", "[I", true)
def zy_M : Nat → FieldType := fun k => match k with
  | 0 => .int
  | 1 => .array .int
  | 2 => .int
  | 3 => .array .int
  | 4 => .array .int
  | 5 => .array .int
  | 6 => .array .int
  | 7 => .array .int
  | 8 => .int
  | 9 => .array .int
  | 10 => .int
  | 11 => .int
  | 12 => .int
  | 13 => .int
  | 14 => .int
  | 15 => .int
  | 16 => .int
  | 17 => .int
  | 18 => .int
  | 19 => .int
  | 20 => .int
  | 21 => .int
  | 22 => .int
  | 23 => .int
  | 24 => .int
  | 25 => .int
  | 26 => .int
  | 27 => .int
  | 28 => .int
  | 29 => .int
  | 30 => .int
  | 31 => .array .int
  | 32 => .array .int
  | 33 => .boolean
  | 34 => .array .int
  | 35 => .array .int
  | 36 => .array .int
  | 37 => .int
  | 38 => .array .int
  | 39 => .array .int
  | 40 => .array .int
  | 41 => .array .int
  | 42 => .array .int
  | 43 => .array .int
  | 44 => .int
  | 45 => .array .int
  | _ => .array .int
theorem zn_M : ∀ a, a < 47 → ∀ b, b < 47 → a ≠ b → (zt_M a).2.1 ≠ (zt_M b).2.1 := by decide +kernel
theorem zy_M_ok : ∀ k, k < 47 → parseFieldDescriptor (zt_M k).2.2.1 = some (zy_M k) := by decide +kernel
abbrev vwCl : List vw_C := [("StillPicture", zt_S, 10), ("StillPicture$Boxes", zt_B, 7), ("StillPicture$Item", zt_I, 11), ("StillPicture$Cursor", zt_U, 4), ("StillPicture$Header", zt_H, 16), ("StillPicture$Coder", zt_C, 10), ("StillPicture$Picture", zt_P, 5), ("StillPicture$Tile", zt_T, 6), ("StillPicture$Differences", zt_D, 3), ("StillPicture$Prediction", zt_E, 6), ("StillPicture$Filter", zt_F, 3), ("StillPictureModel", zt_M, 47)]
/-- the words that go along with a call -/
def zx_ws : List Cond := lw_tbl.filter goodWord
/-- the words of a nest: they are carried beside the others -/
def zx_nest : Cond → Bool
  | .fieldLinkNest .. => true
  | .methodLinkNest .. => true
  | _ => false
def zx_nw : List Cond := lw_tbl.filter zx_nest
theorem zx_nw_ok : zx_nw.all zx_nest = true := List.all_eq_true.mpr (fun _ h => (List.mem_filter.mp h).2)
theorem zx_good : GoodIn zx_ws zx_ws := fun w h => ⟨h, good_of_word (List.mem_filter.mp h).2⟩
theorem zx_mem {w : Cond} (i : Nat) (h : lw_tbl[i]? = some w) (hg : goodWord w = true) : w ∈ zx_ws := List.mem_filter.mpr ⟨List.mem_of_getElem? h, hg⟩
theorem zx_memS {w : Cond} (i : Nat) (h : lw_tbl[i]? = some w) (hg : goodWord w = true) : w ∈ zx_ws := List.mem_filter.mpr ⟨List.mem_of_getElem? h, hg⟩
theorem zx_memN {w : Cond} (i : Nat) (h : lw_tbl[i]? = some w) (hg : zx_nest w = true) : w ∈ zx_nw := List.mem_filter.mpr ⟨List.mem_of_getElem? h, hg⟩
set_option maxRecDepth 100000 in
theorem uw_S : ∀ w ∈ u_ws "StillPicture" zt_S 10, w ∈ zx_ws := by
  intro w hw
  obtain ⟨k, hk, rfl⟩ := List.mem_map.mp hw
  have hk := List.mem_range.mp hk
  have key : ∀ k, k < 10 → (lw_tbl[([422, 424, 426, 428, 430, 432, 434, 436, 438, 440] : List Nat).getD k 0]? = some (u_lay "StillPicture" zt_S k) ∧ goodWord (u_lay "StillPicture" zt_S k) = true) := by decide +kernel
  exact zx_mem _ (key k hk).1 (key k hk).2
set_option maxRecDepth 100000 in
theorem uw_B : ∀ w ∈ u_ws "StillPicture$Boxes" zt_B 7, w ∈ zx_ws := by
  intro w hw
  obtain ⟨k, hk, rfl⟩ := List.mem_map.mp hw
  have hk := List.mem_range.mp hk
  have key : ∀ k, k < 7 → (lw_tbl[([107, 109, 111, 113, 115, 117, 119] : List Nat).getD k 0]? = some (u_lay "StillPicture$Boxes" zt_B k) ∧ goodWord (u_lay "StillPicture$Boxes" zt_B k) = true) := by decide +kernel
  exact zx_mem _ (key k hk).1 (key k hk).2
set_option maxRecDepth 100000 in
theorem uw_I : ∀ w ∈ u_ws "StillPicture$Item" zt_I 11, w ∈ zx_ws := by
  intro w hw
  obtain ⟨k, hk, rfl⟩ := List.mem_map.mp hw
  have hk := List.mem_range.mp hk
  have key : ∀ k, k < 11 → (lw_tbl[([164, 166, 168, 170, 172, 174, 176, 178, 180, 182, 184] : List Nat).getD k 0]? = some (u_lay "StillPicture$Item" zt_I k) ∧ goodWord (u_lay "StillPicture$Item" zt_I k) = true) := by decide +kernel
  exact zx_mem _ (key k hk).1 (key k hk).2
set_option maxRecDepth 100000 in
theorem uw_U : ∀ w ∈ u_ws "StillPicture$Cursor" zt_U 4, w ∈ zx_ws := by
  intro w hw
  obtain ⟨k, hk, rfl⟩ := List.mem_map.mp hw
  have hk := List.mem_range.mp hk
  have key : ∀ k, k < 4 → (lw_tbl[([141, 143, 145, 147] : List Nat).getD k 0]? = some (u_lay "StillPicture$Cursor" zt_U k) ∧ goodWord (u_lay "StillPicture$Cursor" zt_U k) = true) := by decide +kernel
  exact zx_mem _ (key k hk).1 (key k hk).2
set_option maxRecDepth 100000 in
theorem uw_H : ∀ w ∈ u_ws "StillPicture$Header" zt_H 16, w ∈ zx_ws := by
  intro w hw
  obtain ⟨k, hk, rfl⟩ := List.mem_map.mp hw
  have hk := List.mem_range.mp hk
  have key : ∀ k, k < 16 → (lw_tbl[([229, 231, 233, 235, 237, 239, 241, 243, 245, 247, 249, 251, 253, 255, 257, 259] : List Nat).getD k 0]? = some (u_lay "StillPicture$Header" zt_H k) ∧ goodWord (u_lay "StillPicture$Header" zt_H k) = true) := by decide +kernel
  exact zx_mem _ (key k hk).1 (key k hk).2
set_option maxRecDepth 100000 in
theorem uw_C : ∀ w ∈ u_ws "StillPicture$Coder" zt_C 10, w ∈ zx_ws := by
  intro w hw
  obtain ⟨k, hk, rfl⟩ := List.mem_map.mp hw
  have hk := List.mem_range.mp hk
  have key : ∀ k, k < 10 → (lw_tbl[([280, 282, 284, 286, 288, 290, 292, 294, 296, 298] : List Nat).getD k 0]? = some (u_lay "StillPicture$Coder" zt_C k) ∧ goodWord (u_lay "StillPicture$Coder" zt_C k) = true) := by decide +kernel
  exact zx_mem _ (key k hk).1 (key k hk).2
set_option maxRecDepth 100000 in
theorem uw_P : ∀ w ∈ u_ws "StillPicture$Picture" zt_P 5, w ∈ zx_ws := by
  intro w hw
  obtain ⟨k, hk, rfl⟩ := List.mem_map.mp hw
  have hk := List.mem_range.mp hk
  have key : ∀ k, k < 5 → (lw_tbl[([317, 319, 321, 323, 325] : List Nat).getD k 0]? = some (u_lay "StillPicture$Picture" zt_P k) ∧ goodWord (u_lay "StillPicture$Picture" zt_P k) = true) := by decide +kernel
  exact zx_mem _ (key k hk).1 (key k hk).2
set_option maxRecDepth 100000 in
theorem uw_T : ∀ w ∈ u_ws "StillPicture$Tile" zt_T 6, w ∈ zx_ws := by
  intro w hw
  obtain ⟨k, hk, rfl⟩ := List.mem_map.mp hw
  have hk := List.mem_range.mp hk
  have key : ∀ k, k < 6 → (lw_tbl[([383, 385, 387, 389, 391, 393] : List Nat).getD k 0]? = some (u_lay "StillPicture$Tile" zt_T k) ∧ goodWord (u_lay "StillPicture$Tile" zt_T k) = true) := by decide +kernel
  exact zx_mem _ (key k hk).1 (key k hk).2
set_option maxRecDepth 100000 in
theorem uw_D : ∀ w ∈ u_ws "StillPicture$Differences" zt_D 3, w ∈ zx_ws := by
  intro w hw
  obtain ⟨k, hk, rfl⟩ := List.mem_map.mp hw
  have hk := List.mem_range.mp hk
  have key : ∀ k, k < 3 → (lw_tbl[([344, 346, 348] : List Nat).getD k 0]? = some (u_lay "StillPicture$Differences" zt_D k) ∧ goodWord (u_lay "StillPicture$Differences" zt_D k) = true) := by decide +kernel
  exact zx_mem _ (key k hk).1 (key k hk).2
set_option maxRecDepth 100000 in
theorem uw_E : ∀ w ∈ u_ws "StillPicture$Prediction" zt_E 6, w ∈ zx_ws := by
  intro w hw
  obtain ⟨k, hk, rfl⟩ := List.mem_map.mp hw
  have hk := List.mem_range.mp hk
  have key : ∀ k, k < 6 → (lw_tbl[([364, 366, 368, 370, 372, 374] : List Nat).getD k 0]? = some (u_lay "StillPicture$Prediction" zt_E k) ∧ goodWord (u_lay "StillPicture$Prediction" zt_E k) = true) := by decide +kernel
  exact zx_mem _ (key k hk).1 (key k hk).2
set_option maxRecDepth 100000 in
theorem uw_F : ∀ w ∈ u_ws "StillPicture$Filter" zt_F 3, w ∈ zx_ws := by
  intro w hw
  obtain ⟨k, hk, rfl⟩ := List.mem_map.mp hw
  have hk := List.mem_range.mp hk
  have key : ∀ k, k < 3 → (lw_tbl[([405, 407, 409] : List Nat).getD k 0]? = some (u_lay "StillPicture$Filter" zt_F k) ∧ goodWord (u_lay "StillPicture$Filter" zt_F k) = true) := by decide +kernel
  exact zx_mem _ (key k hk).1 (key k hk).2
set_option maxRecDepth 100000 in
theorem uw_M : ∀ w ∈ u_ws "StillPictureModel" zt_M 47, w ∈ zx_ws := by
  intro w hw
  obtain ⟨k, hk, rfl⟩ := List.mem_map.mp hw
  have hk := List.mem_range.mp hk
  have key : ∀ k, k < 47 → (lw_tbl[([869, 871, 873, 875, 877, 879, 881, 883, 885, 887, 889, 891, 893, 895, 897, 899, 901, 903, 905, 907, 909, 911, 913, 915, 917, 919, 921, 923, 925, 927, 929, 931, 933, 935, 937, 939, 941, 943, 945, 947, 949, 951, 953, 955, 957, 959, 961] : List Nat).getD k 0]? = some (u_lay "StillPictureModel" zt_M k) ∧ goodWord (u_lay "StillPictureModel" zt_M k) = true) := by decide +kernel
  exact zx_mem _ (key k hk).1 (key k hk).2
abbrev zx_S : Type := Nat ⊕ (Nat × List (Option Nat))
/-- the cells of both systems, in the order in which they are made: an array of so many ints; an object: its place among vwCl, its fields (none: a number) -/
def zx_SH : List zx_S := [
  .inr (0, [some 1, some 2, some 8, some 11, some 14, some 17, some 21, some 30, none, none]),
  .inl 240,
  .inr (1, [some 1, some 3, some 4, some 5, some 6, some 7, none]),
  .inl 16,
  .inl 16,
  .inl 16,
  .inl 16,
  .inl 16,
  .inr (2, [some 1, some 2, some 10, some 9, none, none, none, none, none, none, none]),
  .inl 200,
  .inr (3, [some 1, none, none, none]),
  .inr (4, [some 8, some 12, some 13, none, none, none, none, none, none, none, none, none, none, none, none, none]),
  .inr (3, [some 9, none, none, none]),
  .inr (3, [some 9, none, none, none]),
  .inr (5, [some 9, some 15, some 16, none, none, none, none, none, none, none]),
  .inl 304,
  .inl 19,
  .inr (6, [some 18, some 19, some 20, none, none]),
  .inl 768,
  .inl 16,
  .inl 64,
  .inr (7, [some 11, some 14, some 17, some 23, some 26, some 22]),
  .inl 3,
  .inr (8, [some 14, some 24, some 25]),
  .inl 16,
  .inl 4,
  .inr (9, [some 17, some 27, some 28, some 29, none, none]),
  .inl 16,
  .inl 4,
  .inl 4,
  .inr (10, [some 11, some 17, some 31]),
  .inl 256,
  .inr (11, [none, some 33, none, some 34, some 35, some 36, some 37, some 38, none, some 39, none, none, none, none, none, none, none, none, none, none, none, none, none, none, none, none, none, none, none, none, none, some 40, some 41, none, some 42, some 43, some 44, none, some 45, some 46, some 47, some 48, some 49, some 50, none, some 51, some 52]),
  .inl 240,
  .inl 16,
  .inl 16,
  .inl 16,
  .inl 16,
  .inl 16,
  .inl 200,
  .inl 304,
  .inl 19,
  .inl 768,
  .inl 256,
  .inl 16,
  .inl 68,
  .inl 2,
  .inl 16,
  .inl 4,
  .inl 4,
  .inl 4,
  .inl 16,
  .inl 16]
theorem sh_0 : zx_SH[0]? = some (.inr (0, [some 1, some 2, some 8, some 11, some 14, some 17, some 21, some 30, none, none])) := rfl
theorem sh_1 : zx_SH[1]? = some (.inl 240) := rfl
theorem sh_2 : zx_SH[2]? = some (.inr (1, [some 1, some 3, some 4, some 5, some 6, some 7, none])) := rfl
theorem sh_3 : zx_SH[3]? = some (.inl 16) := rfl
theorem sh_4 : zx_SH[4]? = some (.inl 16) := rfl
theorem sh_5 : zx_SH[5]? = some (.inl 16) := rfl
theorem sh_6 : zx_SH[6]? = some (.inl 16) := rfl
theorem sh_7 : zx_SH[7]? = some (.inl 16) := rfl
theorem sh_8 : zx_SH[8]? = some (.inr (2, [some 1, some 2, some 10, some 9, none, none, none, none, none, none, none])) := rfl
theorem sh_9 : zx_SH[9]? = some (.inl 200) := rfl
theorem sh_10 : zx_SH[10]? = some (.inr (3, [some 1, none, none, none])) := rfl
theorem sh_11 : zx_SH[11]? = some (.inr (4, [some 8, some 12, some 13, none, none, none, none, none, none, none, none, none, none, none, none, none])) := rfl
theorem sh_12 : zx_SH[12]? = some (.inr (3, [some 9, none, none, none])) := rfl
theorem sh_13 : zx_SH[13]? = some (.inr (3, [some 9, none, none, none])) := rfl
theorem sh_14 : zx_SH[14]? = some (.inr (5, [some 9, some 15, some 16, none, none, none, none, none, none, none])) := rfl
theorem sh_15 : zx_SH[15]? = some (.inl 304) := rfl
theorem sh_16 : zx_SH[16]? = some (.inl 19) := rfl
theorem sh_17 : zx_SH[17]? = some (.inr (6, [some 18, some 19, some 20, none, none])) := rfl
theorem sh_18 : zx_SH[18]? = some (.inl 768) := rfl
theorem sh_19 : zx_SH[19]? = some (.inl 16) := rfl
theorem sh_20 : zx_SH[20]? = some (.inl 64) := rfl
theorem sh_21 : zx_SH[21]? = some (.inr (7, [some 11, some 14, some 17, some 23, some 26, some 22])) := rfl
theorem sh_22 : zx_SH[22]? = some (.inl 3) := rfl
theorem sh_23 : zx_SH[23]? = some (.inr (8, [some 14, some 24, some 25])) := rfl
theorem sh_24 : zx_SH[24]? = some (.inl 16) := rfl
theorem sh_25 : zx_SH[25]? = some (.inl 4) := rfl
theorem sh_26 : zx_SH[26]? = some (.inr (9, [some 17, some 27, some 28, some 29, none, none])) := rfl
theorem sh_27 : zx_SH[27]? = some (.inl 16) := rfl
theorem sh_28 : zx_SH[28]? = some (.inl 4) := rfl
theorem sh_29 : zx_SH[29]? = some (.inl 4) := rfl
theorem sh_30 : zx_SH[30]? = some (.inr (10, [some 11, some 17, some 31])) := rfl
theorem sh_31 : zx_SH[31]? = some (.inl 256) := rfl
theorem sh_32 : zx_SH[32]? = some (.inr (11, [none, some 33, none, some 34, some 35, some 36, some 37, some 38, none, some 39, none, none, none, none, none, none, none, none, none, none, none, none, none, none, none, none, none, none, none, none, none, some 40, some 41, none, some 42, some 43, some 44, none, some 45, some 46, some 47, some 48, some 49, some 50, none, some 51, some 52])) := rfl
theorem sh_33 : zx_SH[33]? = some (.inl 240) := rfl
theorem sh_34 : zx_SH[34]? = some (.inl 16) := rfl
theorem sh_35 : zx_SH[35]? = some (.inl 16) := rfl
theorem sh_36 : zx_SH[36]? = some (.inl 16) := rfl
theorem sh_37 : zx_SH[37]? = some (.inl 16) := rfl
theorem sh_38 : zx_SH[38]? = some (.inl 16) := rfl
theorem sh_39 : zx_SH[39]? = some (.inl 200) := rfl
theorem sh_40 : zx_SH[40]? = some (.inl 304) := rfl
theorem sh_41 : zx_SH[41]? = some (.inl 19) := rfl
theorem sh_42 : zx_SH[42]? = some (.inl 768) := rfl
theorem sh_43 : zx_SH[43]? = some (.inl 256) := rfl
theorem sh_44 : zx_SH[44]? = some (.inl 16) := rfl
theorem sh_45 : zx_SH[45]? = some (.inl 68) := rfl
theorem sh_46 : zx_SH[46]? = some (.inl 2) := rfl
theorem sh_47 : zx_SH[47]? = some (.inl 16) := rfl
theorem sh_48 : zx_SH[48]? = some (.inl 4) := rfl
theorem sh_49 : zx_SH[49]? = some (.inl 4) := rfl
theorem sh_50 : zx_SH[50]? = some (.inl 4) := rfl
theorem sh_51 : zx_SH[51]? = some (.inl 16) := rfl
theorem sh_52 : zx_SH[52]? = some (.inl 16) := rfl
def zx_tab0 (k : Nat) : Int32 := ([2, 2, 6, 6, 6, 6, 7, 7, 2, 2, 4, 16, 16, 4, 4, 4, 4, 4, 4] : List Int32).getD k 0
def zx_tab1 (k : Nat) : Int32 := ([0, 1, 4, 8, 5, 2, 3, 6, 9, 12, 13, 10, 7, 11, 14, 15] : List Int32).getD k 0
def zx_tab2 (k : Nat) : Int32 := ([2896, 3784, 2896, 1567, 2896, 1567, -2896, -3784, 2896, -1567, -2896, 3784, 2896, -3784, 2896, -1567] : List Int32).getD k 0
/-- the static arrays: where they stand, what they hold -/
def zx_T (ad : Nat → Nat) (A : Nat → Prop) (U : State) (H : Heap) : Prop :=
  va_Z "StillPicture$Coder" "COUNTS" "[I" (.ref (ad 100)) A U H ∧ va_T .int (ad 100) 19 (fun k => .int (zx_tab0 k)) A U H ∧
  va_Z "StillPicture$Differences" "PLACES" "[I" (.ref (ad 101)) A U H ∧ va_T .int (ad 101) 16 (fun k => .int (zx_tab1 k)) A U H ∧
  va_Z "StillPicture$Differences" "WAVES" "[I" (.ref (ad 102)) A U H ∧ va_T .int (ad 102) 16 (fun k => .int (zx_tab2 k)) A U H
theorem zx_T.moved {ad : Nat → Nat} {A : Nat → Prop} {u U : State} {H : Heap} (hvm : u.vm.Alike U.vm) (h : zx_T ad A u H) : zx_T ad A U H :=
  ⟨h.1.moved hvm, h.2.1.moved hvm, h.2.2.1.moved hvm, h.2.2.2.1.moved hvm, h.2.2.2.2.1.moved hvm, h.2.2.2.2.2.moved hvm⟩
theorem zx_T.kept {ad : Nat → Nat} {A : Nat → Prop} {U : State} {H H1 : Heap} (h : zx_T ad A U H) (hq : ∀ a : Nat, a < H.size → ¬ A a → H1[a]? = H[a]?) : zx_T ad A U H1 :=
  ⟨h.1.kept hq, h.2.1.kept hq, h.2.2.1.kept hq, h.2.2.2.1.kept hq, h.2.2.2.2.1.kept hq, h.2.2.2.2.2.kept hq⟩
