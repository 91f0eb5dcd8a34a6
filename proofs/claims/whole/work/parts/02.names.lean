theorem mk_places (ws : List Cond) (ps : List Nat) (h : ws = ps.filterMap (fun i => lw_tbl[i]?)) : ∀ w ∈ ws, w ∈ lw_tbl := by
  intro w hw
  rw [h] at hw
  obtain ⟨i, -, hi⟩ := List.mem_filterMap.mp hw
  exact List.mem_of_getElem? hi
/-- the words that stay as they are in every later state -/
def gw_m : List Cond := lw_tbl.filter goodWord
theorem gw_in {w : Cond} (h : w ∈ lw_tbl) (hg : goodWord w = true) : w ∈ gw_m := List.mem_filter.mpr ⟨h, hg⟩
theorem gw_good {w : Cond} (h : w ∈ gw_m) : (w.onTables && w.keeps) = true ∨ ∃ ty, w = .arrayClass ty := good_of_word (List.mem_filter.mp h).2
theorem mk_placg (ws : List Cond) (ps : List Nat) (h : ws = ps.filterMap (fun i => lw_tbl[i]?) ∧ ws.all goodWord = true) : ∀ w ∈ ws, w ∈ gw_m := fun w hw => gw_in (mk_places ws ps h.1 w hw) (List.all_eq_true.mp h.2 w hw)
def isN_m : Cond → Bool
  | .fieldLinkNest .. => true
  | .methodLinkNest .. => true
  | _ => false
def nw_m (U : State) : Prop := ∀ w ∈ lw_tbl, isN_m w = true → va_Nw w U
theorem nw_warm {s U : State} (hW : s.WarmedH U.vm) (h : nw_m s) : nw_m U := by
  intro w hw hn
  cases w <;> first | (simp [isN_m] at hn; done) | exact va_Nw.warmF hW (h _ hw hn) | exact va_Nw.warmM hW (h _ hw hn)
theorem nw_same {u U : State} (e : u.vm = U.vm) (h : nw_m u) : nw_m U := by
  intro w hw hn
  cases w <;> first | (simp [isN_m] at hn; done) | exact va_Nw.same rfl e (h _ hw hn)
theorem nw_of {s : State} {args : Array Value} (h : ∀ w ∈ lw_tbl, w.before args s = true) : nw_m s := by
  intro w hw hn
  cases w <;> first | (simp [isN_m] at hn; done) | exact va_Nw.of rfl (h _ hw)
-- names: the classes, their fields, their types
def Rk_0 : String := "FilterBench$Bounds"
def Tk_0 : u_T := fun k => match k with
  | 0 => ("FilterBench$Bounds", "most", "J", false)
  | 1 => ("FilterBench$Bounds", "slip", "J", false)
  | _ => ("FilterBench$Bounds", "shift", "I", false)
def yk_0 : Nat → FieldType := fun k => match k with
  | 0 => .long
  | 1 => .long
  | _ => .int
theorem nk_0 : ∀ a, a < 3 → ∀ b, b < 3 → a ≠ b → (Tk_0 a).2.1 ≠ (Tk_0 b).2.1 := by decide +kernel
theorem tk_0 : ∀ k, k < 3 → parseFieldDescriptor (Tk_0 k).2.2.1 = some (yk_0 k) := by decide +kernel
def pk_pos_0 : List Nat := [121, 123, 125]
theorem ik_0 : ∀ w ∈ u_ws Rk_0 Tk_0 3, w ∈ gw_m := mk_placg (u_ws Rk_0 Tk_0 3) pk_pos_0 (by decide +kernel)
def Rk_1 : String := "FilterBench$Echoes"
def Tk_1 : u_T := fun k => match k with
  | 0 => ("FilterBench$Echoes", "a1", "J", false)
  | 1 => ("FilterBench$Echoes", "a2", "J", false)
  | 2 => ("FilterBench$Echoes", "e", "J", false)
  | 3 => ("FilterBench$Echoes", "eBefore", "J", false)
  | 4 => ("FilterBench$Echoes", "s", "J", false)
  | 5 => ("FilterBench$Echoes", "u", "J", false)
  | 6 => ("FilterBench$Echoes", "uSum", "J", false)
  | 7 => ("FilterBench$Echoes", "\x72", "J", false)
  | 8 => ("FilterBench$Echoes", "rBefore", "J", false)
  | _ => ("FilterBench$Echoes", "rSum", "J", false)
def yk_1 : Nat → FieldType := fun k => match k with
  | 0 => .long
  | 1 => .long
  | 2 => .long
  | 3 => .long
  | 4 => .long
  | 5 => .long
  | 6 => .long
  | 7 => .long
  | 8 => .long
  | _ => .long
theorem nk_1 : ∀ a, a < 10 → ∀ b, b < 10 → a ≠ b → (Tk_1 a).2.1 ≠ (Tk_1 b).2.1 := by decide +kernel
theorem tk_1 : ∀ k, k < 10 → parseFieldDescriptor (Tk_1 k).2.2.1 = some (yk_1 k) := by decide +kernel
def pk_pos_1 : List Nat := [87, 89, 91, 93, 95, 97, 99, 101, 103, 105]
theorem ik_1 : ∀ w ∈ u_ws Rk_1 Tk_1 10, w ∈ gw_m := mk_placg (u_ws Rk_1 Tk_1 10) pk_pos_1 (by decide +kernel)
def Rk_2 : String := "FilterBench$ExactFilter"
def Tk_2 : u_T := fun k => match k with
  | 0 => ("FilterBench$ExactFilter", "signals", "[LFilterBench$Signal;", true)
  | _ => ("FilterBench$ExactFilter", "size", "[I", true)
def yk_2 : Nat → FieldType := fun k => match k with
  | 0 => .array (.object "FilterBench$Signal")
  | _ => .array .int
theorem nk_2 : ∀ a, a < 2 → ∀ b, b < 2 → a ≠ b → (Tk_2 a).2.1 ≠ (Tk_2 b).2.1 := by decide +kernel
theorem tk_2 : ∀ k, k < 2 → parseFieldDescriptor (Tk_2 k).2.2.1 = some (yk_2 k) := by decide +kernel
def pk_pos_2 : List Nat := [216, 218]
theorem ik_2 : ∀ w ∈ u_ws Rk_2 Tk_2 2, w ∈ gw_m := mk_placg (u_ws Rk_2 Tk_2 2) pk_pos_2 (by decide +kernel)
def Rk_3 : String := "FilterBench$Place"
def Tk_3 : u_T := fun k => match k with
  | 0 => ("FilterBench$Place", "numbers", "[J", true)
  | 1 => ("FilterBench$Place", "made", "I", false)
  | 2 => ("FilterBench$Place", "shift", "I", false)
  | 3 => ("FilterBench$Place", "x", "J", false)
  | 4 => ("FilterBench$Place", "xBefore", "J", false)
  | 5 => ("FilterBench$Place", "y", "J", false)
  | 6 => ("FilterBench$Place", "yBefore", "J", false)
  | _ => ("FilterBench$Place", "left", "J", false)
def yk_3 : Nat → FieldType := fun k => match k with
  | 0 => .array .long
  | 1 => .int
  | 2 => .int
  | 3 => .long
  | 4 => .long
  | 5 => .long
  | 6 => .long
  | _ => .long
theorem nk_3 : ∀ a, a < 8 → ∀ b, b < 8 → a ≠ b → (Tk_3 a).2.1 ≠ (Tk_3 b).2.1 := by decide +kernel
theorem tk_3 : ∀ k, k < 8 → parseFieldDescriptor (Tk_3 k).2.2.1 = some (yk_3 k) := by decide +kernel
def pk_pos_3 : List Nat := [316, 318, 320, 322, 324, 326, 328, 330]
theorem ik_3 : ∀ w ∈ u_ws Rk_3 Tk_3 8, w ∈ gw_m := mk_placg (u_ws Rk_3 Tk_3 8) pk_pos_3 (by decide +kernel)
def Rk_4 : String := "FilterBench$Search"
def Tk_4 : u_T := fun k => match k with
  | 0 => ("FilterBench$Search", "order", "[I", true)
  | 1 => ("FilterBench$Search", "bestOrder", "[I", true)
  | 2 => ("FilterBench$Search", "most", "[[J", true)
  | 3 => ("FilterBench$Search", "slip", "[[J", true)
  | 4 => ("FilterBench$Search", "shifts", "[[I", true)
  | 5 => ("FilterBench$Search", "bounds", "LFilterBench$Bounds;", true)
  | 6 => ("FilterBench$Search", "count", "I", false)
  | 7 => ("FilterBench$Search", "w", "I", false)
  | 8 => ("FilterBench$Search", "way", "I", false)
  | 9 => ("FilterBench$Search", "topFine", "I", false)
  | 10 => ("FilterBench$Search", "good", "I", false)
  | 11 => ("FilterBench$Search", "bestOut", "I", false)
  | 12 => ("FilterBench$Search", "bestFine", "I", false)
  | _ => ("FilterBench$Search", "bestSlip", "J", false)
def yk_4 : Nat → FieldType := fun k => match k with
  | 0 => .array .int
  | 1 => .array .int
  | 2 => .array (.array .long)
  | 3 => .array (.array .long)
  | 4 => .array (.array .int)
  | 5 => .object "FilterBench$Bounds"
  | 6 => .int
  | 7 => .int
  | 8 => .int
  | 9 => .int
  | 10 => .int
  | 11 => .int
  | 12 => .int
  | _ => .long
theorem nk_4 : ∀ a, a < 14 → ∀ b, b < 14 → a ≠ b → (Tk_4 a).2.1 ≠ (Tk_4 b).2.1 := by decide +kernel
theorem tk_4 : ∀ k, k < 14 → parseFieldDescriptor (Tk_4 k).2.2.1 = some (yk_4 k) := by decide +kernel
def pk_pos_4 : List Nat := [158, 160, 162, 164, 166, 168, 170, 172, 174, 176, 178, 180, 182, 184]
theorem ik_4 : ∀ w ∈ u_ws Rk_4 Tk_4 14, w ∈ gw_m := mk_placg (u_ws Rk_4 Tk_4 14) pk_pos_4 (by decide +kernel)
def Rk_5 : String := "FilterBench$Section"
def Tk_5 : u_T := fun k => match k with
  | 0 => ("FilterBench$Section", "b0", "I", false)
  | 1 => ("FilterBench$Section", "b1", "I", false)
  | 2 => ("FilterBench$Section", "b2", "I", false)
  | 3 => ("FilterBench$Section", "a1", "I", false)
  | 4 => ("FilterBench$Section", "a2", "I", false)
  | 5 => ("FilterBench$Section", "sizesOfB", "J", false)
  | 6 => ("FilterBench$Section", "sizesOfA", "J", false)
  | 7 => ("FilterBench$Section", "hard", "Z", false)
  | 8 => ("FilterBench$Section", "m", "I", false)
  | 9 => ("FilterBench$Section", "sum", "J", false)
  | 10 => ("FilterBench$Section", "rest", "J", false)
  | 11 => ("FilterBench$Section", "norm", "J", false)
  | _ => ("FilterBench$Section", "gain", "J", false)
def yk_5 : Nat → FieldType := fun k => match k with
  | 0 => .int
  | 1 => .int
  | 2 => .int
  | 3 => .int
  | 4 => .int
  | 5 => .long
  | 6 => .long
  | 7 => .boolean
  | 8 => .int
  | 9 => .long
  | 10 => .long
  | 11 => .long
  | _ => .long
theorem nk_5 : ∀ a, a < 13 → ∀ b, b < 13 → a ≠ b → (Tk_5 a).2.1 ≠ (Tk_5 b).2.1 := by decide +kernel
theorem tk_5 : ∀ k, k < 13 → parseFieldDescriptor (Tk_5 k).2.2.1 = some (yk_5 k) := by decide +kernel
def pk_pos_5 : List Nat := [269, 271, 273, 275, 277, 279, 281, 283, 285, 287, 289, 291, 293]
theorem ik_5 : ∀ w ∈ u_ws Rk_5 Tk_5 13, w ∈ gw_m := mk_placg (u_ws Rk_5 Tk_5 13) pk_pos_5 (by decide +kernel)
def Rk_6 : String := "FilterBench$Signal"
def Tk_6 : u_T := fun k => match k with
  | 0 => ("FilterBench$Signal", "now", "[I", false)
  | 1 => ("FilterBench$Signal", "before", "[I", false)
  | _ => ("FilterBench$Signal", "earlier", "[I", false)
def yk_6 : Nat → FieldType := fun k => match k with
  | 0 => .array .int
  | 1 => .array .int
  | _ => .array .int
theorem nk_6 : ∀ a, a < 3 → ∀ b, b < 3 → a ≠ b → (Tk_6 a).2.1 ≠ (Tk_6 b).2.1 := by decide +kernel
theorem tk_6 : ∀ k, k < 3 → parseFieldDescriptor (Tk_6 k).2.2.1 = some (yk_6 k) := by decide +kernel
def pk_pos_6 : List Nat := [207, 209, 211]
theorem ik_6 : ∀ w ∈ u_ws Rk_6 Tk_6 3, w ∈ gw_m := mk_placg (u_ws Rk_6 Tk_6 3) pk_pos_6 (by decide +kernel)
def Rk_7 : String := "FilterBench"
def Tk_7 : u_T := fun k => match k with
  | 0 => ("FilterBench", "rows", "[LFilterBench$Section;", true)
  | 1 => ("FilterBench", "places", "[LFilterBench$Place;", true)
  | 2 => ("FilterBench", "polynomial", "[J", true)
  | 3 => ("FilterBench", "echoes", "LFilterBench$Echoes;", true)
  | 4 => ("FilterBench", "bounds", "LFilterBench$Bounds;", true)
  | 5 => ("FilterBench", "search", "LFilterBench$Search;", true)
  | 6 => ("FilterBench", "exactFilter", "LFilterBench$ExactFilter;", true)
  | 7 => ("FilterBench", "count", "I", false)
  | 8 => ("FilterBench", "planThere", "Z", false)
  | 9 => ("FilterBench", "wordBits", "I", false)
  | 10 => ("FilterBench", "sampleBits", "I", false)
  | 11 => ("FilterBench", "rounding", "I", false)
  | 12 => ("FilterBench", "fine", "I", false)
  | 13 => ("FilterBench", "out", "I", false)
  | 14 => ("FilterBench", "good", "I", false)
  | 15 => ("FilterBench", "samples", "I", false)
  | _ => ("FilterBench", "latest", "J", false)
def yk_7 : Nat → FieldType := fun k => match k with
  | 0 => .array (.object "FilterBench$Section")
  | 1 => .array (.object "FilterBench$Place")
  | 2 => .array .long
  | 3 => .object "FilterBench$Echoes"
  | 4 => .object "FilterBench$Bounds"
  | 5 => .object "FilterBench$Search"
  | 6 => .object "FilterBench$ExactFilter"
  | 7 => .int
  | 8 => .boolean
  | 9 => .int
  | 10 => .int
  | 11 => .int
  | 12 => .int
  | 13 => .int
  | 14 => .int
  | 15 => .int
  | _ => .long
theorem nk_7 : ∀ a, a < 17 → ∀ b, b < 17 → a ≠ b → (Tk_7 a).2.1 ≠ (Tk_7 b).2.1 := by decide +kernel
theorem tk_7 : ∀ k, k < 17 → parseFieldDescriptor (Tk_7 k).2.2.1 = some (yk_7 k) := by decide +kernel
def pk_pos_7 : List Nat := [350, 352, 354, 356, 358, 360, 362, 364, 366, 368, 370, 372, 374, 376, 378, 380, 382]
theorem ik_7 : ∀ w ∈ u_ws Rk_7 Tk_7 17, w ∈ gw_m := mk_placg (u_ws Rk_7 Tk_7 17) pk_pos_7 (by decide +kernel)
def Rk_8 : String := "FilterBenchModel"
def Tk_8 : u_T := fun k => match k with
  | 0 => ("FilterBenchModel", "many", "I", false)
  | 1 => ("FilterBenchModel", "factors", "[I", true)
  | 2 => ("FilterBenchModel", "hard", "[Z", true)
  | 3 => ("FilterBenchModel", "facts", "[J", true)
  | 4 => ("FilterBenchModel", "has", "Z", false)
  | 5 => ("FilterBenchModel", "wide", "I", false)
  | 6 => ("FilterBenchModel", "coming", "I", false)
  | 7 => ("FilterBenchModel", "fine", "I", false)
  | 8 => ("FilterBenchModel", "samples", "I", false)
  | 9 => ("FilterBenchModel", "plan", "[J", true)
  | 10 => ("FilterBenchModel", "order", "[I", true)
  | 11 => ("FilterBenchModel", "state", "[J", true)
  | 12 => ("FilterBenchModel", "polynomial", "[J", true)
  | 13 => ("FilterBenchModel", "lesser", "[J", true)
  | 14 => ("FilterBenchModel", "e", "[J", true)
  | 15 => ("FilterBenchModel", "s", "[J", true)
  | 16 => ("FilterBenchModel", "u", "[J", true)
  | 17 => ("FilterBenchModel", "\x72", "[J", true)
  | 18 => ("FilterBenchModel", "known", "I", false)
  | 19 => ("FilterBenchModel", "newMost", "J", false)
  | 20 => ("FilterBenchModel", "newSlip", "J", false)
  | 21 => ("FilterBenchModel", "newShift", "I", false)
  | 22 => ("FilterBenchModel", "row", "[I", true)
  | 23 => ("FilterBenchModel", "tried", "[J", true)
  | 24 => ("FilterBenchModel", "triedOut", "I", false)
  | 25 => ("FilterBenchModel", "good", "I", false)
  | 26 => ("FilterBenchModel", "out", "I", false)
  | 27 => ("FilterBenchModel", "mode", "I", false)
  | 28 => ("FilterBenchModel", "shifts", "[I", true)
  | 29 => ("FilterBenchModel", "came", "J", false)
  | 30 => ("FilterBenchModel", "history", "[J", true)
  | 31 => ("FilterBenchModel", "number", "[J", true)
  | _ => ("FilterBenchModel", "next", "[J", true)
def yk_8 : Nat → FieldType := fun k => match k with
  | 0 => .int
  | 1 => .array .int
  | 2 => .array .boolean
  | 3 => .array .long
  | 4 => .boolean
  | 5 => .int
  | 6 => .int
  | 7 => .int
  | 8 => .int
  | 9 => .array .long
  | 10 => .array .int
  | 11 => .array .long
  | 12 => .array .long
  | 13 => .array .long
  | 14 => .array .long
  | 15 => .array .long
  | 16 => .array .long
  | 17 => .array .long
  | 18 => .int
  | 19 => .long
  | 20 => .long
  | 21 => .int
  | 22 => .array .int
  | 23 => .array .long
  | 24 => .int
  | 25 => .int
  | 26 => .int
  | 27 => .int
  | 28 => .array .int
  | 29 => .long
  | 30 => .array .long
  | 31 => .array .long
  | _ => .array .long
theorem nk_8 : ∀ a, a < 33 → ∀ b, b < 33 → a ≠ b → (Tk_8 a).2.1 ≠ (Tk_8 b).2.1 := by decide +kernel
theorem tk_8 : ∀ k, k < 33 → parseFieldDescriptor (Tk_8 k).2.2.1 = some (yk_8 k) := by decide +kernel
def pk_pos_8 : List Nat := [764, 766, 768, 770, 772, 774, 776, 778, 780, 782, 784, 786, 788, 790, 792, 794, 796, 798, 800, 802, 804, 806, 808, 810, 812, 814, 816, 818, 820, 822, 824, 826, 828]
theorem ik_8 : ∀ w ∈ u_ws Rk_8 Tk_8 33, w ∈ gw_m := mk_placg (u_ws Rk_8 Tk_8 33) pk_pos_8 (by decide +kernel)
abbrev cls_m : List vw_C := [(Rk_0, Tk_0, 3), (Rk_1, Tk_1, 10), (Rk_2, Tk_2, 2), (Rk_3, Tk_3, 8), (Rk_4, Tk_4, 14), (Rk_5, Tk_5, 13), (Rk_6, Tk_6, 3), (Rk_7, Tk_7, 17), (Rk_8, Tk_8, 33)]
def tyk_m (c : Nat) (k : Nat) : FieldType := match c with
  | 0 => yk_0 k
  | 1 => yk_1 k
  | 2 => yk_2 k
  | 3 => yk_3 k
  | 4 => yk_4 k
  | 5 => yk_5 k
  | 6 => yk_6 k
  | 7 => yk_7 k
  | _ => yk_8 k
/-- the fields of class c: all that the rows ask of a class -/
def kls_ok (c : Nat) (C : String) (T : u_T) (N : Nat) : Prop := cls_m[c]? = some (C, T, N) ∧ (∀ w ∈ u_ws C T N, w ∈ gw_m) ∧ (∀ k, k < N → parseFieldDescriptor (T k).2.2.1 = some (tyk_m c k)) ∧ ∀ a, a < N → ∀ b, b < N → a ≠ b → (T a).2.1 ≠ (T b).2.1
theorem kls_all : ∀ (c : Nat) (q : vw_C), cls_m[c]? = some q → kls_ok c q.1 q.2.1 q.2.2 := by
  intro c q h
  match c, h with
  | 0, h => cases h; exact ⟨rfl, ik_0, tk_0, nk_0⟩
  | 1, h => cases h; exact ⟨rfl, ik_1, tk_1, nk_1⟩
  | 2, h => cases h; exact ⟨rfl, ik_2, tk_2, nk_2⟩
  | 3, h => cases h; exact ⟨rfl, ik_3, tk_3, nk_3⟩
  | 4, h => cases h; exact ⟨rfl, ik_4, tk_4, nk_4⟩
  | 5, h => cases h; exact ⟨rfl, ik_5, tk_5, nk_5⟩
  | 6, h => cases h; exact ⟨rfl, ik_6, tk_6, nk_6⟩
  | 7, h => cases h; exact ⟨rfl, ik_7, tk_7, nk_7⟩
  | 8, h => cases h; exact ⟨rfl, ik_8, tk_8, nk_8⟩
  | n + 9, h => simp [cls_m] at h
