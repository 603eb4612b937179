/-! names by program (gen/lay.py) -/
def R_0 : String := "BandPress"
def F_0 : u_T := fun k => match k with
  | 0 => ("BandPress", "tape", "LBandPress$Text;", true)
  | 1 => ("BandPress", "work", "LBandPress$Job;", true)
  | 2 => ("BandPress", "order", "LBandPress$Order;", true)
  | 3 => ("BandPress", "machine", "LBandPress$Machine;", true)
  | _ => ("BandPress", "packer", "LBandPress$Packer;", true)
def t_0 : Nat → FieldType := fun k => match k with
  | 0 => (.object "BandPress$Text")
  | 1 => (.object "BandPress$Job")
  | 2 => (.object "BandPress$Order")
  | 3 => (.object "BandPress$Machine")
  | _ => (.object "BandPress$Packer")
def R_1 : String := "BandPress$Text"
def F_1 : u_T := fun k => match k with
  | 0 => ("BandPress$Text", "signs", "[I", true)
  | 1 => ("BandPress$Text", "closings", "[I", true)
  | 2 => ("BandPress$Text", "open", "[I", true)
  | _ => ("BandPress$Text", "length", "I", false)
def t_1 : Nat → FieldType := fun k => match k with
  | 0 => (.array .int)
  | 1 => (.array .int)
  | 2 => (.array .int)
  | _ => .int
def R_2 : String := "BandPress$Job"
def F_2 : u_T := fun k => match k with
  | 0 => ("BandPress$Job", "script", "LBandPress$Text;", true)
  | 1 => ("BandPress$Job", "calls", "LBandPress$Calls;", true)
  | 2 => ("BandPress$Job", "filler", "LBandPress$Filler;", true)
  | 3 => ("BandPress$Job", "stack", "LBandPress$Values;", true)
  | 4 => ("BandPress$Job", "variables", "[I", true)
  | 5 => ("BandPress$Job", "settings", "LBandPress$Settings;", true)
  | 6 => ("BandPress$Job", "path", "LBandPress$Path;", true)
  | 7 => ("BandPress$Job", "pages", "LBandPress$Pages;", true)
  | 8 => ("BandPress$Job", "state", "I", false)
  | 9 => ("BandPress$Job", "error", "I", false)
  | 10 => ("BandPress$Job", "errorPlace", "I", false)
  | 11 => ("BandPress$Job", "steps", "I", false)
  | _ => ("BandPress$Job", "limit", "I", false)
def t_2 : Nat → FieldType := fun k => match k with
  | 0 => (.object "BandPress$Text")
  | 1 => (.object "BandPress$Calls")
  | 2 => (.object "BandPress$Filler")
  | 3 => (.object "BandPress$Values")
  | 4 => (.array .int)
  | 5 => (.object "BandPress$Settings")
  | 6 => (.object "BandPress$Path")
  | 7 => (.object "BandPress$Pages")
  | 8 => .int
  | 9 => .int
  | 10 => .int
  | 11 => .int
  | _ => .int
def R_3 : String := "BandPress$Calls"
def F_3 : u_T := fun k => match k with
  | 0 => ("BandPress$Calls", "next", "[I", true)
  | 1 => ("BandPress$Calls", "first", "[I", true)
  | 2 => ("BandPress$Calls", "end", "[I", true)
  | 3 => ("BandPress$Calls", "times", "[I", true)
  | _ => ("BandPress$Calls", "depth", "I", false)
def t_3 : Nat → FieldType := fun k => match k with
  | 0 => (.array .int)
  | 1 => (.array .int)
  | 2 => (.array .int)
  | 3 => (.array .int)
  | _ => .int
def R_4 : String := "BandPress$Filler"
def F_4 : u_T := fun k => match k with
  | 0 => ("BandPress$Filler", "rows", "[J", true)
  | _ => ("BandPress$Filler", "turns", "[I", true)
def t_4 : Nat → FieldType := fun k => match k with
  | 0 => (.array .long)
  | _ => (.array .int)
def R_5 : String := "BandPress$Values"
def F_5 : u_T := fun k => match k with
  | 0 => ("BandPress$Values", "held", "[I", true)
  | _ => ("BandPress$Values", "size", "I", false)
def t_5 : Nat → FieldType := fun k => match k with
  | 0 => (.array .int)
  | _ => .int
def R_6 : String := "BandPress$Settings"
def F_6 : u_T := fun k => match k with
  | 0 => ("BandPress$Settings", "sx", "[I", true)
  | 1 => ("BandPress$Settings", "sy", "[I", true)
  | 2 => ("BandPress$Settings", "tx", "[I", true)
  | 3 => ("BandPress$Settings", "ty", "[I", true)
  | 4 => ("BandPress$Settings", "grey", "[I", true)
  | 5 => ("BandPress$Settings", "clip", "[J", true)
  | _ => ("BandPress$Settings", "level", "I", false)
def t_6 : Nat → FieldType := fun k => match k with
  | 0 => (.array .int)
  | 1 => (.array .int)
  | 2 => (.array .int)
  | 3 => (.array .int)
  | 4 => (.array .int)
  | 5 => (.array .long)
  | _ => .int
def R_7 : String := "BandPress$Path"
def F_7 : u_T := fun k => match k with
  | 0 => ("BandPress$Path", "xs", "[I", true)
  | 1 => ("BandPress$Path", "ys", "[I", true)
  | 2 => ("BandPress$Path", "begins", "[Z", true)
  | 3 => ("BandPress$Path", "curveX", "[I", true)
  | 4 => ("BandPress$Path", "curveY", "[I", true)
  | 5 => ("BandPress$Path", "size", "I", false)
  | 6 => ("BandPress$Path", "subpath", "I", false)
  | _ => ("BandPress$Path", "closed", "Z", false)
def t_7 : Nat → FieldType := fun k => match k with
  | 0 => (.array .int)
  | 1 => (.array .int)
  | 2 => (.array .boolean)
  | 3 => (.array .int)
  | 4 => (.array .int)
  | 5 => .int
  | 6 => .int
  | _ => .boolean
def R_8 : String := "BandPress$Pages"
def F_8 : u_T := fun k => match k with
  | 0 => ("BandPress$Pages", "lines", "[J", true)
  | 1 => ("BandPress$Pages", "drawn", "[J", true)
  | 2 => ("BandPress$Pages", "kept", "I", false)
  | _ => ("BandPress$Pages", "marks", "I", false)
def t_8 : Nat → FieldType := fun k => match k with
  | 0 => (.array .long)
  | 1 => (.array .long)
  | 2 => .int
  | _ => .int
def R_9 : String := "BandPress$Order"
def F_9 : u_T := fun k => match k with
  | 0 => ("BandPress$Order", "outSheets", "[I", true)
  | 1 => ("BandPress$Order", "isOut", "[Z", true)
  | 2 => ("BandPress$Order", "outCount", "I", false)
  | 3 => ("BandPress$Order", "count", "I", false)
  | 4 => ("BandPress$Order", "copies", "I", false)
  | 5 => ("BandPress$Order", "twoSided", "Z", false)
  | 6 => ("BandPress$Order", "pages", "I", false)
  | _ => ("BandPress$Order", "perCopy", "I", false)
def t_9 : Nat → FieldType := fun k => match k with
  | 0 => (.array .int)
  | 1 => (.array .boolean)
  | 2 => .int
  | 3 => .int
  | 4 => .int
  | 5 => .boolean
  | 6 => .int
  | _ => .int
def R_10 : String := "BandPress$Machine"
def F_10 : u_T := fun k => match k with
  | 0 => ("BandPress$Machine", "order", "LBandPress$Order;", true)
  | 1 => ("BandPress$Machine", "sheets", "[I", true)
  | 2 => ("BandPress$Machine", "printed", "[I", true)
  | 3 => ("BandPress$Machine", "sticks", "[Z", true)
  | 4 => ("BandPress$Machine", "came", "[Z", true)
  | 5 => ("BandPress$Machine", "stuck", "[I", true)
  | 6 => ("BandPress$Machine", "heat", "I", false)
  | 7 => ("BandPress$Machine", "tray", "I", false)
  | 8 => ("BandPress$Machine", "open", "Z", false)
  | 9 => ("BandPress$Machine", "ticks", "I", false)
  | 10 => ("BandPress$Machine", "jams", "I", false)
  | _ => ("BandPress$Machine", "jammed", "Z", false)
def t_10 : Nat → FieldType := fun k => match k with
  | 0 => (.object "BandPress$Order")
  | 1 => (.array .int)
  | 2 => (.array .int)
  | 3 => (.array .boolean)
  | 4 => (.array .boolean)
  | 5 => (.array .int)
  | 6 => .int
  | 7 => .int
  | 8 => .boolean
  | 9 => .int
  | 10 => .int
  | _ => .boolean
def R_11 : String := "BandPress$Packer"
def F_11 : u_T := fun k => match k with
  | 0 => ("BandPress$Packer", "packed", "[I", true)
  | 1 => ("BandPress$Packer", "size", "I", false)
  | _ => ("BandPress$Packer", "octets", "[I", true)
def t_11 : Nat → FieldType := fun k => match k with
  | 0 => (.array .int)
  | 1 => .int
  | _ => (.array .int)
def R_12 : String := "BandPressModel"
def F_12 : u_T := fun k => match k with
  | 0 => ("BandPressModel", "code", "I", false)
  | 1 => ("BandPressModel", "tape", "[I", true)
  | 2 => ("BandPressModel", "text", "[I", true)
  | 3 => ("BandPressModel", "typed", "I", false)
  | 4 => ("BandPressModel", "size", "I", false)
  | 5 => ("BandPressModel", "phase", "I", false)
  | 6 => ("BandPressModel", "error", "I", false)
  | 7 => ("BandPressModel", "errorPlace", "I", false)
  | 8 => ("BandPressModel", "pages", "I", false)
  | 9 => ("BandPressModel", "steps", "I", false)
  | 10 => ("BandPressModel", "limit", "I", false)
  | 11 => ("BandPressModel", "copies", "I", false)
  | 12 => ("BandPressModel", "sides", "Z", false)
  | 13 => ("BandPressModel", "high", "I", false)
  | 14 => ("BandPressModel", "value", "[I", true)
  | 15 => ("BandPressModel", "variable", "[I", true)
  | 16 => ("BandPressModel", "isProcedure", "[Z", true)
  | 17 => ("BandPressModel", "depth", "I", false)
  | 18 => ("BandPressModel", "at", "[I", true)
  | 19 => ("BandPressModel", "end", "[I", true)
  | 20 => ("BandPressModel", "begin", "[I", true)
  | 21 => ("BandPressModel", "more", "[I", true)
  | 22 => ("BandPressModel", "places", "I", false)
  | 23 => ("BandPressModel", "lastX", "I", false)
  | 24 => ("BandPressModel", "lastY", "I", false)
  | 25 => ("BandPressModel", "firstX", "I", false)
  | 26 => ("BandPressModel", "firstY", "I", false)
  | 27 => ("BandPressModel", "hasPlace", "Z", false)
  | 28 => ("BandPressModel", "isClosed", "Z", false)
  | 29 => ("BandPressModel", "placeX", "[I", true)
  | 30 => ("BandPressModel", "placeY", "[I", true)
  | 31 => ("BandPressModel", "begins", "[Z", true)
  | 32 => ("BandPressModel", "saved", "I", false)
  | 33 => ("BandPressModel", "matrix", "[I", true)
  | 34 => ("BandPressModel", "clip", "[Z", true)
  | 35 => ("BandPressModel", "black", "[Z", true)
  | 36 => ("BandPressModel", "marks", "I", false)
  | 37 => ("BandPressModel", "inside", "[Z", true)
  | 38 => ("BandPressModel", "row", "[I", true)
  | 39 => ("BandPressModel", "rowLong", "I", false)
  | 40 => ("BandPressModel", "tray", "I", false)
  | 41 => ("BandPressModel", "heat", "I", false)
  | 42 => ("BandPressModel", "ticks", "I", false)
  | 43 => ("BandPressModel", "jams", "I", false)
  | 44 => ("BandPressModel", "sheets", "I", false)
  | 45 => ("BandPressModel", "outs", "I", false)
  | 46 => ("BandPressModel", "open", "Z", false)
  | 47 => ("BandPressModel", "jammed", "Z", false)
  | 48 => ("BandPressModel", "in", "[I", true)
  | 49 => ("BandPressModel", "printed", "[I", true)
  | 50 => ("BandPressModel", "stuck", "[I", true)
  | 51 => ("BandPressModel", "outSheet", "[I", true)
  | 52 => ("BandPressModel", "sticks", "[Z", true)
  | 53 => ("BandPressModel", "moved", "[Z", true)
  | _ => ("BandPressModel", "isOut", "[Z", true)
def t_12 : Nat → FieldType := fun k => match k with
  | 0 => .int
  | 1 => (.array .int)
  | 2 => (.array .int)
  | 3 => .int
  | 4 => .int
  | 5 => .int
  | 6 => .int
  | 7 => .int
  | 8 => .int
  | 9 => .int
  | 10 => .int
  | 11 => .int
  | 12 => .boolean
  | 13 => .int
  | 14 => (.array .int)
  | 15 => (.array .int)
  | 16 => (.array .boolean)
  | 17 => .int
  | 18 => (.array .int)
  | 19 => (.array .int)
  | 20 => (.array .int)
  | 21 => (.array .int)
  | 22 => .int
  | 23 => .int
  | 24 => .int
  | 25 => .int
  | 26 => .int
  | 27 => .boolean
  | 28 => .boolean
  | 29 => (.array .int)
  | 30 => (.array .int)
  | 31 => (.array .boolean)
  | 32 => .int
  | 33 => (.array .int)
  | 34 => (.array .boolean)
  | 35 => (.array .boolean)
  | 36 => .int
  | 37 => (.array .boolean)
  | 38 => (.array .int)
  | 39 => .int
  | 40 => .int
  | 41 => .int
  | 42 => .int
  | 43 => .int
  | 44 => .int
  | 45 => .int
  | 46 => .boolean
  | 47 => .boolean
  | 48 => (.array .int)
  | 49 => (.array .int)
  | 50 => (.array .int)
  | 51 => (.array .int)
  | 52 => (.array .boolean)
  | 53 => (.array .boolean)
  | _ => (.array .boolean)
def g_cl : List vw_C := [(R_0, F_0, 5), (R_1, F_1, 4), (R_2, F_2, 13), (R_3, F_3, 5), (R_4, F_4, 2), (R_5, F_5, 2), (R_6, F_6, 7), (R_7, F_7, 8), (R_8, F_8, 4), (R_9, F_9, 8), (R_10, F_10, 12), (R_11, F_11, 3), (R_12, F_12, 55)]
def g_isN : Cond → Bool
  | .fieldLinkNest .. => true
  | .methodLinkNest .. => true
  | .declares _ => true
  | .castable .. => true
  | _ => false
def g_T : List Cond := lw_tbl.filter goodWord
def g_N : List Cond := lw_tbl.filter g_isN
theorem g_Tm {w : Cond} (i : Nat) (h : lw_tbl[i]? = some w) (hg : goodWord w = true) : w ∈ g_T := List.mem_filter.mpr ⟨List.mem_of_getElem? h, hg⟩
theorem g_Nm {w : Cond} (i : Nat) (h : lw_tbl[i]? = some w) (hg : g_isN w = true) : w ∈ g_N := List.mem_filter.mpr ⟨List.mem_of_getElem? h, hg⟩
set_option maxHeartbeats 4000000 in
set_option maxRecDepth 100000 in
theorem g_clw0 : (g_cl.all fun q => (u_ws q.1 q.2.1 q.2.2).all fun w => decide (w ∈ lw_tbl) && goodWord w) = true := by decide +kernel
theorem g_clw {ci : Nat} {C : String} {T : u_T} {N : Nat} (h : g_cl[ci]? = some (C, T, N)) : ∀ w ∈ u_ws C T N, w ∈ g_T := by
  intro w hw
  have h1 := List.all_eq_true.mp (List.all_eq_true.mp g_clw0 (C, T, N) (List.mem_of_getElem? h)) w hw
  simp only [Bool.and_eq_true, decide_eq_true_eq] at h1
  exact List.mem_filter.mpr h1
theorem g_clt {ci : Nat} {C : String} {T : u_T} {N : Nat} (h : g_cl[ci]? = some (C, T, N)) : ∃ ty : Nat → FieldType, ∀ k, k < N → parseFieldDescriptor (T k).2.2.1 = some (ty k) := by
  have hl : ci < 13 := by
    have := (List.getElem?_eq_some_iff.mp h).1
    exact this
  rcases (show ci = 0 ∨ ci = 1 ∨ ci = 2 ∨ ci = 3 ∨ ci = 4 ∨ ci = 5 ∨ ci = 6 ∨ ci = 7 ∨ ci = 8 ∨ ci = 9 ∨ ci = 10 ∨ ci = 11 ∨ ci = 12 by omega) with rfl | rfl | rfl | rfl | rfl | rfl | rfl | rfl | rfl | rfl | rfl | rfl | rfl
  · cases h; exact ⟨t_0, by decide +kernel⟩
  · cases h; exact ⟨t_1, by decide +kernel⟩
  · cases h; exact ⟨t_2, by decide +kernel⟩
  · cases h; exact ⟨t_3, by decide +kernel⟩
  · cases h; exact ⟨t_4, by decide +kernel⟩
  · cases h; exact ⟨t_5, by decide +kernel⟩
  · cases h; exact ⟨t_6, by decide +kernel⟩
  · cases h; exact ⟨t_7, by decide +kernel⟩
  · cases h; exact ⟨t_8, by decide +kernel⟩
  · cases h; exact ⟨t_9, by decide +kernel⟩
  · cases h; exact ⟨t_10, by decide +kernel⟩
  · cases h; exact ⟨t_11, by decide +kernel⟩
  · cases h; exact ⟨t_12, by decide +kernel⟩
theorem g_cln {ci : Nat} {C : String} {T : u_T} {N : Nat} (h : g_cl[ci]? = some (C, T, N)) : ∀ a, a < N → ∀ b, b < N → a ≠ b → (T a).2.1 ≠ (T b).2.1 := by
  have hl : ci < 13 := by
    have := (List.getElem?_eq_some_iff.mp h).1
    exact this
  rcases (show ci = 0 ∨ ci = 1 ∨ ci = 2 ∨ ci = 3 ∨ ci = 4 ∨ ci = 5 ∨ ci = 6 ∨ ci = 7 ∨ ci = 8 ∨ ci = 9 ∨ ci = 10 ∨ ci = 11 ∨ ci = 12 by omega) with rfl | rfl | rfl | rfl | rfl | rfl | rfl | rfl | rfl | rfl | rfl | rfl | rfl
  · cases h; decide +kernel
  · cases h; decide +kernel
  · cases h; decide +kernel
  · cases h; decide +kernel
  · cases h; decide +kernel
  · cases h; decide +kernel
  · cases h; decide +kernel
  · cases h; decide +kernel
  · cases h; decide +kernel
  · cases h; decide +kernel
  · cases h; decide +kernel
  · cases h; decide +kernel
  · cases h; decide +kernel
def g_nS : Nat := 4
def g_len : List Nat := [3, 5, 9, 15]
def g_byt : List (List Int32) := [[63, 82, 81], [77, 76, 67, 90, 78], [70, 69, 87, 84, 83, 71, 85, 86, 80], [32, 123, 125, 58, 43, 45, 42, 47, 37, 126, 60, 61, 68, 88, 79]]
def g_ldc : List (String × Nat × String × Nat) := [("BandPress$Job", 239, "?RQ", 0), ("BandPress$Job", 248, "MLCZN", 1), ("BandPress$Job", 253, "FEWTSGUVP", 2), ("BandPress$Text", 59, " {}:+-*/%~<=DXO", 3), ("BandPress$Text", 65, "?RQ", 0), ("BandPress$Text", 67, "MLCZN", 1), ("BandPress$Text", 69, "FEWTSGUVP", 2)]
def g_cellN : Nat := 16
def g_cell : List Int32 := [0, 8, 2, 10, 12, 4, 14, 6, 3, 11, 1, 9, 15, 7, 13, 5]
def g_side (q : Nat) : Bool := decide (49 ≤ q) && decide (q < 74)
def gFu : Nat := 1000000000000
def g_ex (k : Nat) : String := match k with
  | 0 => "java/lang/IllegalStateException"
  | 1 => "java/lang/IllegalArgumentException"
  | _ => "java/util/NoSuchElementException"
/-- an exception of kind k has been thrown: its object is of that class -/
def g_Ex (k : Nat) (oc : Outcome) (t : State) : Prop := ∃ (a : Addr) (cell : Cell), oc = .threw a ∧ t.heap[a]? = some cell ∧ (∀ z, cell.vm ≠ .statics z) ∧ t.vm.findClass (g_ex k) = some cell.cls
