/-! memory: what the ints and longs of the cells hold, by cell and place; the cells' kinds and fields are laid out once for all -/
abbrev Mm : Type := (Nat → Nat → Int32) × (Nat → Nat → Int64)
def updL (f : Nat → Int64) (k : Nat) (x : Int64) : Nat → Int64 := fun j => if j = k then x else f j
def wI (M : Mm) (k j : Nat) (v : Int32) : Mm := (fun q => if q = k then upd (M.1 k) j v else M.1 q, M.2)
def wJ (M : Mm) (k j : Nat) (v : Int64) : Mm := (M.1, fun q => if q = k then updL (M.2 k) j v else M.2 q)
def kdl : List Nat := [9, 6, 0, 1, 5, 3, 4, 140, 4, 164, 2, 4, 160, 4, 160, 4, 160, 4, 104, 4, 105, 4, 105, 4, 108, 4, 108, 6, 0, 1, 5, 3, 4, 140, 4, 164, 2, 4, 160, 4, 160, 4, 160, 4, 104, 4, 105, 4, 105, 4, 108, 4, 108, 0, 1, 5, 8, 4, 200, 4, 110, 4, 110, 4, 110, 50, 7, 1060, 7, 1060, 7, 1060, 7, 1060, 7, 1060, 7, 1060, 10, 116, 116, 116, 116, 116, 116, 140, 164, 160, 160, 160, 120, 116, 200, 130, 500, 111, 106, 106, 1360, 1060]
def kD (k : Nat) : Nat := kdl.getD k 99
def fldl : List (List (Option Nat)) := [[none, none, none, none, none, none, none, none, none, some 1, some 2], [none, none, none, none, none], [some 1, some 3, some 5, some 7], [some 1, some 3], [some 1, none], [none, none, none, none, none, none], [some 1, some 4, some 9, some 18, some 20, some 22, some 24], [none, none, some 1], [some 1, some 3, some 5, some 7, none], [some 1, some 27, none, some 53, some 56, some 65], [none, none, none, none, none, none, none, some 1, some 2, some 3, some 4, some 5, some 6, none, none, some 7, none, some 8, none, some 9, some 10, some 11, none, none, none, none, none, some 12, none, some 13, none, some 14, none, none, some 15, some 16, none, some 17, some 18, some 19, some 20, some 21]]
def fD (c : Nat) : List (Option Nat) := fldl.getD c []

def tC0 : u_T := fun k => match k with
  | 0 => ("PressSheets$Job", "figures", "I", false)
  | 1 => ("PressSheets$Job", "code", "I", false)
  | 2 => ("PressSheets$Job", "wide", "I", false)
  | 3 => ("PressSheets$Job", "high", "I", false)
  | 4 => ("PressSheets$Job", "pages", "I", false)
  | 5 => ("PressSheets$Job", "gather", "I", false)
  | 6 => ("PressSheets$Job", "turn", "I", false)
  | 7 => ("PressSheets$Job", "thick", "I", false)
  | 8 => ("PressSheets$Job", "copies", "I", false)
  | 9 => ("PressSheets$Job", "leaf", "LPressSheets$Leaf;", true)
  | _ => ("PressSheets$Job", "spot", "LPressSheets$Spot;", true)
def yC0 : Nat → FieldType := fun k => match k with
  | 0 => .int
  | 1 => .int
  | 2 => .int
  | 3 => .int
  | 4 => .int
  | 5 => .int
  | 6 => .int
  | 7 => .int
  | 8 => .int
  | 9 => .object "PressSheets$Leaf"
  | _ => .object "PressSheets$Spot"
def tC1 : u_T := fun k => match k with
  | 0 => ("PressSheets$Leaf", "row", "I", false)
  | 1 => ("PressSheets$Leaf", "column", "I", false)
  | 2 => ("PressSheets$Leaf", "depth", "I", false)
  | 3 => ("PressSheets$Leaf", "above", "I", false)
  | _ => ("PressSheets$Leaf", "head", "I", false)
def yC1 : Nat → FieldType := fun k => match k with
  | 0 => .int
  | 1 => .int
  | 2 => .int
  | 3 => .int
  | _ => .int
def tC2 : u_T := fun k => match k with
  | 0 => ("PressSheets$Plan", "cells", "LPressSheets$Row;", true)
  | 1 => ("PressSheets$Plan", "pages", "LPressSheets$Row;", true)
  | 2 => ("PressSheets$Plan", "heads", "LPressSheets$Row;", true)
  | _ => ("PressSheets$Plan", "proven", "LPressSheets$Row;", true)
def yC2 : Nat → FieldType := fun k => match k with
  | 0 => .object "PressSheets$Row"
  | 1 => .object "PressSheets$Row"
  | 2 => .object "PressSheets$Row"
  | _ => .object "PressSheets$Row"
def tC3 : u_T := fun k => match k with
  | 0 => ("PressSheets$Press", "waiting", "LPressSheets$Row;", true)
  | _ => ("PressSheets$Press", "done", "LPressSheets$Row;", true)
def yC3 : Nat → FieldType := fun k => match k with
  | 0 => .object "PressSheets$Row"
  | _ => .object "PressSheets$Row"
def tC4 : u_T := fun k => match k with
  | 0 => ("PressSheets$Row", "items", "[I", true)
  | _ => ("PressSheets$Row", "size", "I", false)
def yC4 : Nat → FieldType := fun k => match k with
  | 0 => .array .int
  | _ => .int
def tC5 : u_T := fun k => match k with
  | 0 => ("PressSheets$Spot", "sheet", "I", false)
  | 1 => ("PressSheets$Spot", "number", "I", false)
  | 2 => ("PressSheets$Spot", "side", "I", false)
  | 3 => ("PressSheets$Spot", "row", "I", false)
  | 4 => ("PressSheets$Spot", "column", "I", false)
  | _ => ("PressSheets$Spot", "head", "I", false)
def yC5 : Nat → FieldType := fun k => match k with
  | 0 => .int
  | 1 => .int
  | 2 => .int
  | 3 => .int
  | 4 => .int
  | _ => .int
def tC6 : u_T := fun k => match k with
  | 0 => ("PressSheets$State", "job", "LPressSheets$Job;", true)
  | 1 => ("PressSheets$State", "press", "LPressSheets$Press;", true)
  | 2 => ("PressSheets$State", "plan", "LPressSheets$Plan;", true)
  | 3 => ("PressSheets$State", "seenCells", "LPressSheets$Row;", true)
  | 4 => ("PressSheets$State", "seenPages", "LPressSheets$Row;", true)
  | 5 => ("PressSheets$State", "eventKinds", "LPressSheets$Row;", true)
  | _ => ("PressSheets$State", "eventNumbers", "LPressSheets$Row;", true)
def yC6 : Nat → FieldType := fun k => match k with
  | 0 => .object "PressSheets$Job"
  | 1 => .object "PressSheets$Press"
  | 2 => .object "PressSheets$Plan"
  | 3 => .object "PressSheets$Row"
  | 4 => .object "PressSheets$Row"
  | 5 => .object "PressSheets$Row"
  | _ => .object "PressSheets$Row"
def tC7 : u_T := fun k => match k with
  | 0 => ("PressSheets$Tape", "sort", "I", false)
  | 1 => ("PressSheets$Tape", "size", "I", false)
  | _ => ("PressSheets$Tape", "items", "[J", true)
def yC7 : Nat → FieldType := fun k => match k with
  | 0 => .int
  | 1 => .int
  | _ => .array .long
def tC8 : u_T := fun k => match k with
  | 0 => ("PressSheets$Text", "signs", "LPressSheets$Row;", true)
  | 1 => ("PressSheets$Text", "kinds", "LPressSheets$Row;", true)
  | 2 => ("PressSheets$Text", "firsts", "LPressSheets$Row;", true)
  | 3 => ("PressSheets$Text", "seconds", "LPressSheets$Row;", true)
  | _ => ("PressSheets$Text", "at", "I", false)
def yC8 : Nat → FieldType := fun k => match k with
  | 0 => .object "PressSheets$Row"
  | 1 => .object "PressSheets$Row"
  | 2 => .object "PressSheets$Row"
  | 3 => .object "PressSheets$Row"
  | _ => .int
def tC9 : u_T := fun k => match k with
  | 0 => ("PressSheets", "now", "LPressSheets$State;", true)
  | 1 => ("PressSheets", "kept", "LPressSheets$State;", true)
  | 2 => ("PressSheets", "imageTaken", "Z", false)
  | 3 => ("PressSheets", "trial", "LPressSheets$Job;", true)
  | 4 => ("PressSheets", "text", "LPressSheets$Text;", true)
  | _ => ("PressSheets", "tapes", "[LPressSheets$Tape;", true)
def yC9 : Nat → FieldType := fun k => match k with
  | 0 => .object "PressSheets$State"
  | 1 => .object "PressSheets$State"
  | 2 => .boolean
  | 3 => .object "PressSheets$Job"
  | 4 => .object "PressSheets$Text"
  | _ => .array (.object "PressSheets$Tape")
def tC10 : u_T := fun k => match k with
  | 0 => ("PressSheetsModel", "thrown", "I", false)
  | 1 => ("PressSheetsModel", "fold", "I", false)
  | 2 => ("PressSheetsModel", "pages", "I", false)
  | 3 => ("PressSheetsModel", "gather", "I", false)
  | 4 => ("PressSheetsModel", "turn", "I", false)
  | 5 => ("PressSheetsModel", "thick", "I", false)
  | 6 => ("PressSheetsModel", "copies", "I", false)
  | 7 => ("PressSheetsModel", "rowAt", "[I", true)
  | 8 => ("PressSheetsModel", "columnAt", "[I", true)
  | 9 => ("PressSheetsModel", "depth", "[I", true)
  | 10 => ("PressSheetsModel", "above", "[I", true)
  | 11 => ("PressSheetsModel", "heads", "[I", true)
  | 12 => ("PressSheetsModel", "leafAt", "[I", true)
  | 13 => ("PressSheetsModel", "sheetWith", "I", false)
  | 14 => ("PressSheetsModel", "numberWith", "I", false)
  | 15 => ("PressSheetsModel", "line", "[I", true)
  | 16 => ("PressSheetsModel", "waiting", "I", false)
  | 17 => ("PressSheetsModel", "printedAt", "[I", true)
  | 18 => ("PressSheetsModel", "done", "I", false)
  | 19 => ("PressSheetsModel", "planCell", "[I", true)
  | 20 => ("PressSheetsModel", "planPage", "[I", true)
  | 21 => ("PressSheetsModel", "planHead", "[I", true)
  | 22 => ("PressSheetsModel", "planned", "I", false)
  | 23 => ("PressSheetsModel", "faultPage", "I", false)
  | 24 => ("PressSheetsModel", "faultCode", "I", false)
  | 25 => ("PressSheetsModel", "faultCell", "I", false)
  | 26 => ("PressSheetsModel", "faultLast", "I", false)
  | 27 => ("PressSheetsModel", "seen", "[I", true)
  | 28 => ("PressSheetsModel", "seenMany", "I", false)
  | 29 => ("PressSheetsModel", "events", "[I", true)
  | 30 => ("PressSheetsModel", "eventMany", "I", false)
  | 31 => ("PressSheetsModel", "text", "[I", true)
  | 32 => ("PressSheetsModel", "texted", "I", false)
  | 33 => ("PressSheetsModel", "at", "I", false)
  | 34 => ("PressSheetsModel", "clauses", "[I", true)
  | 35 => ("PressSheetsModel", "kept", "[I", true)
  | 36 => ("PressSheetsModel", "hasImage", "Z", false)
  | 37 => ("PressSheetsModel", "numbers", "[I", true)
  | 38 => ("PressSheetsModel", "sorts", "[I", true)
  | 39 => ("PressSheetsModel", "sizes", "[I", true)
  | 40 => ("PressSheetsModel", "cells", "[J", true)
  | _ => ("PressSheetsModel", "carried", "[J", true)
def yC10 : Nat → FieldType := fun k => match k with
  | 0 => .int
  | 1 => .int
  | 2 => .int
  | 3 => .int
  | 4 => .int
  | 5 => .int
  | 6 => .int
  | 7 => .array .int
  | 8 => .array .int
  | 9 => .array .int
  | 10 => .array .int
  | 11 => .array .int
  | 12 => .array .int
  | 13 => .int
  | 14 => .int
  | 15 => .array .int
  | 16 => .int
  | 17 => .array .int
  | 18 => .int
  | 19 => .array .int
  | 20 => .array .int
  | 21 => .array .int
  | 22 => .int
  | 23 => .int
  | 24 => .int
  | 25 => .int
  | 26 => .int
  | 27 => .array .int
  | 28 => .int
  | 29 => .array .int
  | 30 => .int
  | 31 => .array .int
  | 32 => .int
  | 33 => .int
  | 34 => .array .int
  | 35 => .array .int
  | 36 => .boolean
  | 37 => .array .int
  | 38 => .array .int
  | 39 => .array .int
  | 40 => .array .long
  | _ => .array .long
def cls : List vw_C := [("PressSheets$Job", tC0, 11), ("PressSheets$Leaf", tC1, 5), ("PressSheets$Plan", tC2, 4), ("PressSheets$Press", tC3, 2), ("PressSheets$Row", tC4, 2), ("PressSheets$Spot", tC5, 6), ("PressSheets$State", tC6, 7), ("PressSheets$Tape", tC7, 3), ("PressSheets$Text", tC8, 5), ("PressSheets", tC9, 6), ("PressSheetsModel", tC10, 42)]
/-- the tables' words that any method may take with it -/
def gtb : List Cond := lw_tbl.filter goodWord
theorem gtb_in {w : Cond} (h : w ∈ gtb) : w ∈ lw_tbl := (List.mem_filter.mp h).1
theorem gtb_of {w : Cond} (h : w ∈ lw_tbl) (hg : goodWord w = true) : w ∈ gtb := List.mem_filter.mpr ⟨h, hg⟩
theorem gtb_good : ∀ w ∈ gtb, goodWord w = true := fun _ h => (List.mem_filter.mp h).2
/-- what the tables say of a class of ours -/
def CK (C : String) (T : u_T) (N : Nat) : Prop := (∀ w ∈ u_ws C T N, w ∈ gtb) ∧ (∀ a, a < N → ∀ b, b < N → a ≠ b → (T a).2.1 ≠ (T b).2.1) ∧ ∃ ty : Nat → FieldType, ∀ k, k < N → parseFieldDescriptor (T k).2.2.1 = some (ty k)
theorem cKa {C : String} {T : u_T} {N : Nat} (h : ∀ w ∈ u_ws C T N, w ∈ lw_tbl) (h2 : ∀ w ∈ u_ws C T N, goodWord w = true) : ∀ w ∈ u_ws C T N, w ∈ gtb := fun w hw => gtb_of (h w hw) (h2 w hw)
theorem lw_r {w : Cond} (i : Nat) (h : tables_1[i]? = some w) (hg : goodWord w = true := by decide) : w ∈ gtb := gtb_of (List.mem_append_right _ (List.mem_of_getElem? h)) hg
theorem lw_l {w : Cond} (i : Nat) (h : (k2_sels lw_privs)[i]? = some w) (hg : goodWord w = true := by decide) : w ∈ gtb := gtb_of (List.mem_append_left _ (List.mem_of_getElem? h)) hg
set_option maxRecDepth 20000 in
theorem cK0 : CK "PressSheets$Job" tC0 11 := ⟨cKa (by decide +kernel) (by decide +kernel), by decide +kernel, yC0, by decide +kernel⟩
set_option maxRecDepth 20000 in
theorem cK1 : CK "PressSheets$Leaf" tC1 5 := ⟨cKa (by decide +kernel) (by decide +kernel), by decide +kernel, yC1, by decide +kernel⟩
set_option maxRecDepth 20000 in
theorem cK2 : CK "PressSheets$Plan" tC2 4 := ⟨cKa (by decide +kernel) (by decide +kernel), by decide +kernel, yC2, by decide +kernel⟩
set_option maxRecDepth 20000 in
theorem cK3 : CK "PressSheets$Press" tC3 2 := ⟨cKa (by decide +kernel) (by decide +kernel), by decide +kernel, yC3, by decide +kernel⟩
set_option maxRecDepth 20000 in
theorem cK4 : CK "PressSheets$Row" tC4 2 := ⟨cKa (by decide +kernel) (by decide +kernel), by decide +kernel, yC4, by decide +kernel⟩
set_option maxRecDepth 20000 in
theorem cK5 : CK "PressSheets$Spot" tC5 6 := ⟨cKa (by decide +kernel) (by decide +kernel), by decide +kernel, yC5, by decide +kernel⟩
set_option maxRecDepth 20000 in
theorem cK6 : CK "PressSheets$State" tC6 7 := ⟨cKa (by decide +kernel) (by decide +kernel), by decide +kernel, yC6, by decide +kernel⟩
set_option maxRecDepth 20000 in
theorem cK7 : CK "PressSheets$Tape" tC7 3 := ⟨cKa (by decide +kernel) (by decide +kernel), by decide +kernel, yC7, by decide +kernel⟩
set_option maxRecDepth 20000 in
theorem cK8 : CK "PressSheets$Text" tC8 5 := ⟨cKa (by decide +kernel) (by decide +kernel), by decide +kernel, yC8, by decide +kernel⟩
set_option maxRecDepth 20000 in
theorem cK9 : CK "PressSheets" tC9 6 := ⟨cKa (by decide +kernel) (by decide +kernel), by decide +kernel, yC9, by decide +kernel⟩
set_option maxRecDepth 20000 in
theorem cK10 : CK "PressSheetsModel" tC10 42 := ⟨cKa (by decide +kernel) (by decide +kernel), by decide +kernel, yC10, by decide +kernel⟩
theorem cK : ∀ (ci : Nat) (C : String) (T : u_T) (N : Nat), cls[ci]? = some (C, T, N) → CK C T N := by
  intro ci C T N h
  match ci, h with
  | 0, h => cases h; exact cK0
  | 1, h => cases h; exact cK1
  | 2, h => cases h; exact cK2
  | 3, h => cases h; exact cK3
  | 4, h => cases h; exact cK4
  | 5, h => cases h; exact cK5
  | 6, h => cases h; exact cK6
  | 7, h => cases h; exact cK7
  | 8, h => cases h; exact cK8
  | 9, h => cases h; exact cK9
  | 10, h => cases h; exact cK10
  | _ + 11, h => cases h
