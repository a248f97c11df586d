/-! the program's tables: written by wip/whole/tools/gen.py out of the claim -/
def gTs : List Cond := lw_tbl.filter goodWord
theorem gTs_in {w : Cond} (h : w ∈ gTs) : w ∈ lw_tbl := (List.mem_filter.mp h).1
def gH (i : Nat) (w : Cond) : Bool := decide (lw_tbl[i]? = some w) && goodWord w
theorem gH_in {i : Nat} {w : Cond} (h : gH i w = true) : w ∈ gTs := by
  simp only [gH, Bool.and_eq_true, decide_eq_true_eq] at h
  exact List.mem_filter.mpr ⟨List.mem_of_getElem? h.1, h.2⟩
def gLk {α : Type} (k : Nat) : List (Nat × α) → Option α
  | [] => none
  | (j, v) :: r => bif Nat.beq k j then some v else gLk k r
theorem gLk_in {α : Type} {k : Nat} {v : α} : ∀ {l : List (Nat × α)}, gLk k l = some v → (k, v) ∈ l
  | [], h => by simp [gLk] at h
  | (j, w) :: r, h => by
    unfold gLk at h
    cases e : Nat.beq k j with
    | true =>
      rw [e] at h
      have h1 := Nat.eq_of_beq_eq_true e
      subst h1
      cases h
      exact List.mem_cons_self
    | false =>
      rw [e] at h
      exact List.mem_cons_of_mem _ (gLk_in h)
def gT0 : u_T := fun k => match k with
  | 0 => ("GlkPanes$Events", "ring", "[[I", true)
  | 1 => ("GlkPanes$Events", "taken", "[I", true)
  | 2 => ("GlkPanes$Events", "hasTaken", "Z", false)
  | 3 => ("GlkPanes$Events", "oldest", "I", false)
  | _ => ("GlkPanes$Events", "waiting", "I", false)
def gY0 : Nat → FieldType := fun k => match k with
  | 0 => (.array (.array .int))
  | 1 => (.array .int)
  | 2 => .boolean
  | 3 => .int
  | _ => .int
def gT1 : u_T := fun k => match k with
  | 0 => ("GlkPanes$Pane", "number", "I", true)
  | 1 => ("GlkPanes$Pane", "kind", "I", true)
  | 2 => ("GlkPanes$Pane", "parent", "LGlkPanes$Pair;", false)
  | 3 => ("GlkPanes$Pane", "x", "I", false)
  | 4 => ("GlkPanes$Pane", "y", "I", false)
  | 5 => ("GlkPanes$Pane", "columns", "I", false)
  | 6 => ("GlkPanes$Pane", "rows", "I", false)
  | 7 => ("GlkPanes$Pane", "style", "I", false)
  | 8 => ("GlkPanes$Pane", "link", "I", false)
  | 9 => ("GlkPanes$Pane", "written", "I", false)
  | 10 => ("GlkPanes$Pane", "echoes", "Z", false)
  | 11 => ("GlkPanes$Writing", "asked", "[Z", true)
  | 12 => ("GlkPanes$Writing", "line", "LGlkPanes$Line;", true)
  | 13 => ("GlkPanes$Grid", "cells", "[I", true)
  | 14 => ("GlkPanes$Grid", "cursorX", "I", false)
  | _ => ("GlkPanes$Grid", "cursorY", "I", false)
def gY1 : Nat → FieldType := fun k => match k with
  | 0 => .int
  | 1 => .int
  | 2 => (.object "GlkPanes$Pair")
  | 3 => .int
  | 4 => .int
  | 5 => .int
  | 6 => .int
  | 7 => .int
  | 8 => .int
  | 9 => .int
  | 10 => .boolean
  | 11 => (.array .boolean)
  | 12 => (.object "GlkPanes$Line")
  | 13 => (.array .int)
  | 14 => .int
  | _ => .int
def gT2 : u_T := fun k => match k with
  | 0 => ("GlkPanes$Line", "cells", "[I", true)
  | 1 => ("GlkPanes$Line", "limit", "I", false)
  | _ => ("GlkPanes$Line", "length", "I", false)
def gY2 : Nat → FieldType := fun k => match k with
  | 0 => (.array .int)
  | 1 => .int
  | _ => .int
def gT3 : u_T := fun k => match k with
  | 0 => ("GlkPanes$Pane", "number", "I", true)
  | 1 => ("GlkPanes$Pane", "kind", "I", true)
  | 2 => ("GlkPanes$Pane", "parent", "LGlkPanes$Pair;", false)
  | 3 => ("GlkPanes$Pane", "x", "I", false)
  | 4 => ("GlkPanes$Pane", "y", "I", false)
  | 5 => ("GlkPanes$Pane", "columns", "I", false)
  | 6 => ("GlkPanes$Pane", "rows", "I", false)
  | 7 => ("GlkPanes$Pane", "style", "I", false)
  | 8 => ("GlkPanes$Pane", "link", "I", false)
  | 9 => ("GlkPanes$Pane", "written", "I", false)
  | 10 => ("GlkPanes$Pane", "echoes", "Z", false)
  | 11 => ("GlkPanes$Pair", "method", "I", false)
  | 12 => ("GlkPanes$Pair", "size", "I", false)
  | 13 => ("GlkPanes$Pair", "key", "LGlkPanes$Pane;", false)
  | 14 => ("GlkPanes$Pair", "first", "LGlkPanes$Pane;", false)
  | _ => ("GlkPanes$Pair", "second", "LGlkPanes$Pane;", false)
def gY3 : Nat → FieldType := fun k => match k with
  | 0 => .int
  | 1 => .int
  | 2 => (.object "GlkPanes$Pair")
  | 3 => .int
  | 4 => .int
  | 5 => .int
  | 6 => .int
  | 7 => .int
  | 8 => .int
  | 9 => .int
  | 10 => .boolean
  | 11 => .int
  | 12 => .int
  | 13 => (.object "GlkPanes$Pane")
  | 14 => (.object "GlkPanes$Pane")
  | _ => (.object "GlkPanes$Pane")
def gT4 : u_T := fun k => match k with
  | 0 => ("GlkPanes$Pane", "number", "I", true)
  | 1 => ("GlkPanes$Pane", "kind", "I", true)
  | 2 => ("GlkPanes$Pane", "parent", "LGlkPanes$Pair;", false)
  | 3 => ("GlkPanes$Pane", "x", "I", false)
  | 4 => ("GlkPanes$Pane", "y", "I", false)
  | 5 => ("GlkPanes$Pane", "columns", "I", false)
  | 6 => ("GlkPanes$Pane", "rows", "I", false)
  | 7 => ("GlkPanes$Pane", "style", "I", false)
  | 8 => ("GlkPanes$Pane", "link", "I", false)
  | 9 => ("GlkPanes$Pane", "written", "I", false)
  | _ => ("GlkPanes$Pane", "echoes", "Z", false)
def gY4 : Nat → FieldType := fun k => match k with
  | 0 => .int
  | 1 => .int
  | 2 => (.object "GlkPanes$Pair")
  | 3 => .int
  | 4 => .int
  | 5 => .int
  | 6 => .int
  | 7 => .int
  | 8 => .int
  | 9 => .int
  | _ => .boolean
def gT5 : u_T := fun k => match k with
  | 0 => ("GlkPanes$Pane", "number", "I", true)
  | 1 => ("GlkPanes$Pane", "kind", "I", true)
  | 2 => ("GlkPanes$Pane", "parent", "LGlkPanes$Pair;", false)
  | 3 => ("GlkPanes$Pane", "x", "I", false)
  | 4 => ("GlkPanes$Pane", "y", "I", false)
  | 5 => ("GlkPanes$Pane", "columns", "I", false)
  | 6 => ("GlkPanes$Pane", "rows", "I", false)
  | 7 => ("GlkPanes$Pane", "style", "I", false)
  | 8 => ("GlkPanes$Pane", "link", "I", false)
  | 9 => ("GlkPanes$Pane", "written", "I", false)
  | 10 => ("GlkPanes$Pane", "echoes", "Z", false)
  | _ => ("GlkPanes$Picture", "shownNumber", "I", false)
def gY5 : Nat → FieldType := fun k => match k with
  | 0 => .int
  | 1 => .int
  | 2 => (.object "GlkPanes$Pair")
  | 3 => .int
  | 4 => .int
  | 5 => .int
  | 6 => .int
  | 7 => .int
  | 8 => .int
  | 9 => .int
  | 10 => .boolean
  | _ => .int
def gT6 : u_T := fun k => match k with
  | 0 => ("GlkPanes$Pane", "number", "I", true)
  | 1 => ("GlkPanes$Pane", "kind", "I", true)
  | 2 => ("GlkPanes$Pane", "parent", "LGlkPanes$Pair;", false)
  | 3 => ("GlkPanes$Pane", "x", "I", false)
  | 4 => ("GlkPanes$Pane", "y", "I", false)
  | 5 => ("GlkPanes$Pane", "columns", "I", false)
  | 6 => ("GlkPanes$Pane", "rows", "I", false)
  | 7 => ("GlkPanes$Pane", "style", "I", false)
  | 8 => ("GlkPanes$Pane", "link", "I", false)
  | 9 => ("GlkPanes$Pane", "written", "I", false)
  | 10 => ("GlkPanes$Pane", "echoes", "Z", false)
  | 11 => ("GlkPanes$Writing", "asked", "[Z", true)
  | 12 => ("GlkPanes$Writing", "line", "LGlkPanes$Line;", true)
  | 13 => ("GlkPanes$Text", "cells", "[I", true)
  | 14 => ("GlkPanes$Text", "kept", "I", false)
  | _ => ("GlkPanes$Text", "wrap", "LGlkPanes$Wrap;", true)
def gY6 : Nat → FieldType := fun k => match k with
  | 0 => .int
  | 1 => .int
  | 2 => (.object "GlkPanes$Pair")
  | 3 => .int
  | 4 => .int
  | 5 => .int
  | 6 => .int
  | 7 => .int
  | 8 => .int
  | 9 => .int
  | 10 => .boolean
  | 11 => (.array .boolean)
  | 12 => (.object "GlkPanes$Line")
  | 13 => (.array .int)
  | 14 => .int
  | _ => (.object "GlkPanes$Wrap")
def gT7 : u_T := fun k => match k with
  | 0 => ("GlkPanes$Tree", "panes", "[LGlkPanes$Pane;", true)
  | 1 => ("GlkPanes$Tree", "made", "I", false)
  | 2 => ("GlkPanes$Tree", "top", "LGlkPanes$Pane;", false)
  | 3 => ("GlkPanes$Tree", "width", "I", false)
  | _ => ("GlkPanes$Tree", "height", "I", false)
def gY7 : Nat → FieldType := fun k => match k with
  | 0 => (.array (.object "GlkPanes$Pane"))
  | 1 => .int
  | 2 => (.object "GlkPanes$Pane")
  | 3 => .int
  | _ => .int
def gT8 : u_T := fun k => match k with
  | 0 => ("GlkPanes$Wrap", "begins", "[I", true)
  | 1 => ("GlkPanes$Wrap", "ends", "[I", true)
  | _ => ("GlkPanes$Wrap", "lineCount", "I", false)
def gY8 : Nat → FieldType := fun k => match k with
  | 0 => (.array .int)
  | 1 => (.array .int)
  | _ => .int
def gT9 : u_T := fun k => match k with
  | 0 => ("GlkPanes", "tree", "LGlkPanes$Tree;", true)
  | _ => ("GlkPanes", "events", "LGlkPanes$Events;", true)
def gY9 : Nat → FieldType := fun k => match k with
  | 0 => (.object "GlkPanes$Tree")
  | _ => (.object "GlkPanes$Events")
def gT10 : u_T := fun k => match k with
  | 0 => ("GlkPanesModel", "screenW", "I", false)
  | 1 => ("GlkPanesModel", "screenH", "I", false)
  | 2 => ("GlkPanesModel", "all", "I", false)
  | 3 => ("GlkPanesModel", "root", "I", false)
  | 4 => ("GlkPanesModel", "isOpen", "[Z", true)
  | 5 => ("GlkPanesModel", "kind", "[I", true)
  | 6 => ("GlkPanesModel", "above", "[I", true)
  | 7 => ("GlkPanesModel", "first", "[I", true)
  | 8 => ("GlkPanesModel", "second", "[I", true)
  | 9 => ("GlkPanesModel", "method", "[I", true)
  | 10 => ("GlkPanesModel", "size", "[I", true)
  | 11 => ("GlkPanesModel", "key", "[I", true)
  | 12 => ("GlkPanesModel", "x", "[I", true)
  | 13 => ("GlkPanesModel", "y", "[I", true)
  | 14 => ("GlkPanesModel", "w", "[I", true)
  | 15 => ("GlkPanesModel", "h", "[I", true)
  | 16 => ("GlkPanesModel", "style", "[I", true)
  | 17 => ("GlkPanesModel", "link", "[I", true)
  | 18 => ("GlkPanesModel", "written", "[I", true)
  | 19 => ("GlkPanesModel", "isSilent", "[Z", true)
  | 20 => ("GlkPanesModel", "picture", "[I", true)
  | 21 => ("GlkPanesModel", "isAsked", "[Z", true)
  | 22 => ("GlkPanesModel", "limit", "[I", true)
  | 23 => ("GlkPanesModel", "typed", "[I", true)
  | 24 => ("GlkPanesModel", "typedSign", "[I", true)
  | 25 => ("GlkPanesModel", "signs", "[I", true)
  | 26 => ("GlkPanesModel", "sign", "[I", true)
  | 27 => ("GlkPanesModel", "signStyle", "[I", true)
  | 28 => ("GlkPanesModel", "signLink", "[I", true)
  | 29 => ("GlkPanesModel", "cellSign", "[I", true)
  | 30 => ("GlkPanesModel", "cellStyle", "[I", true)
  | 31 => ("GlkPanesModel", "cellLink", "[I", true)
  | 32 => ("GlkPanesModel", "gridW", "[I", true)
  | 33 => ("GlkPanesModel", "gridH", "[I", true)
  | 34 => ("GlkPanesModel", "cursorX", "[I", true)
  | 35 => ("GlkPanesModel", "cursorY", "[I", true)
  | 36 => ("GlkPanesModel", "pile", "[I", true)
  | 37 => ("GlkPanesModel", "was", "[I", true)
  | 38 => ("GlkPanesModel", "lines", "I", false)
  | 39 => ("GlkPanesModel", "lineFrom", "[I", true)
  | 40 => ("GlkPanesModel", "lineSize", "[I", true)
  | 41 => ("GlkPanesModel", "events", "I", false)
  | 42 => ("GlkPanesModel", "isTaken", "Z", false)
  | _ => ("GlkPanesModel", "told", "[I", true)
def gY10 : Nat → FieldType := fun k => match k with
  | 0 => .int
  | 1 => .int
  | 2 => .int
  | 3 => .int
  | 4 => (.array .boolean)
  | 5 => (.array .int)
  | 6 => (.array .int)
  | 7 => (.array .int)
  | 8 => (.array .int)
  | 9 => (.array .int)
  | 10 => (.array .int)
  | 11 => (.array .int)
  | 12 => (.array .int)
  | 13 => (.array .int)
  | 14 => (.array .int)
  | 15 => (.array .int)
  | 16 => (.array .int)
  | 17 => (.array .int)
  | 18 => (.array .int)
  | 19 => (.array .boolean)
  | 20 => (.array .int)
  | 21 => (.array .boolean)
  | 22 => (.array .int)
  | 23 => (.array .int)
  | 24 => (.array .int)
  | 25 => (.array .int)
  | 26 => (.array .int)
  | 27 => (.array .int)
  | 28 => (.array .int)
  | 29 => (.array .int)
  | 30 => (.array .int)
  | 31 => (.array .int)
  | 32 => (.array .int)
  | 33 => (.array .int)
  | 34 => (.array .int)
  | 35 => (.array .int)
  | 36 => (.array .int)
  | 37 => (.array .int)
  | 38 => .int
  | 39 => (.array .int)
  | 40 => (.array .int)
  | 41 => .int
  | 42 => .boolean
  | _ => (.array .int)
abbrev gC : List vw_C := [("GlkPanes$Events", gT0, 5), ("GlkPanes$Grid", gT1, 16), ("GlkPanes$Line", gT2, 3), ("GlkPanes$Pair", gT3, 16), ("GlkPanes$Pane", gT4, 11), ("GlkPanes$Picture", gT5, 12), ("GlkPanes$Text", gT6, 16), ("GlkPanes$Tree", gT7, 5), ("GlkPanes$Wrap", gT8, 3), ("GlkPanes", gT9, 2), ("GlkPanesModel", gT10, 44)]
def gTy (tg k : Nat) : FieldType := match tg with
  | 0 => gY0 k
  | 1 => gY1 k
  | 2 => gY2 k
  | 3 => gY3 k
  | 4 => gY4 k
  | 5 => gY5 k
  | 6 => gY6 k
  | 7 => gY7 k
  | 8 => gY8 k
  | 9 => gY9 k
  | _ => gY10 k
def gCn (o : Nat) : String := match o with
  | 0 => "GlkPanes$Events"
  | 1 => "GlkPanes$Grid"
  | 2 => "GlkPanes$Line"
  | 3 => "GlkPanes$Pair"
  | 4 => "GlkPanes$Pane"
  | 5 => "GlkPanes$Picture"
  | 6 => "GlkPanes$Text"
  | 7 => "GlkPanes$Tree"
  | 8 => "GlkPanes$Wrap"
  | 9 => "GlkPanes"
  | 10 => "GlkPanesModel"
  | 11 => "GlkPanes$Writing"
  | 12 => "java/lang/Math"
  | 13 => "java/util/Arrays"
  | _ => "GlkPanesLaw"
abbrev gMeth : Type := MethodName × ByteArray × Nat × Option FieldType × Nat × Nat × Nat × List (Nat × Instr × Nat)
abbrev gMeth.N (y : gMeth) : MethodName := y.1
abbrev gMeth.C (y : gMeth) : ByteArray := y.2.1
abbrev gMeth.L (y : gMeth) : Nat := y.2.2.1
abbrev gMeth.R (y : gMeth) : Option FieldType := y.2.2.2.1
abbrev gMeth.O (y : gMeth) : Nat := y.2.2.2.2.1
abbrev gMeth.mc (y : gMeth) : Nat := y.2.2.2.2.2.1
abbrev gMeth.ms (y : gMeth) : Nat := y.2.2.2.2.2.2.1
abbrev gMeth.T (y : gMeth) : List (Nat × Instr × Nat) := y.2.2.2.2.2.2.2
