/-! names, field tables, the static graph: printed by wip/whole/gen/part02.py -/
def gR0 : String := "TermDesk"
def gT0 : u_T := fun k => match k with
  | 0 => ("TermDesk", "clerk", "LTermDesk$Clerk;", true)
  | 1 => ("TermDesk", "text", "LTermDesk$Text;", true)
  | 2 => ("TermDesk", "board", "LTermDesk$Board;", true)
  | 3 => ("TermDesk", "ranking", "LTermDesk$Ranking;", true)
  | 4 => ("TermDesk", "strip", "LTermDesk$Strip;", true)
  | 5 => ("TermDesk", "doneFault", "I", false)
  | 6 => ("TermDesk", "donePlace", "I", false)
  | _ => ("TermDesk", "ranked", "Z", false)
def gY0 : Nat → FieldType := fun k => match k with
  | 0 => .object "TermDesk$Clerk"
  | 1 => .object "TermDesk$Text"
  | 2 => .object "TermDesk$Board"
  | 3 => .object "TermDesk$Ranking"
  | 4 => .object "TermDesk$Strip"
  | 5 => .int
  | 6 => .int
  | _ => .boolean
theorem gnm0 : ∀ a, a < 8 → ∀ b, b < 8 → a ≠ b → (gT0 a).2.1 ≠ (gT0 b).2.1 := by decide +kernel
theorem gty0 : ∀ k, k < 8 → parseFieldDescriptor (gT0 k).2.2.1 = some (gY0 k) := by decide +kernel
def gR1 : String := "TermDesk$Clerk"
def gT1 : u_T := fun k => match k with
  | 0 => ("TermDesk$Clerk", "text", "LTermDesk$Text;", true)
  | 1 => ("TermDesk$Clerk", "board", "LTermDesk$Board;", true)
  | 2 => ("TermDesk$Clerk", "faultNumber", "I", false)
  | 3 => ("TermDesk$Clerk", "faultPlace", "I", false)
  | 4 => ("TermDesk$Clerk", "newFront", "J", false)
  | 5 => ("TermDesk$Clerk", "newBack", "J", false)
  | 6 => ("TermDesk$Clerk", "before", "I", false)
  | _ => ("TermDesk$Clerk", "latest", "I", false)
def gY1 : Nat → FieldType := fun k => match k with
  | 0 => .object "TermDesk$Text"
  | 1 => .object "TermDesk$Board"
  | 2 => .int
  | 3 => .int
  | 4 => .long
  | 5 => .long
  | 6 => .int
  | _ => .int
theorem gnm1 : ∀ a, a < 8 → ∀ b, b < 8 → a ≠ b → (gT1 a).2.1 ≠ (gT1 b).2.1 := by decide +kernel
theorem gty1 : ∀ k, k < 8 → parseFieldDescriptor (gT1 k).2.2.1 = some (gY1 k) := by decide +kernel
def gR2 : String := "TermDesk$Text"
def gT2 : u_T := fun k => match k with
  | 0 => ("TermDesk$Text", "bytes", "[B", true)
  | 1 => ("TermDesk$Text", "length", "I", false)
  | 2 => ("TermDesk$Text", "lineFrom", "I", false)
  | 3 => ("TermDesk$Text", "lineEnd", "I", false)
  | 4 => ("TermDesk$Text", "wordFrom", "I", false)
  | _ => ("TermDesk$Text", "wordEnd", "I", false)
def gY2 : Nat → FieldType := fun k => match k with
  | 0 => .array .byte
  | 1 => .int
  | 2 => .int
  | 3 => .int
  | 4 => .int
  | _ => .int
theorem gnm2 : ∀ a, a < 6 → ∀ b, b < 6 → a ≠ b → (gT2 a).2.1 ≠ (gT2 b).2.1 := by decide +kernel
theorem gty2 : ∀ k, k < 6 → parseFieldDescriptor (gT2 k).2.2.1 = some (gY2 k) := by decide +kernel
def gR3 : String := "TermDesk$Board"
def gT3 : u_T := fun k => match k with
  | 0 => ("TermDesk$Board", "termNames", "LTermDesk$NameList;", true)
  | 1 => ("TermDesk$Board", "geneNames", "LTermDesk$NameList;", true)
  | 2 => ("TermDesk$Board", "parents", "LTermDesk$Grid;", true)
  | 3 => ("TermDesk$Board", "above", "LTermDesk$Grid;", true)
  | 4 => ("TermDesk$Board", "noted", "LTermDesk$Grid;", true)
  | 5 => ("TermDesk$Board", "at", "LTermDesk$Grid;", true)
  | 6 => ("TermDesk$Board", "old", "LTermDesk$Grid;", true)
  | 7 => ("TermDesk$Board", "study", "LTermDesk$Grid;", true)
  | 8 => ("TermDesk$Board", "steps", "LTermDesk$Grid;", true)
  | 9 => ("TermDesk$Board", "terms", "I", false)
  | 10 => ("TermDesk$Board", "links", "I", false)
  | _ => ("TermDesk$Board", "notes", "I", false)
def gY3 : Nat → FieldType := fun k => match k with
  | 0 => .object "TermDesk$NameList"
  | 1 => .object "TermDesk$NameList"
  | 2 => .object "TermDesk$Grid"
  | 3 => .object "TermDesk$Grid"
  | 4 => .object "TermDesk$Grid"
  | 5 => .object "TermDesk$Grid"
  | 6 => .object "TermDesk$Grid"
  | 7 => .object "TermDesk$Grid"
  | 8 => .object "TermDesk$Grid"
  | 9 => .int
  | 10 => .int
  | _ => .int
theorem gnm3 : ∀ a, a < 12 → ∀ b, b < 12 → a ≠ b → (gT3 a).2.1 ≠ (gT3 b).2.1 := by decide +kernel
theorem gty3 : ∀ k, k < 12 → parseFieldDescriptor (gT3 k).2.2.1 = some (gY3 k) := by decide +kernel
def gR4 : String := "TermDesk$NameList"
def gT4 : u_T := fun k => match k with
  | 0 => ("TermDesk$NameList", "front", "[J", true)
  | 1 => ("TermDesk$NameList", "back", "[J", true)
  | 2 => ("TermDesk$NameList", "owner", "[I", true)
  | _ => ("TermDesk$NameList", "count", "I", false)
def gY4 : Nat → FieldType := fun k => match k with
  | 0 => .array .long
  | 1 => .array .long
  | 2 => .array .int
  | _ => .int
theorem gnm4 : ∀ a, a < 4 → ∀ b, b < 4 → a ≠ b → (gT4 a).2.1 ≠ (gT4 b).2.1 := by decide +kernel
theorem gty4 : ∀ k, k < 4 → parseFieldDescriptor (gT4 k).2.2.1 = some (gY4 k) := by decide +kernel
def gR5 : String := "TermDesk$Grid"
def gT5 : u_T := fun k => match k with
  | _ => ("TermDesk$Grid", "bits", "[J", true)
def gY5 : Nat → FieldType := fun k => match k with
  | _ => .array .long
theorem gnm5 : ∀ a, a < 1 → ∀ b, b < 1 → a ≠ b → (gT5 a).2.1 ≠ (gT5 b).2.1 := by decide +kernel
theorem gty5 : ∀ k, k < 1 → parseFieldDescriptor (gT5 k).2.2.1 = some (gY5 k) := by decide +kernel
def gR6 : String := "TermDesk$Ranking"
def gT6 : u_T := fun k => match k with
  | 0 => ("TermDesk$Ranking", "termOf", "[I", true)
  | 1 => ("TermDesk$Ranking", "hits", "[I", true)
  | 2 => ("TermDesk$Ranking", "sizes", "[I", true)
  | 3 => ("TermDesk$Ranking", "upper", "[[I", true)
  | 4 => ("TermDesk$Ranking", "divisor", "[I", true)
  | 5 => ("TermDesk$Ranking", "all", "[I", true)
  | 6 => ("TermDesk$Ranking", "byChance", "[I", true)
  | 7 => ("TermDesk$Ranking", "rowOrder", "[I", true)
  | 8 => ("TermDesk$Ranking", "left", "[I", true)
  | 9 => ("TermDesk$Ranking", "right", "[I", true)
  | 10 => ("TermDesk$Ranking", "genes", "I", false)
  | 11 => ("TermDesk$Ranking", "studied", "I", false)
  | 12 => ("TermDesk$Ranking", "candidates", "I", false)
  | _ => ("TermDesk$Ranking", "rows", "I", false)
def gY6 : Nat → FieldType := fun k => match k with
  | 0 => .array .int
  | 1 => .array .int
  | 2 => .array .int
  | 3 => .array (.array .int)
  | 4 => .array .int
  | 5 => .array .int
  | 6 => .array .int
  | 7 => .array .int
  | 8 => .array .int
  | 9 => .array .int
  | 10 => .int
  | 11 => .int
  | 12 => .int
  | _ => .int
theorem gnm6 : ∀ a, a < 14 → ∀ b, b < 14 → a ≠ b → (gT6 a).2.1 ≠ (gT6 b).2.1 := by decide +kernel
theorem gty6 : ∀ k, k < 14 → parseFieldDescriptor (gT6 k).2.2.1 = some (gY6 k) := by decide +kernel
def gR7 : String := "TermDesk$Strip"
def gT7 : u_T := fun k => match k with
  | 0 => ("TermDesk$Strip", "characters", "[C", true)
  | 1 => ("TermDesk$Strip", "above", "[I", true)
  | 2 => ("TermDesk$Strip", "below", "[I", true)
  | _ => ("TermDesk$Strip", "length", "I", false)
def gY7 : Nat → FieldType := fun k => match k with
  | 0 => .array .char
  | 1 => .array .int
  | 2 => .array .int
  | _ => .int
theorem gnm7 : ∀ a, a < 4 → ∀ b, b < 4 → a ≠ b → (gT7 a).2.1 ≠ (gT7 b).2.1 := by decide +kernel
theorem gty7 : ∀ k, k < 4 → parseFieldDescriptor (gT7 k).2.2.1 = some (gY7 k) := by decide +kernel
def gR8 : String := "TermDeskModel"
def gT8 : u_T := fun k => match k with
  | 0 => ("TermDeskModel", "text", "[B", true)
  | 1 => ("TermDeskModel", "length", "I", false)
  | 2 => ("TermDeskModel", "fault", "I", false)
  | 3 => ("TermDeskModel", "place", "I", false)
  | 4 => ("TermDeskModel", "names", "[B", true)
  | 5 => ("TermDeskModel", "nameSizes", "[I", true)
  | 6 => ("TermDeskModel", "named", "[I", true)
  | 7 => ("TermDeskModel", "nameCount", "I", false)
  | 8 => ("TermDeskModel", "geneNames", "[B", true)
  | 9 => ("TermDeskModel", "geneSizes", "[I", true)
  | 10 => ("TermDeskModel", "genes", "I", false)
  | 11 => ("TermDeskModel", "terms", "I", false)
  | 12 => ("TermDeskModel", "old", "[I", true)
  | 13 => ("TermDeskModel", "linked", "[Z", true)
  | 14 => ("TermDeskModel", "above", "[Z", true)
  | 15 => ("TermDeskModel", "noted", "[Z", true)
  | 16 => ("TermDeskModel", "at", "[Z", true)
  | 17 => ("TermDeskModel", "known", "Z", false)
  | 18 => ("TermDeskModel", "links", "I", false)
  | 19 => ("TermDeskModel", "notes", "I", false)
  | 20 => ("TermDeskModel", "studied", "[Z", true)
  | 21 => ("TermDeskModel", "study", "I", false)
  | 22 => ("TermDeskModel", "wordAt", "I", false)
  | 23 => ("TermDeskModel", "wordEnd", "I", false)
  | 24 => ("TermDeskModel", "lineEnd", "I", false)
  | 25 => ("TermDeskModel", "termFound", "I", false)
  | 26 => ("TermDeskModel", "d", "[I", true)
  | 27 => ("TermDeskModel", "n", "[I", true)
  | 28 => ("TermDeskModel", "rest", "I", false)
  | 29 => ("TermDeskModel", "chances", "[I", true)
  | 30 => ("TermDeskModel", "candidates", "[I", true)
  | 31 => ("TermDeskModel", "many", "I", false)
  | 32 => ("TermDeskModel", "tops", "[I", true)
  | 33 => ("TermDeskModel", "parts", "[I", true)
  | 34 => ("TermDeskModel", "place0", "[I", true)
  | 35 => ("TermDeskModel", "rows", "[I", true)
  | 36 => ("TermDeskModel", "rowCount", "I", false)
  | 37 => ("TermDeskModel", "bottom", "[I", true)
  | 38 => ("TermDeskModel", "printed", "[I", true)
  | 39 => ("TermDeskModel", "printedSize", "I", false)
  | 40 => ("TermDeskModel", "ways", "[I", true)
  | _ => ("TermDeskModel", "thrown", "I", false)
def gY8 : Nat → FieldType := fun k => match k with
  | 0 => .array .byte
  | 1 => .int
  | 2 => .int
  | 3 => .int
  | 4 => .array .byte
  | 5 => .array .int
  | 6 => .array .int
  | 7 => .int
  | 8 => .array .byte
  | 9 => .array .int
  | 10 => .int
  | 11 => .int
  | 12 => .array .int
  | 13 => .array .boolean
  | 14 => .array .boolean
  | 15 => .array .boolean
  | 16 => .array .boolean
  | 17 => .boolean
  | 18 => .int
  | 19 => .int
  | 20 => .array .boolean
  | 21 => .int
  | 22 => .int
  | 23 => .int
  | 24 => .int
  | 25 => .int
  | 26 => .array .int
  | 27 => .array .int
  | 28 => .int
  | 29 => .array .int
  | 30 => .array .int
  | 31 => .int
  | 32 => .array .int
  | 33 => .array .int
  | 34 => .array .int
  | 35 => .array .int
  | 36 => .int
  | 37 => .array .int
  | 38 => .array .int
  | 39 => .int
  | 40 => .array .int
  | _ => .int
theorem gnm8 : ∀ a, a < 42 → ∀ b, b < 42 → a ≠ b → (gT8 a).2.1 ≠ (gT8 b).2.1 := by decide +kernel
theorem gty8 : ∀ k, k < 42 → parseFieldDescriptor (gT8 k).2.2.1 = some (gY8 k) := by decide +kernel
abbrev gCl : List vw_C := [(gR0, gT0, 8), (gR1, gT1, 8), (gR2, gT2, 6), (gR3, gT3, 12), (gR4, gT4, 4), (gR5, gT5, 1), (gR6, gT6, 14), (gR7, gT7, 4), (gR8, gT8, 42)]
/-- kinds of fields: 0 an int, 1 a long, 2 a reference -/
def gFkl : List (List Nat) := [[2, 2, 2, 2, 2, 0, 0, 0], [2, 2, 0, 0, 1, 1, 0, 0], [2, 0, 0, 0, 0, 0], [2, 2, 2, 2, 2, 2, 2, 2, 2, 0, 0, 0], [2, 2, 2, 0], [2], [2, 2, 2, 2, 2, 2, 2, 2, 2, 2, 0, 0, 0, 0], [2, 2, 2, 0], [2, 0, 0, 0, 2, 2, 2, 0, 2, 2, 0, 0, 2, 2, 2, 2, 2, 0, 0, 0, 2, 0, 0, 0, 0, 0, 2, 2, 0, 2, 2, 0, 2, 2, 2, 2, 0, 2, 2, 0, 2, 0]]
def gFk (ci k : Nat) : Nat := (gFkl.getD ci []).getD k 9
def gNfl : List Nat := [8, 8, 6, 12, 4, 1, 14, 4, 42]
def gNf (ci : Nat) : Nat := gNfl.getD ci 0
def gKl : List Nat := [0, 1, 2, 20, 3, 4, 24, 24, 22, 4, 24, 24, 22, 5, 24, 5, 24, 5, 24, 5, 24, 5, 24, 5, 24, 5, 24, 6, 22, 22, 22, 25, 22, 22, 22, 22, 22, 22, 7, 21, 22, 22, 8, 20, 20, 22, 22, 20, 22, 22, 23, 23, 23, 23, 23, 22, 22, 22, 22, 22, 22, 22, 22, 22, 22, 22, 24]
def gLenl : List Nat := [0, 0, 0, 40000, 0, 0, 300, 300, 300, 0, 200, 200, 200, 0, 800, 0, 800, 0, 800, 0, 800, 0, 4, 0, 4, 0, 8, 0, 200, 200, 200, 800, 800, 8, 200, 200, 8, 8, 0, 160, 8, 8, 0, 40000, 3600, 300, 300, 2400, 200, 200, 40000, 40000, 40000, 40000, 200, 384, 8, 4000, 200, 16000, 800, 200, 1000, 20, 400, 200, 1]
def gFRl : List (List (Option Nat)) := [[some 1, some 2, some 4, some 27, some 38, none, none, none], [some 2, some 4, none, none, none, none, none, none], [some 3, none, none, none, none, none], [], [some 5, some 9, some 13, some 15, some 17, some 19, some 21, some 23, some 25, none, none, none], [some 6, some 7, some 8, none], [], [], [], [some 10, some 11, some 12, none], [], [], [], [some 14], [], [some 16], [], [some 18], [], [some 20], [], [some 22], [], [some 24], [], [some 26], [], [some 28, some 29, some 30, some 31, some 32, some 33, some 34, some 35, some 36, some 37, none, none, none, none], [], [], [], [], [], [], [], [], [], [], [some 39, some 40, some 41, none], [], [], [], [some 43, none, none, none, some 44, some 45, some 46, none, some 47, some 48, none, none, some 49, some 50, some 51, some 52, some 53, none, none, none, some 54, none, none, none, none, none, some 55, some 56, none, some 57, some 58, none, some 59, some 60, some 61, some 62, none, some 63, some 64, none, some 65, none], [], [], [], [], [], [], [], [], [], [], [], [], [], [], [], [], [], [], [], [], [], [], [], []]
/-- the number of cells of the graph: 67 by name, then the 800 rows of 'upper' -/
def gN : Nat := 867
def gK (a : Nat) : Nat := if a < 67 then gKl.getD a 99 else if a < 867 then 22 else 99
def gLen (a : Nat) : Nat := if a < 67 then gLenl.getD a 0 else 8
def gFR (a k : Nat) : Option Nat := (gFRl.getD a []).getD k none
def gAR (a i : Nat) : Option Nat := if a = 31 then (if i < 800 then some (67 + i) else none) else none
def gWs : List Cond := lw_tbl.filter goodWord
def gNest : Cond → Bool
  | .fieldLinkNest _ _ _ _ _ _ => true
  | .methodLinkNest _ _ _ _ => true
  | _ => false
def gNs : List Cond := lw_tbl.filter gNest
theorem gWs_at (i : Nat) {w : Cond} (h : lw_tbl[i]? = some w) (hg : goodWord w = true) : w ∈ gWs := List.mem_filter.mpr ⟨List.mem_of_getElem? h, hg⟩
theorem gNs_at (i : Nat) {w : Cond} (h : lw_tbl[i]? = some w) (hg : gNest w = true) : w ∈ gNs := List.mem_filter.mpr ⟨List.mem_of_getElem? h, hg⟩
set_option maxRecDepth 100000 in
theorem gin0 : ∀ w ∈ u_ws gR0 gT0 8, w ∈ gWs := by decide +kernel
set_option maxRecDepth 100000 in
theorem gin1 : ∀ w ∈ u_ws gR1 gT1 8, w ∈ gWs := by decide +kernel
set_option maxRecDepth 100000 in
theorem gin2 : ∀ w ∈ u_ws gR2 gT2 6, w ∈ gWs := by decide +kernel
set_option maxRecDepth 100000 in
theorem gin3 : ∀ w ∈ u_ws gR3 gT3 12, w ∈ gWs := by decide +kernel
set_option maxRecDepth 100000 in
theorem gin4 : ∀ w ∈ u_ws gR4 gT4 4, w ∈ gWs := by decide +kernel
set_option maxRecDepth 100000 in
theorem gin5 : ∀ w ∈ u_ws gR5 gT5 1, w ∈ gWs := by decide +kernel
set_option maxRecDepth 100000 in
theorem gin6 : ∀ w ∈ u_ws gR6 gT6 14, w ∈ gWs := by decide +kernel
set_option maxRecDepth 100000 in
theorem gin7 : ∀ w ∈ u_ws gR7 gT7 4, w ∈ gWs := by decide +kernel
set_option maxRecDepth 100000 in
theorem gin8 : ∀ w ∈ u_ws gR8 gT8 42, w ∈ gWs := by decide +kernel
/-- what the tables say of the field k of the class ci, asked in the class own by the entry idx -/
def gLk (own : String) (idx ci k : Nat) : Prop := ∃ (C : String) (T : u_T) (N : Nat) (Y : Nat → FieldType), gCl[ci]? = some (C, T, N) ∧ k < N ∧ gNf ci = N ∧ (∀ w ∈ u_ws C T N, w ∈ gWs) ∧ (T k).1 = C ∧ (∀ k, k < N → parseFieldDescriptor (T k).2.2.1 = some (Y k)) ∧ (∀ a, a < N → ∀ b, b < N → a ≠ b → (T a).2.1 ≠ (T b).2.1) ∧ ((Cond.fieldLink own idx C (T k).2.1 (T k).2.2.1) ∈ gWs ∨ ∃ host, (Cond.fieldLinkNest own idx C (T k).2.1 (T k).2.2.1 host) ∈ gNs)
theorem gl_Text_10 : gLk "TermDesk$Text" 10 2 0 := ⟨gR2, gT2, 6, gY2, rfl, by decide, rfl, gin2, rfl, gty2, gnm2, Or.inl (gWs_at 163 (by decide +kernel) (by decide +kernel))⟩
theorem gl_Text_16 : gLk "TermDesk$Text" 16 2 1 := ⟨gR2, gT2, 6, gY2, rfl, by decide, rfl, gin2, rfl, gty2, gnm2, Or.inl (gWs_at 164 (by decide +kernel) (by decide +kernel))⟩
theorem gl_Desk_51 : gLk "TermDesk" 51 2 1 := ⟨gR2, gT2, 6, gY2, rfl, by decide, rfl, gin2, rfl, gty2, gnm2, Or.inr ⟨"TermDesk", gNs_at 165 (by decide +kernel) (by decide +kernel)⟩⟩
theorem gl_Clerk_45 : gLk "TermDesk$Clerk" 45 2 1 := ⟨gR2, gT2, 6, gY2, rfl, by decide, rfl, gin2, rfl, gty2, gnm2, Or.inr ⟨"TermDesk", gNs_at 166 (by decide +kernel) (by decide +kernel)⟩⟩
theorem gl_Text_20 : gLk "TermDesk$Text" 20 2 2 := ⟨gR2, gT2, 6, gY2, rfl, by decide, rfl, gin2, rfl, gty2, gnm2, Or.inl (gWs_at 167 (by decide +kernel) (by decide +kernel))⟩
theorem gl_Clerk_60 : gLk "TermDesk$Clerk" 60 2 2 := ⟨gR2, gT2, 6, gY2, rfl, by decide, rfl, gin2, rfl, gty2, gnm2, Or.inr ⟨"TermDesk", gNs_at 168 (by decide +kernel) (by decide +kernel)⟩⟩
theorem gl_Text_23 : gLk "TermDesk$Text" 23 2 3 := ⟨gR2, gT2, 6, gY2, rfl, by decide, rfl, gin2, rfl, gty2, gnm2, Or.inl (gWs_at 169 (by decide +kernel) (by decide +kernel))⟩
theorem gl_Clerk_53 : gLk "TermDesk$Clerk" 53 2 3 := ⟨gR2, gT2, 6, gY2, rfl, by decide, rfl, gin2, rfl, gty2, gnm2, Or.inr ⟨"TermDesk", gNs_at 170 (by decide +kernel) (by decide +kernel)⟩⟩
theorem gl_Text_26 : gLk "TermDesk$Text" 26 2 4 := ⟨gR2, gT2, 6, gY2, rfl, by decide, rfl, gin2, rfl, gty2, gnm2, Or.inl (gWs_at 171 (by decide +kernel) (by decide +kernel))⟩
theorem gl_Clerk_63 : gLk "TermDesk$Clerk" 63 2 4 := ⟨gR2, gT2, 6, gY2, rfl, by decide, rfl, gin2, rfl, gty2, gnm2, Or.inr ⟨"TermDesk", gNs_at 172 (by decide +kernel) (by decide +kernel)⟩⟩
theorem gl_Text_29 : gLk "TermDesk$Text" 29 2 5 := ⟨gR2, gT2, 6, gY2, rfl, by decide, rfl, gin2, rfl, gty2, gnm2, Or.inl (gWs_at 173 (by decide +kernel) (by decide +kernel))⟩
theorem gl_NameList_15 : gLk "TermDesk$NameList" 15 4 0 := ⟨gR4, gT4, 4, gY4, rfl, by decide, rfl, gin4, rfl, gty4, gnm4, Or.inl (gWs_at 200 (by decide +kernel) (by decide +kernel))⟩
theorem gl_NameList_19 : gLk "TermDesk$NameList" 19 4 1 := ⟨gR4, gT4, 4, gY4, rfl, by decide, rfl, gin4, rfl, gty4, gnm4, Or.inl (gWs_at 201 (by decide +kernel) (by decide +kernel))⟩
theorem gl_NameList_22 : gLk "TermDesk$NameList" 22 4 2 := ⟨gR4, gT4, 4, gY4, rfl, by decide, rfl, gin4, rfl, gty4, gnm4, Or.inl (gWs_at 202 (by decide +kernel) (by decide +kernel))⟩
theorem gl_NameList_9 : gLk "TermDesk$NameList" 9 4 3 := ⟨gR4, gT4, 4, gY4, rfl, by decide, rfl, gin4, rfl, gty4, gnm4, Or.inl (gWs_at 203 (by decide +kernel) (by decide +kernel))⟩
theorem gl_Board_58 : gLk "TermDesk$Board" 58 4 3 := ⟨gR4, gT4, 4, gY4, rfl, by decide, rfl, gin4, rfl, gty4, gnm4, Or.inr ⟨"TermDesk", gNs_at 204 (by decide +kernel) (by decide +kernel)⟩⟩
theorem gl_Desk_112 : gLk "TermDesk" 112 4 3 := ⟨gR4, gT4, 4, gY4, rfl, by decide, rfl, gin4, rfl, gty4, gnm4, Or.inr ⟨"TermDesk", gNs_at 205 (by decide +kernel) (by decide +kernel)⟩⟩
theorem gl_Grid_9 : gLk "TermDesk$Grid" 9 5 0 := ⟨gR5, gT5, 1, gY5, rfl, by decide, rfl, gin5, rfl, gty5, gnm5, Or.inl (gWs_at 223 (by decide +kernel) (by decide +kernel))⟩
theorem gl_Board_14 : gLk "TermDesk$Board" 14 3 0 := ⟨gR3, gT3, 12, gY3, rfl, by decide, rfl, gin3, rfl, gty3, gnm3, Or.inl (gWs_at 227 (by decide +kernel) (by decide +kernel))⟩
theorem gl_Clerk_116 : gLk "TermDesk$Clerk" 116 3 0 := ⟨gR3, gT3, 12, gY3, rfl, by decide, rfl, gin3, rfl, gty3, gnm3, Or.inr ⟨"TermDesk", gNs_at 228 (by decide +kernel) (by decide +kernel)⟩⟩
theorem gl_Desk_108 : gLk "TermDesk" 108 3 0 := ⟨gR3, gT3, 12, gY3, rfl, by decide, rfl, gin3, rfl, gty3, gnm3, Or.inr ⟨"TermDesk", gNs_at 229 (by decide +kernel) (by decide +kernel)⟩⟩
theorem gl_Board_20 : gLk "TermDesk$Board" 20 3 1 := ⟨gR3, gT3, 12, gY3, rfl, by decide, rfl, gin3, rfl, gty3, gnm3, Or.inl (gWs_at 230 (by decide +kernel) (by decide +kernel))⟩
theorem gl_Clerk_112 : gLk "TermDesk$Clerk" 112 3 1 := ⟨gR3, gT3, 12, gY3, rfl, by decide, rfl, gin3, rfl, gty3, gnm3, Or.inr ⟨"TermDesk", gNs_at 231 (by decide +kernel) (by decide +kernel)⟩⟩
theorem gl_Desk_162 : gLk "TermDesk" 162 3 1 := ⟨gR3, gT3, 12, gY3, rfl, by decide, rfl, gin3, rfl, gty3, gnm3, Or.inr ⟨"TermDesk", gNs_at 232 (by decide +kernel) (by decide +kernel)⟩⟩
theorem gl_Board_26 : gLk "TermDesk$Board" 26 3 2 := ⟨gR3, gT3, 12, gY3, rfl, by decide, rfl, gin3, rfl, gty3, gnm3, Or.inl (gWs_at 233 (by decide +kernel) (by decide +kernel))⟩
theorem gl_Desk_128 : gLk "TermDesk" 128 3 2 := ⟨gR3, gT3, 12, gY3, rfl, by decide, rfl, gin3, rfl, gty3, gnm3, Or.inr ⟨"TermDesk", gNs_at 234 (by decide +kernel) (by decide +kernel)⟩⟩
theorem gl_Board_30 : gLk "TermDesk$Board" 30 3 3 := ⟨gR3, gT3, 12, gY3, rfl, by decide, rfl, gin3, rfl, gty3, gnm3, Or.inl (gWs_at 235 (by decide +kernel) (by decide +kernel))⟩
theorem gl_Desk_137 : gLk "TermDesk" 137 3 3 := ⟨gR3, gT3, 12, gY3, rfl, by decide, rfl, gin3, rfl, gty3, gnm3, Or.inr ⟨"TermDesk", gNs_at 236 (by decide +kernel) (by decide +kernel)⟩⟩
theorem gl_Board_33 : gLk "TermDesk$Board" 33 3 4 := ⟨gR3, gT3, 12, gY3, rfl, by decide, rfl, gin3, rfl, gty3, gnm3, Or.inl (gWs_at 237 (by decide +kernel) (by decide +kernel))⟩
theorem gl_Board_36 : gLk "TermDesk$Board" 36 3 5 := ⟨gR3, gT3, 12, gY3, rfl, by decide, rfl, gin3, rfl, gty3, gnm3, Or.inl (gWs_at 238 (by decide +kernel) (by decide +kernel))⟩
theorem gl_Desk_175 : gLk "TermDesk" 175 3 5 := ⟨gR3, gT3, 12, gY3, rfl, by decide, rfl, gin3, rfl, gty3, gnm3, Or.inr ⟨"TermDesk", gNs_at 239 (by decide +kernel) (by decide +kernel)⟩⟩
theorem gl_Board_39 : gLk "TermDesk$Board" 39 3 6 := ⟨gR3, gT3, 12, gY3, rfl, by decide, rfl, gin3, rfl, gty3, gnm3, Or.inl (gWs_at 240 (by decide +kernel) (by decide +kernel))⟩
theorem gl_Clerk_169 : gLk "TermDesk$Clerk" 169 3 6 := ⟨gR3, gT3, 12, gY3, rfl, by decide, rfl, gin3, rfl, gty3, gnm3, Or.inr ⟨"TermDesk", gNs_at 241 (by decide +kernel) (by decide +kernel)⟩⟩
theorem gl_Board_42 : gLk "TermDesk$Board" 42 3 7 := ⟨gR3, gT3, 12, gY3, rfl, by decide, rfl, gin3, rfl, gty3, gnm3, Or.inl (gWs_at 242 (by decide +kernel) (by decide +kernel))⟩
theorem gl_Clerk_187 : gLk "TermDesk$Clerk" 187 3 7 := ⟨gR3, gT3, 12, gY3, rfl, by decide, rfl, gin3, rfl, gty3, gnm3, Or.inr ⟨"TermDesk", gNs_at 243 (by decide +kernel) (by decide +kernel)⟩⟩
theorem gl_Board_45 : gLk "TermDesk$Board" 45 3 8 := ⟨gR3, gT3, 12, gY3, rfl, by decide, rfl, gin3, rfl, gty3, gnm3, Or.inl (gWs_at 244 (by decide +kernel) (by decide +kernel))⟩
theorem gl_Board_48 : gLk "TermDesk$Board" 48 3 9 := ⟨gR3, gT3, 12, gY3, rfl, by decide, rfl, gin3, rfl, gty3, gnm3, Or.inl (gWs_at 245 (by decide +kernel) (by decide +kernel))⟩
theorem gl_Ranking_99 : gLk "TermDesk$Ranking" 99 3 9 := ⟨gR3, gT3, 12, gY3, rfl, by decide, rfl, gin3, rfl, gty3, gnm3, Or.inr ⟨"TermDesk", gNs_at 246 (by decide +kernel) (by decide +kernel)⟩⟩
theorem gl_Desk_85 : gLk "TermDesk" 85 3 9 := ⟨gR3, gT3, 12, gY3, rfl, by decide, rfl, gin3, rfl, gty3, gnm3, Or.inr ⟨"TermDesk", gNs_at 247 (by decide +kernel) (by decide +kernel)⟩⟩
theorem gl_Board_52 : gLk "TermDesk$Board" 52 3 10 := ⟨gR3, gT3, 12, gY3, rfl, by decide, rfl, gin3, rfl, gty3, gnm3, Or.inl (gWs_at 248 (by decide +kernel) (by decide +kernel))⟩
theorem gl_Desk_102 : gLk "TermDesk" 102 3 10 := ⟨gR3, gT3, 12, gY3, rfl, by decide, rfl, gin3, rfl, gty3, gnm3, Or.inr ⟨"TermDesk", gNs_at 249 (by decide +kernel) (by decide +kernel)⟩⟩
theorem gl_Board_55 : gLk "TermDesk$Board" 55 3 11 := ⟨gR3, gT3, 12, gY3, rfl, by decide, rfl, gin3, rfl, gty3, gnm3, Or.inl (gWs_at 250 (by decide +kernel) (by decide +kernel))⟩
theorem gl_Desk_105 : gLk "TermDesk" 105 3 11 := ⟨gR3, gT3, 12, gY3, rfl, by decide, rfl, gin3, rfl, gty3, gnm3, Or.inr ⟨"TermDesk", gNs_at 251 (by decide +kernel) (by decide +kernel)⟩⟩
theorem gl_Clerk_12 : gLk "TermDesk$Clerk" 12 1 0 := ⟨gR1, gT1, 8, gY1, rfl, by decide, rfl, gin1, rfl, gty1, gnm1, Or.inl (gWs_at 277 (by decide +kernel) (by decide +kernel))⟩
theorem gl_Desk_16 : gLk "TermDesk" 16 1 0 := ⟨gR1, gT1, 8, gY1, rfl, by decide, rfl, gin1, rfl, gty1, gnm1, Or.inr ⟨"TermDesk", gNs_at 278 (by decide +kernel) (by decide +kernel)⟩⟩
theorem gl_Clerk_21 : gLk "TermDesk$Clerk" 21 1 1 := ⟨gR1, gT1, 8, gY1, rfl, by decide, rfl, gin1, rfl, gty1, gnm1, Or.inl (gWs_at 279 (by decide +kernel) (by decide +kernel))⟩
theorem gl_Desk_21 : gLk "TermDesk" 21 1 1 := ⟨gR1, gT1, 8, gY1, rfl, by decide, rfl, gin1, rfl, gty1, gnm1, Or.inr ⟨"TermDesk", gNs_at 280 (by decide +kernel) (by decide +kernel)⟩⟩
theorem gl_Clerk_25 : gLk "TermDesk$Clerk" 25 1 2 := ⟨gR1, gT1, 8, gY1, rfl, by decide, rfl, gin1, rfl, gty1, gnm1, Or.inl (gWs_at 281 (by decide +kernel) (by decide +kernel))⟩
theorem gl_Desk_77 : gLk "TermDesk" 77 1 2 := ⟨gR1, gT1, 8, gY1, rfl, by decide, rfl, gin1, rfl, gty1, gnm1, Or.inr ⟨"TermDesk", gNs_at 282 (by decide +kernel) (by decide +kernel)⟩⟩
theorem gl_Clerk_29 : gLk "TermDesk$Clerk" 29 1 3 := ⟨gR1, gT1, 8, gY1, rfl, by decide, rfl, gin1, rfl, gty1, gnm1, Or.inl (gWs_at 283 (by decide +kernel) (by decide +kernel))⟩
theorem gl_Desk_80 : gLk "TermDesk" 80 1 3 := ⟨gR1, gT1, 8, gY1, rfl, by decide, rfl, gin1, rfl, gty1, gnm1, Or.inr ⟨"TermDesk", gNs_at 284 (by decide +kernel) (by decide +kernel)⟩⟩
theorem gl_Clerk_32 : gLk "TermDesk$Clerk" 32 1 4 := ⟨gR1, gT1, 8, gY1, rfl, by decide, rfl, gin1, rfl, gty1, gnm1, Or.inl (gWs_at 285 (by decide +kernel) (by decide +kernel))⟩
theorem gl_Clerk_36 : gLk "TermDesk$Clerk" 36 1 5 := ⟨gR1, gT1, 8, gY1, rfl, by decide, rfl, gin1, rfl, gty1, gnm1, Or.inl (gWs_at 286 (by decide +kernel) (by decide +kernel))⟩
theorem gl_Clerk_39 : gLk "TermDesk$Clerk" 39 1 6 := ⟨gR1, gT1, 8, gY1, rfl, by decide, rfl, gin1, rfl, gty1, gnm1, Or.inl (gWs_at 287 (by decide +kernel) (by decide +kernel))⟩
theorem gl_Clerk_42 : gLk "TermDesk$Clerk" 42 1 7 := ⟨gR1, gT1, 8, gY1, rfl, by decide, rfl, gin1, rfl, gty1, gnm1, Or.inl (gWs_at 288 (by decide +kernel) (by decide +kernel))⟩
theorem gl_Ranking_9 : gLk "TermDesk$Ranking" 9 6 0 := ⟨gR6, gT6, 14, gY6, rfl, by decide, rfl, gin6, rfl, gty6, gnm6, Or.inl (gWs_at 314 (by decide +kernel) (by decide +kernel))⟩
theorem gl_Desk_197 : gLk "TermDesk" 197 6 0 := ⟨gR6, gT6, 14, gY6, rfl, by decide, rfl, gin6, rfl, gty6, gnm6, Or.inr ⟨"TermDesk", gNs_at 315 (by decide +kernel) (by decide +kernel)⟩⟩
theorem gl_Ranking_15 : gLk "TermDesk$Ranking" 15 6 1 := ⟨gR6, gT6, 14, gY6, rfl, by decide, rfl, gin6, rfl, gty6, gnm6, Or.inl (gWs_at 316 (by decide +kernel) (by decide +kernel))⟩
theorem gl_Desk_200 : gLk "TermDesk" 200 6 1 := ⟨gR6, gT6, 14, gY6, rfl, by decide, rfl, gin6, rfl, gty6, gnm6, Or.inr ⟨"TermDesk", gNs_at 317 (by decide +kernel) (by decide +kernel)⟩⟩
theorem gl_Ranking_18 : gLk "TermDesk$Ranking" 18 6 2 := ⟨gR6, gT6, 14, gY6, rfl, by decide, rfl, gin6, rfl, gty6, gnm6, Or.inl (gWs_at 318 (by decide +kernel) (by decide +kernel))⟩
theorem gl_Desk_205 : gLk "TermDesk" 205 6 2 := ⟨gR6, gT6, 14, gY6, rfl, by decide, rfl, gin6, rfl, gty6, gnm6, Or.inr ⟨"TermDesk", gNs_at 319 (by decide +kernel) (by decide +kernel)⟩⟩
theorem gl_Ranking_25 : gLk "TermDesk$Ranking" 25 6 3 := ⟨gR6, gT6, 14, gY6, rfl, by decide, rfl, gin6, rfl, gty6, gnm6, Or.inl (gWs_at 320 (by decide +kernel) (by decide +kernel))⟩
theorem gl_Desk_217 : gLk "TermDesk" 217 6 3 := ⟨gR6, gT6, 14, gY6, rfl, by decide, rfl, gin6, rfl, gty6, gnm6, Or.inr ⟨"TermDesk", gNs_at 321 (by decide +kernel) (by decide +kernel)⟩⟩
theorem gl_Ranking_28 : gLk "TermDesk$Ranking" 28 6 4 := ⟨gR6, gT6, 14, gY6, rfl, by decide, rfl, gin6, rfl, gty6, gnm6, Or.inl (gWs_at 322 (by decide +kernel) (by decide +kernel))⟩
theorem gl_Desk_224 : gLk "TermDesk" 224 6 4 := ⟨gR6, gT6, 14, gY6, rfl, by decide, rfl, gin6, rfl, gty6, gnm6, Or.inr ⟨"TermDesk", gNs_at 323 (by decide +kernel) (by decide +kernel)⟩⟩
theorem gl_Ranking_31 : gLk "TermDesk$Ranking" 31 6 5 := ⟨gR6, gT6, 14, gY6, rfl, by decide, rfl, gin6, rfl, gty6, gnm6, Or.inl (gWs_at 324 (by decide +kernel) (by decide +kernel))⟩
theorem gl_Desk_221 : gLk "TermDesk" 221 6 5 := ⟨gR6, gT6, 14, gY6, rfl, by decide, rfl, gin6, rfl, gty6, gnm6, Or.inr ⟨"TermDesk", gNs_at 325 (by decide +kernel) (by decide +kernel)⟩⟩
theorem gl_Ranking_34 : gLk "TermDesk$Ranking" 34 6 6 := ⟨gR6, gT6, 14, gY6, rfl, by decide, rfl, gin6, rfl, gty6, gnm6, Or.inl (gWs_at 326 (by decide +kernel) (by decide +kernel))⟩
theorem gl_Ranking_37 : gLk "TermDesk$Ranking" 37 6 7 := ⟨gR6, gT6, 14, gY6, rfl, by decide, rfl, gin6, rfl, gty6, gnm6, Or.inl (gWs_at 327 (by decide +kernel) (by decide +kernel))⟩
theorem gl_Desk_193 : gLk "TermDesk" 193 6 7 := ⟨gR6, gT6, 14, gY6, rfl, by decide, rfl, gin6, rfl, gty6, gnm6, Or.inr ⟨"TermDesk", gNs_at 328 (by decide +kernel) (by decide +kernel)⟩⟩
theorem gl_Ranking_40 : gLk "TermDesk$Ranking" 40 6 8 := ⟨gR6, gT6, 14, gY6, rfl, by decide, rfl, gin6, rfl, gty6, gnm6, Or.inl (gWs_at 329 (by decide +kernel) (by decide +kernel))⟩
theorem gl_Ranking_43 : gLk "TermDesk$Ranking" 43 6 9 := ⟨gR6, gT6, 14, gY6, rfl, by decide, rfl, gin6, rfl, gty6, gnm6, Or.inl (gWs_at 330 (by decide +kernel) (by decide +kernel))⟩
theorem gl_Ranking_46 : gLk "TermDesk$Ranking" 46 6 10 := ⟨gR6, gT6, 14, gY6, rfl, by decide, rfl, gin6, rfl, gty6, gnm6, Or.inl (gWs_at 331 (by decide +kernel) (by decide +kernel))⟩
theorem gl_Desk_208 : gLk "TermDesk" 208 6 10 := ⟨gR6, gT6, 14, gY6, rfl, by decide, rfl, gin6, rfl, gty6, gnm6, Or.inr ⟨"TermDesk", gNs_at 332 (by decide +kernel) (by decide +kernel)⟩⟩
theorem gl_Ranking_50 : gLk "TermDesk$Ranking" 50 6 11 := ⟨gR6, gT6, 14, gY6, rfl, by decide, rfl, gin6, rfl, gty6, gnm6, Or.inl (gWs_at 333 (by decide +kernel) (by decide +kernel))⟩
theorem gl_Desk_203 : gLk "TermDesk" 203 6 11 := ⟨gR6, gT6, 14, gY6, rfl, by decide, rfl, gin6, rfl, gty6, gnm6, Or.inr ⟨"TermDesk", gNs_at 334 (by decide +kernel) (by decide +kernel)⟩⟩
theorem gl_Ranking_53 : gLk "TermDesk$Ranking" 53 6 12 := ⟨gR6, gT6, 14, gY6, rfl, by decide, rfl, gin6, rfl, gty6, gnm6, Or.inl (gWs_at 335 (by decide +kernel) (by decide +kernel))⟩
theorem gl_Ranking_56 : gLk "TermDesk$Ranking" 56 6 13 := ⟨gR6, gT6, 14, gY6, rfl, by decide, rfl, gin6, rfl, gty6, gnm6, Or.inl (gWs_at 336 (by decide +kernel) (by decide +kernel))⟩
theorem gl_Desk_99 : gLk "TermDesk" 99 6 13 := ⟨gR6, gT6, 14, gY6, rfl, by decide, rfl, gin6, rfl, gty6, gnm6, Or.inr ⟨"TermDesk", gNs_at 337 (by decide +kernel) (by decide +kernel)⟩⟩
theorem gl_Strip_9 : gLk "TermDesk$Strip" 9 7 0 := ⟨gR7, gT7, 4, gY7, rfl, by decide, rfl, gin7, rfl, gty7, gnm7, Or.inl (gWs_at 373 (by decide +kernel) (by decide +kernel))⟩
theorem gl_Desk_238 : gLk "TermDesk" 238 7 0 := ⟨gR7, gT7, 4, gY7, rfl, by decide, rfl, gin7, rfl, gty7, gnm7, Or.inr ⟨"TermDesk", gNs_at 374 (by decide +kernel) (by decide +kernel)⟩⟩
theorem gl_Strip_17 : gLk "TermDesk$Strip" 17 7 1 := ⟨gR7, gT7, 4, gY7, rfl, by decide, rfl, gin7, rfl, gty7, gnm7, Or.inl (gWs_at 375 (by decide +kernel) (by decide +kernel))⟩
theorem gl_Strip_21 : gLk "TermDesk$Strip" 21 7 2 := ⟨gR7, gT7, 4, gY7, rfl, by decide, rfl, gin7, rfl, gty7, gnm7, Or.inl (gWs_at 376 (by decide +kernel) (by decide +kernel))⟩
theorem gl_Strip_24 : gLk "TermDesk$Strip" 24 7 3 := ⟨gR7, gT7, 4, gY7, rfl, by decide, rfl, gin7, rfl, gty7, gnm7, Or.inl (gWs_at 377 (by decide +kernel) (by decide +kernel))⟩
theorem gl_Desk_237 : gLk "TermDesk" 237 7 3 := ⟨gR7, gT7, 4, gY7, rfl, by decide, rfl, gin7, rfl, gty7, gnm7, Or.inr ⟨"TermDesk", gNs_at 378 (by decide +kernel) (by decide +kernel)⟩⟩
theorem gl_Desk_10 : gLk "TermDesk" 10 0 0 := ⟨gR0, gT0, 8, gY0, rfl, by decide, rfl, gin0, rfl, gty0, gnm0, Or.inl (gWs_at 389 (by decide +kernel) (by decide +kernel))⟩
theorem gl_Desk_20 : gLk "TermDesk" 20 0 1 := ⟨gR0, gT0, 8, gY0, rfl, by decide, rfl, gin0, rfl, gty0, gnm0, Or.inl (gWs_at 390 (by decide +kernel) (by decide +kernel))⟩
theorem gl_Desk_25 : gLk "TermDesk" 25 0 2 := ⟨gR0, gT0, 8, gY0, rfl, by decide, rfl, gin0, rfl, gty0, gnm0, Or.inl (gWs_at 391 (by decide +kernel) (by decide +kernel))⟩
theorem gl_Desk_29 : gLk "TermDesk" 29 0 3 := ⟨gR0, gT0, 8, gY0, rfl, by decide, rfl, gin0, rfl, gty0, gnm0, Or.inl (gWs_at 392 (by decide +kernel) (by decide +kernel))⟩
theorem gl_Desk_36 : gLk "TermDesk" 36 0 4 := ⟨gR0, gT0, 8, gY0, rfl, by decide, rfl, gin0, rfl, gty0, gnm0, Or.inl (gWs_at 393 (by decide +kernel) (by decide +kernel))⟩
theorem gl_Desk_40 : gLk "TermDesk" 40 0 5 := ⟨gR0, gT0, 8, gY0, rfl, by decide, rfl, gin0, rfl, gty0, gnm0, Or.inl (gWs_at 394 (by decide +kernel) (by decide +kernel))⟩
theorem gl_Desk_44 : gLk "TermDesk" 44 0 6 := ⟨gR0, gT0, 8, gY0, rfl, by decide, rfl, gin0, rfl, gty0, gnm0, Or.inl (gWs_at 395 (by decide +kernel) (by decide +kernel))⟩
theorem gl_Desk_47 : gLk "TermDesk" 47 0 7 := ⟨gR0, gT0, 8, gY0, rfl, by decide, rfl, gin0, rfl, gty0, gnm0, Or.inl (gWs_at 396 (by decide +kernel) (by decide +kernel))⟩
theorem gl_DeskModel_8 : gLk "TermDeskModel" 8 8 0 := ⟨gR8, gT8, 42, gY8, rfl, by decide, rfl, gin8, rfl, gty8, gnm8, Or.inl (gWs_at 1028 (by decide +kernel) (by decide +kernel))⟩
theorem gl_DeskModel_130 : gLk "TermDeskModel" 130 8 1 := ⟨gR8, gT8, 42, gY8, rfl, by decide, rfl, gin8, rfl, gty8, gnm8, Or.inl (gWs_at 1029 (by decide +kernel) (by decide +kernel))⟩
theorem gl_DeskModel_137 : gLk "TermDeskModel" 137 8 2 := ⟨gR8, gT8, 42, gY8, rfl, by decide, rfl, gin8, rfl, gty8, gnm8, Or.inl (gWs_at 1030 (by decide +kernel) (by decide +kernel))⟩
theorem gl_DeskModel_14 : gLk "TermDeskModel" 14 8 3 := ⟨gR8, gT8, 42, gY8, rfl, by decide, rfl, gin8, rfl, gty8, gnm8, Or.inl (gWs_at 1031 (by decide +kernel) (by decide +kernel))⟩
theorem gl_DeskModel_18 : gLk "TermDeskModel" 18 8 4 := ⟨gR8, gT8, 42, gY8, rfl, by decide, rfl, gin8, rfl, gty8, gnm8, Or.inl (gWs_at 1032 (by decide +kernel) (by decide +kernel))⟩
theorem gl_DeskModel_21 : gLk "TermDeskModel" 21 8 5 := ⟨gR8, gT8, 42, gY8, rfl, by decide, rfl, gin8, rfl, gty8, gnm8, Or.inl (gWs_at 1033 (by decide +kernel) (by decide +kernel))⟩
theorem gl_DeskModel_25 : gLk "TermDeskModel" 25 8 6 := ⟨gR8, gT8, 42, gY8, rfl, by decide, rfl, gin8, rfl, gty8, gnm8, Or.inl (gWs_at 1034 (by decide +kernel) (by decide +kernel))⟩
theorem gl_DeskModel_157 : gLk "TermDeskModel" 157 8 7 := ⟨gR8, gT8, 42, gY8, rfl, by decide, rfl, gin8, rfl, gty8, gnm8, Or.inl (gWs_at 1035 (by decide +kernel) (by decide +kernel))⟩
theorem gl_DeskModel_28 : gLk "TermDeskModel" 28 8 8 := ⟨gR8, gT8, 42, gY8, rfl, by decide, rfl, gin8, rfl, gty8, gnm8, Or.inl (gWs_at 1036 (by decide +kernel) (by decide +kernel))⟩
theorem gl_DeskModel_31 : gLk "TermDeskModel" 31 8 9 := ⟨gR8, gT8, 42, gY8, rfl, by decide, rfl, gin8, rfl, gty8, gnm8, Or.inl (gWs_at 1037 (by decide +kernel) (by decide +kernel))⟩
theorem gl_DeskModel_164 : gLk "TermDeskModel" 164 8 10 := ⟨gR8, gT8, 42, gY8, rfl, by decide, rfl, gin8, rfl, gty8, gnm8, Or.inl (gWs_at 1038 (by decide +kernel) (by decide +kernel))⟩
theorem gl_DeskModel_184 : gLk "TermDeskModel" 184 8 11 := ⟨gR8, gT8, 42, gY8, rfl, by decide, rfl, gin8, rfl, gty8, gnm8, Or.inl (gWs_at 1039 (by decide +kernel) (by decide +kernel))⟩
theorem gl_DeskModel_34 : gLk "TermDeskModel" 34 8 12 := ⟨gR8, gT8, 42, gY8, rfl, by decide, rfl, gin8, rfl, gty8, gnm8, Or.inl (gWs_at 1040 (by decide +kernel) (by decide +kernel))⟩
theorem gl_DeskModel_37 : gLk "TermDeskModel" 37 8 13 := ⟨gR8, gT8, 42, gY8, rfl, by decide, rfl, gin8, rfl, gty8, gnm8, Or.inl (gWs_at 1041 (by decide +kernel) (by decide +kernel))⟩
theorem gl_DeskModel_41 : gLk "TermDeskModel" 41 8 14 := ⟨gR8, gT8, 42, gY8, rfl, by decide, rfl, gin8, rfl, gty8, gnm8, Or.inl (gWs_at 1042 (by decide +kernel) (by decide +kernel))⟩
theorem gl_DeskModel_44 : gLk "TermDeskModel" 44 8 15 := ⟨gR8, gT8, 42, gY8, rfl, by decide, rfl, gin8, rfl, gty8, gnm8, Or.inl (gWs_at 1043 (by decide +kernel) (by decide +kernel))⟩
theorem gl_DeskModel_47 : gLk "TermDeskModel" 47 8 16 := ⟨gR8, gT8, 42, gY8, rfl, by decide, rfl, gin8, rfl, gty8, gnm8, Or.inl (gWs_at 1044 (by decide +kernel) (by decide +kernel))⟩
theorem gl_DeskModel_200 : gLk "TermDeskModel" 200 8 17 := ⟨gR8, gT8, 42, gY8, rfl, by decide, rfl, gin8, rfl, gty8, gnm8, Or.inl (gWs_at 1045 (by decide +kernel) (by decide +kernel))⟩
theorem gl_DeskModel_197 : gLk "TermDeskModel" 197 8 18 := ⟨gR8, gT8, 42, gY8, rfl, by decide, rfl, gin8, rfl, gty8, gnm8, Or.inl (gWs_at 1046 (by decide +kernel) (by decide +kernel))⟩
theorem gl_DeskModel_207 : gLk "TermDeskModel" 207 8 19 := ⟨gR8, gT8, 42, gY8, rfl, by decide, rfl, gin8, rfl, gty8, gnm8, Or.inl (gWs_at 1047 (by decide +kernel) (by decide +kernel))⟩
theorem gl_DeskModel_50 : gLk "TermDeskModel" 50 8 20 := ⟨gR8, gT8, 42, gY8, rfl, by decide, rfl, gin8, rfl, gty8, gnm8, Or.inl (gWs_at 1048 (by decide +kernel) (by decide +kernel))⟩
theorem gl_DeskModel_230 : gLk "TermDeskModel" 230 8 21 := ⟨gR8, gT8, 42, gY8, rfl, by decide, rfl, gin8, rfl, gty8, gnm8, Or.inl (gWs_at 1049 (by decide +kernel) (by decide +kernel))⟩
theorem gl_DeskModel_150 : gLk "TermDeskModel" 150 8 22 := ⟨gR8, gT8, 42, gY8, rfl, by decide, rfl, gin8, rfl, gty8, gnm8, Or.inl (gWs_at 1050 (by decide +kernel) (by decide +kernel))⟩
theorem gl_DeskModel_140 : gLk "TermDeskModel" 140 8 23 := ⟨gR8, gT8, 42, gY8, rfl, by decide, rfl, gin8, rfl, gty8, gnm8, Or.inl (gWs_at 1051 (by decide +kernel) (by decide +kernel))⟩
theorem gl_DeskModel_143 : gLk "TermDeskModel" 143 8 24 := ⟨gR8, gT8, 42, gY8, rfl, by decide, rfl, gin8, rfl, gty8, gnm8, Or.inl (gWs_at 1052 (by decide +kernel) (by decide +kernel))⟩
theorem gl_DeskModel_53 : gLk "TermDeskModel" 53 8 26 := ⟨gR8, gT8, 42, gY8, rfl, by decide, rfl, gin8, rfl, gty8, gnm8, Or.inl (gWs_at 1053 (by decide +kernel) (by decide +kernel))⟩
theorem gl_DeskModel_56 : gLk "TermDeskModel" 56 8 27 := ⟨gR8, gT8, 42, gY8, rfl, by decide, rfl, gin8, rfl, gty8, gnm8, Or.inl (gWs_at 1054 (by decide +kernel) (by decide +kernel))⟩
theorem gl_DeskModel_99 : gLk "TermDeskModel" 99 8 28 := ⟨gR8, gT8, 42, gY8, rfl, by decide, rfl, gin8, rfl, gty8, gnm8, Or.inl (gWs_at 1055 (by decide +kernel) (by decide +kernel))⟩
theorem gl_DeskModel_59 : gLk "TermDeskModel" 59 8 29 := ⟨gR8, gT8, 42, gY8, rfl, by decide, rfl, gin8, rfl, gty8, gnm8, Or.inl (gWs_at 1056 (by decide +kernel) (by decide +kernel))⟩
theorem gl_DeskModel_62 : gLk "TermDeskModel" 62 8 30 := ⟨gR8, gT8, 42, gY8, rfl, by decide, rfl, gin8, rfl, gty8, gnm8, Or.inl (gWs_at 1057 (by decide +kernel) (by decide +kernel))⟩
theorem gl_DeskModel_262 : gLk "TermDeskModel" 262 8 31 := ⟨gR8, gT8, 42, gY8, rfl, by decide, rfl, gin8, rfl, gty8, gnm8, Or.inl (gWs_at 1058 (by decide +kernel) (by decide +kernel))⟩
theorem gl_DeskModel_65 : gLk "TermDeskModel" 65 8 32 := ⟨gR8, gT8, 42, gY8, rfl, by decide, rfl, gin8, rfl, gty8, gnm8, Or.inl (gWs_at 1059 (by decide +kernel) (by decide +kernel))⟩
theorem gl_DeskModel_68 : gLk "TermDeskModel" 68 8 33 := ⟨gR8, gT8, 42, gY8, rfl, by decide, rfl, gin8, rfl, gty8, gnm8, Or.inl (gWs_at 1060 (by decide +kernel) (by decide +kernel))⟩
theorem gl_DeskModel_71 : gLk "TermDeskModel" 71 8 34 := ⟨gR8, gT8, 42, gY8, rfl, by decide, rfl, gin8, rfl, gty8, gnm8, Or.inl (gWs_at 1061 (by decide +kernel) (by decide +kernel))⟩
theorem gl_DeskModel_74 : gLk "TermDeskModel" 74 8 35 := ⟨gR8, gT8, 42, gY8, rfl, by decide, rfl, gin8, rfl, gty8, gnm8, Or.inl (gWs_at 1062 (by decide +kernel) (by decide +kernel))⟩
theorem gl_DeskModel_246 : gLk "TermDeskModel" 246 8 36 := ⟨gR8, gT8, 42, gY8, rfl, by decide, rfl, gin8, rfl, gty8, gnm8, Or.inl (gWs_at 1063 (by decide +kernel) (by decide +kernel))⟩
theorem gl_DeskModel_77 : gLk "TermDeskModel" 77 8 37 := ⟨gR8, gT8, 42, gY8, rfl, by decide, rfl, gin8, rfl, gty8, gnm8, Or.inl (gWs_at 1064 (by decide +kernel) (by decide +kernel))⟩
theorem gl_DeskModel_80 : gLk "TermDeskModel" 80 8 38 := ⟨gR8, gT8, 42, gY8, rfl, by decide, rfl, gin8, rfl, gty8, gnm8, Or.inl (gWs_at 1065 (by decide +kernel) (by decide +kernel))⟩
theorem gl_DeskModel_297 : gLk "TermDeskModel" 297 8 39 := ⟨gR8, gT8, 42, gY8, rfl, by decide, rfl, gin8, rfl, gty8, gnm8, Or.inl (gWs_at 1066 (by decide +kernel) (by decide +kernel))⟩
theorem gl_DeskModel_83 : gLk "TermDeskModel" 83 8 40 := ⟨gR8, gT8, 42, gY8, rfl, by decide, rfl, gin8, rfl, gty8, gnm8, Or.inl (gWs_at 1067 (by decide +kernel) (by decide +kernel))⟩
theorem gl_DeskModel_86 : gLk "TermDeskModel" 86 8 41 := ⟨gR8, gT8, 42, gY8, rfl, by decide, rfl, gin8, rfl, gty8, gnm8, Or.inl (gWs_at 1068 (by decide +kernel) (by decide +kernel))⟩
