/-- the words that every method of ours is given -/
def tm_tb : List Cond := lw_tbl.filter goodWord
theorem tm_in {w : Cond} (i : Nat) (h : lw_tbl[i]? = some w) (g : goodWord w = true) : w ∈ tm_tb := List.mem_filter.mpr ⟨List.mem_of_getElem? h, g⟩
/-! names: the fields of each kind of object, in the order of the tables; types; the list of kinds -/
def tn_RLa : String := "LabelScript"
def tn_FLa : u_T := fun k => match k with
  | 0 => ("LabelScript", "script", "LLabelScript$Script;", true)
  | 1 => ("LabelScript", "variables", "LLabelScript$Rows;", true)
  | 2 => ("LabelScript", "decoded", "LLabelScript$Rows;", true)
  | 3 => ("LabelScript", "numbers", "LLabelScript$Numbers;", true)
  | 4 => ("LabelScript", "press", "LLabelScript$Press;", true)
  | 5 => ("LabelScript", "commands", "I", false)
  | 6 => ("LabelScript", "lastFault", "I", false)
  | _ => ("LabelScript", "lastPlace", "I", false)
def tn_tLa : Nat → FieldType := fun k => match k with
  | 0 => (.object "LabelScript$Script")
  | 1 => (.object "LabelScript$Rows")
  | 2 => (.object "LabelScript$Rows")
  | 3 => (.object "LabelScript$Numbers")
  | 4 => (.object "LabelScript$Press")
  | 5 => .int
  | 6 => .int
  | _ => .int
theorem tn_nLa : ∀ a, a < 8 → ∀ b, b < 8 → a ≠ b → (tn_FLa a).2.1 ≠ (tn_FLa b).2.1 := by decide +kernel
theorem tn_tLa_ok : ∀ k, k < 8 → parseFieldDescriptor (tn_FLa k).2.2.1 = some (tn_tLa k) := by decide +kernel
theorem tn_wLa0 : u_lay tn_RLa tn_FLa 0 ∈ tm_tb := tm_in 317 (by decide +kernel) rfl
theorem tn_wLa1 : u_lay tn_RLa tn_FLa 1 ∈ tm_tb := tm_in 319 (by decide +kernel) rfl
theorem tn_wLa2 : u_lay tn_RLa tn_FLa 2 ∈ tm_tb := tm_in 321 (by decide +kernel) rfl
theorem tn_wLa3 : u_lay tn_RLa tn_FLa 3 ∈ tm_tb := tm_in 323 (by decide +kernel) rfl
theorem tn_wLa4 : u_lay tn_RLa tn_FLa 4 ∈ tm_tb := tm_in 325 (by decide +kernel) rfl
theorem tn_wLa5 : u_lay tn_RLa tn_FLa 5 ∈ tm_tb := tm_in 327 (by decide +kernel) rfl
theorem tn_wLa6 : u_lay tn_RLa tn_FLa 6 ∈ tm_tb := tm_in 329 (by decide +kernel) rfl
theorem tn_wLa7 : u_lay tn_RLa tn_FLa 7 ∈ tm_tb := tm_in 331 (by decide +kernel) rfl
theorem tn_wLa : ∀ w ∈ u_ws tn_RLa tn_FLa 8, w ∈ tm_tb := by
  intro w hw
  obtain ⟨k, hk, rfl⟩ := List.mem_map.mp hw
  have hk := List.mem_range.mp hk
  match k, hk with
  | 0, _ => exact tn_wLa0
  | 1, _ => exact tn_wLa1
  | 2, _ => exact tn_wLa2
  | 3, _ => exact tn_wLa3
  | 4, _ => exact tn_wLa4
  | 5, _ => exact tn_wLa5
  | 6, _ => exact tn_wLa6
  | 7, _ => exact tn_wLa7
  | (k + 8), h => exact absurd h (by omega)
def tn_RFi : String := "LabelScript$Field"
def tn_FFi : u_T := fun k => match k with
  | 0 => ("LabelScript$Field", "told", "LLabelScript$Rows;", true)
  | 1 => ("LabelScript$Field", "shape", "LLabelScript$Four;", true)
  | 2 => ("LabelScript$Field", "letter", "I", false)
  | 3 => ("LabelScript$Field", "x", "I", false)
  | 4 => ("LabelScript$Field", "y", "I", false)
  | 5 => ("LabelScript$Field", "turned", "Z", false)
  | 6 => ("LabelScript$Field", "counts", "Z", false)
  | _ => ("LabelScript$Field", "step", "I", false)
def tn_tFi : Nat → FieldType := fun k => match k with
  | 0 => (.object "LabelScript$Rows")
  | 1 => (.object "LabelScript$Four")
  | 2 => .int
  | 3 => .int
  | 4 => .int
  | 5 => .boolean
  | 6 => .boolean
  | _ => .int
theorem tn_nFi : ∀ a, a < 8 → ∀ b, b < 8 → a ≠ b → (tn_FFi a).2.1 ≠ (tn_FFi b).2.1 := by decide +kernel
theorem tn_tFi_ok : ∀ k, k < 8 → parseFieldDescriptor (tn_FFi k).2.2.1 = some (tn_tFi k) := by decide +kernel
theorem tn_wFi0 : u_lay tn_RFi tn_FFi 0 ∈ tm_tb := tm_in 239 (by decide +kernel) rfl
theorem tn_wFi1 : u_lay tn_RFi tn_FFi 1 ∈ tm_tb := tm_in 241 (by decide +kernel) rfl
theorem tn_wFi2 : u_lay tn_RFi tn_FFi 2 ∈ tm_tb := tm_in 243 (by decide +kernel) rfl
theorem tn_wFi3 : u_lay tn_RFi tn_FFi 3 ∈ tm_tb := tm_in 245 (by decide +kernel) rfl
theorem tn_wFi4 : u_lay tn_RFi tn_FFi 4 ∈ tm_tb := tm_in 247 (by decide +kernel) rfl
theorem tn_wFi5 : u_lay tn_RFi tn_FFi 5 ∈ tm_tb := tm_in 249 (by decide +kernel) rfl
theorem tn_wFi6 : u_lay tn_RFi tn_FFi 6 ∈ tm_tb := tm_in 251 (by decide +kernel) rfl
theorem tn_wFi7 : u_lay tn_RFi tn_FFi 7 ∈ tm_tb := tm_in 253 (by decide +kernel) rfl
theorem tn_wFi : ∀ w ∈ u_ws tn_RFi tn_FFi 8, w ∈ tm_tb := by
  intro w hw
  obtain ⟨k, hk, rfl⟩ := List.mem_map.mp hw
  have hk := List.mem_range.mp hk
  match k, hk with
  | 0, _ => exact tn_wFi0
  | 1, _ => exact tn_wFi1
  | 2, _ => exact tn_wFi2
  | 3, _ => exact tn_wFi3
  | 4, _ => exact tn_wFi4
  | 5, _ => exact tn_wFi5
  | 6, _ => exact tn_wFi6
  | 7, _ => exact tn_wFi7
  | (k + 8), h => exact absurd h (by omega)
def tn_RFo : String := "LabelScript$Four"
def tn_FFo : u_T := fun k => match k with
  | _ => ("LabelScript$Four", "values", "[I", true)
def tn_tFo : Nat → FieldType := fun k => match k with
  | _ => (.array .int)
theorem tn_nFo : ∀ a, a < 1 → ∀ b, b < 1 → a ≠ b → (tn_FFo a).2.1 ≠ (tn_FFo b).2.1 := by decide +kernel
theorem tn_tFo_ok : ∀ k, k < 1 → parseFieldDescriptor (tn_FFo k).2.2.1 = some (tn_tFo k) := by decide +kernel
theorem tn_wFo0 : u_lay tn_RFo tn_FFo 0 ∈ tm_tb := tm_in 158 (by decide +kernel) rfl
theorem tn_wFo : ∀ w ∈ u_ws tn_RFo tn_FFo 1, w ∈ tm_tb := by
  intro w hw
  obtain ⟨k, hk, rfl⟩ := List.mem_map.mp hw
  have hk := List.mem_range.mp hk
  match k, hk with
  | 0, _ => exact tn_wFo0
  | (k + 1), h => exact absurd h (by omega)
def tn_RLi : String := "LabelScript$Lines"
def tn_FLi : u_T := fun k => match k with
  | 0 => ("LabelScript$Lines", "starts", "[I", true)
  | _ => ("LabelScript$Lines", "sizes", "[I", true)
def tn_tLi : Nat → FieldType := fun k => match k with
  | 0 => (.array .int)
  | _ => (.array .int)
theorem tn_nLi : ∀ a, a < 2 → ∀ b, b < 2 → a ≠ b → (tn_FLi a).2.1 ≠ (tn_FLi b).2.1 := by decide +kernel
theorem tn_tLi_ok : ∀ k, k < 2 → parseFieldDescriptor (tn_FLi k).2.2.1 = some (tn_tLi k) := by decide +kernel
theorem tn_wLi0 : u_lay tn_RLi tn_FLi 0 ∈ tm_tb := tm_in 266 (by decide +kernel) rfl
theorem tn_wLi1 : u_lay tn_RLi tn_FLi 1 ∈ tm_tb := tm_in 268 (by decide +kernel) rfl
theorem tn_wLi : ∀ w ∈ u_ws tn_RLi tn_FLi 2, w ∈ tm_tb := by
  intro w hw
  obtain ⟨k, hk, rfl⟩ := List.mem_map.mp hw
  have hk := List.mem_range.mp hk
  match k, hk with
  | 0, _ => exact tn_wLi0
  | 1, _ => exact tn_wLi1
  | (k + 2), h => exact absurd h (by omega)
def tn_RNu : String := "LabelScript$Numbers"
def tn_FNu : u_T := fun k => match k with
  | _ => ("LabelScript$Numbers", "values", "LLabelScript$Four;", true)
def tn_tNu : Nat → FieldType := fun k => match k with
  | _ => (.object "LabelScript$Four")
theorem tn_nNu : ∀ a, a < 1 → ∀ b, b < 1 → a ≠ b → (tn_FNu a).2.1 ≠ (tn_FNu b).2.1 := by decide +kernel
theorem tn_tNu_ok : ∀ k, k < 1 → parseFieldDescriptor (tn_FNu k).2.2.1 = some (tn_tNu k) := by decide +kernel
theorem tn_wNu0 : u_lay tn_RNu tn_FNu 0 ∈ tm_tb := tm_in 163 (by decide +kernel) rfl
theorem tn_wNu : ∀ w ∈ u_ws tn_RNu tn_FNu 1, w ∈ tm_tb := by
  intro w hw
  obtain ⟨k, hk, rfl⟩ := List.mem_map.mp hw
  have hk := List.mem_range.mp hk
  match k, hk with
  | 0, _ => exact tn_wNu0
  | (k + 1), h => exact absurd h (by omega)
def tn_RPr : String := "LabelScript$Press"
def tn_FPr : u_T := fun k => match k with
  | 0 => ("LabelScript$Press", "sheets", "LLabelScript$Sheets;", true)
  | 1 => ("LabelScript$Press", "field", "LLabelScript$Field;", true)
  | 2 => ("LabelScript$Press", "texts", "LLabelScript$Four;", true)
  | 3 => ("LabelScript$Press", "shape", "LLabelScript$Four;", true)
  | 4 => ("LabelScript$Press", "lines", "LLabelScript$Lines;", true)
  | 5 => ("LabelScript$Press", "open", "Z", false)
  | 6 => ("LabelScript$Press", "width", "I", false)
  | 7 => ("LabelScript$Press", "height", "I", false)
  | 8 => ("LabelScript$Press", "homeX", "I", false)
  | 9 => ("LabelScript$Press", "homeY", "I", false)
  | _ => ("LabelScript$Press", "copies", "I", false)
def tn_tPr : Nat → FieldType := fun k => match k with
  | 0 => (.object "LabelScript$Sheets")
  | 1 => (.object "LabelScript$Field")
  | 2 => (.object "LabelScript$Four")
  | 3 => (.object "LabelScript$Four")
  | 4 => (.object "LabelScript$Lines")
  | 5 => .boolean
  | 6 => .int
  | 7 => .int
  | 8 => .int
  | 9 => .int
  | _ => .int
theorem tn_nPr : ∀ a, a < 11 → ∀ b, b < 11 → a ≠ b → (tn_FPr a).2.1 ≠ (tn_FPr b).2.1 := by decide +kernel
theorem tn_tPr_ok : ∀ k, k < 11 → parseFieldDescriptor (tn_FPr k).2.2.1 = some (tn_tPr k) := by decide +kernel
theorem tn_wPr0 : u_lay tn_RPr tn_FPr 0 ∈ tm_tb := tm_in 286 (by decide +kernel) rfl
theorem tn_wPr1 : u_lay tn_RPr tn_FPr 1 ∈ tm_tb := tm_in 288 (by decide +kernel) rfl
theorem tn_wPr2 : u_lay tn_RPr tn_FPr 2 ∈ tm_tb := tm_in 290 (by decide +kernel) rfl
theorem tn_wPr3 : u_lay tn_RPr tn_FPr 3 ∈ tm_tb := tm_in 292 (by decide +kernel) rfl
theorem tn_wPr4 : u_lay tn_RPr tn_FPr 4 ∈ tm_tb := tm_in 294 (by decide +kernel) rfl
theorem tn_wPr5 : u_lay tn_RPr tn_FPr 5 ∈ tm_tb := tm_in 296 (by decide +kernel) rfl
theorem tn_wPr6 : u_lay tn_RPr tn_FPr 6 ∈ tm_tb := tm_in 298 (by decide +kernel) rfl
theorem tn_wPr7 : u_lay tn_RPr tn_FPr 7 ∈ tm_tb := tm_in 300 (by decide +kernel) rfl
theorem tn_wPr8 : u_lay tn_RPr tn_FPr 8 ∈ tm_tb := tm_in 302 (by decide +kernel) rfl
theorem tn_wPr9 : u_lay tn_RPr tn_FPr 9 ∈ tm_tb := tm_in 304 (by decide +kernel) rfl
theorem tn_wPr10 : u_lay tn_RPr tn_FPr 10 ∈ tm_tb := tm_in 306 (by decide +kernel) rfl
theorem tn_wPr : ∀ w ∈ u_ws tn_RPr tn_FPr 11, w ∈ tm_tb := by
  intro w hw
  obtain ⟨k, hk, rfl⟩ := List.mem_map.mp hw
  have hk := List.mem_range.mp hk
  match k, hk with
  | 0, _ => exact tn_wPr0
  | 1, _ => exact tn_wPr1
  | 2, _ => exact tn_wPr2
  | 3, _ => exact tn_wPr3
  | 4, _ => exact tn_wPr4
  | 5, _ => exact tn_wPr5
  | 6, _ => exact tn_wPr6
  | 7, _ => exact tn_wPr7
  | 8, _ => exact tn_wPr8
  | 9, _ => exact tn_wPr9
  | 10, _ => exact tn_wPr10
  | (k + 11), h => exact absurd h (by omega)
def tn_RRo : String := "LabelScript$Rows"
def tn_FRo : u_T := fun k => match k with
  | 0 => ("LabelScript$Rows", "most", "I", true)
  | 1 => ("LabelScript$Rows", "width", "I", true)
  | 2 => ("LabelScript$Rows", "sizes", "[I", true)
  | _ => ("LabelScript$Rows", "cells", "[J", true)
def tn_tRo : Nat → FieldType := fun k => match k with
  | 0 => .int
  | 1 => .int
  | 2 => (.array .int)
  | _ => (.array .long)
theorem tn_nRo : ∀ a, a < 4 → ∀ b, b < 4 → a ≠ b → (tn_FRo a).2.1 ≠ (tn_FRo b).2.1 := by decide +kernel
theorem tn_tRo_ok : ∀ k, k < 4 → parseFieldDescriptor (tn_FRo k).2.2.1 = some (tn_tRo k) := by decide +kernel
theorem tn_wRo0 : u_lay tn_RRo tn_FRo 0 ∈ tm_tb := tm_in 106 (by decide +kernel) rfl
theorem tn_wRo1 : u_lay tn_RRo tn_FRo 1 ∈ tm_tb := tm_in 108 (by decide +kernel) rfl
theorem tn_wRo2 : u_lay tn_RRo tn_FRo 2 ∈ tm_tb := tm_in 110 (by decide +kernel) rfl
theorem tn_wRo3 : u_lay tn_RRo tn_FRo 3 ∈ tm_tb := tm_in 112 (by decide +kernel) rfl
theorem tn_wRo : ∀ w ∈ u_ws tn_RRo tn_FRo 4, w ∈ tm_tb := by
  intro w hw
  obtain ⟨k, hk, rfl⟩ := List.mem_map.mp hw
  have hk := List.mem_range.mp hk
  match k, hk with
  | 0, _ => exact tn_wRo0
  | 1, _ => exact tn_wRo1
  | 2, _ => exact tn_wRo2
  | 3, _ => exact tn_wRo3
  | (k + 4), h => exact absurd h (by omega)
def tn_RSc : String := "LabelScript$Script"
def tn_FSc : u_T := fun k => match k with
  | 0 => ("LabelScript$Script", "text", "LLabelScript$Rows;", true)
  | 1 => ("LabelScript$Script", "forms", "LLabelScript$Rows;", true)
  | 2 => ("LabelScript$Script", "formsLeft", "[I", true)
  | 3 => ("LabelScript$Script", "placesLeft", "[I", true)
  | 4 => ("LabelScript$Script", "depth", "I", false)
  | 5 => ("LabelScript$Script", "form", "I", false)
  | 6 => ("LabelScript$Script", "at", "I", false)
  | _ => ("LabelScript$Script", "outermost", "I", false)
def tn_tSc : Nat → FieldType := fun k => match k with
  | 0 => (.object "LabelScript$Rows")
  | 1 => (.object "LabelScript$Rows")
  | 2 => (.array .int)
  | 3 => (.array .int)
  | 4 => .int
  | 5 => .int
  | 6 => .int
  | _ => .int
theorem tn_nSc : ∀ a, a < 8 → ∀ b, b < 8 → a ≠ b → (tn_FSc a).2.1 ≠ (tn_FSc b).2.1 := by decide +kernel
theorem tn_tSc_ok : ∀ k, k < 8 → parseFieldDescriptor (tn_FSc k).2.2.1 = some (tn_tSc k) := by decide +kernel
theorem tn_wSc0 : u_lay tn_RSc tn_FSc 0 ∈ tm_tb := tm_in 126 (by decide +kernel) rfl
theorem tn_wSc1 : u_lay tn_RSc tn_FSc 1 ∈ tm_tb := tm_in 128 (by decide +kernel) rfl
theorem tn_wSc2 : u_lay tn_RSc tn_FSc 2 ∈ tm_tb := tm_in 130 (by decide +kernel) rfl
theorem tn_wSc3 : u_lay tn_RSc tn_FSc 3 ∈ tm_tb := tm_in 132 (by decide +kernel) rfl
theorem tn_wSc4 : u_lay tn_RSc tn_FSc 4 ∈ tm_tb := tm_in 134 (by decide +kernel) rfl
theorem tn_wSc5 : u_lay tn_RSc tn_FSc 5 ∈ tm_tb := tm_in 136 (by decide +kernel) rfl
theorem tn_wSc6 : u_lay tn_RSc tn_FSc 6 ∈ tm_tb := tm_in 138 (by decide +kernel) rfl
theorem tn_wSc7 : u_lay tn_RSc tn_FSc 7 ∈ tm_tb := tm_in 140 (by decide +kernel) rfl
theorem tn_wSc : ∀ w ∈ u_ws tn_RSc tn_FSc 8, w ∈ tm_tb := by
  intro w hw
  obtain ⟨k, hk, rfl⟩ := List.mem_map.mp hw
  have hk := List.mem_range.mp hk
  match k, hk with
  | 0, _ => exact tn_wSc0
  | 1, _ => exact tn_wSc1
  | 2, _ => exact tn_wSc2
  | 3, _ => exact tn_wSc3
  | 4, _ => exact tn_wSc4
  | 5, _ => exact tn_wSc5
  | 6, _ => exact tn_wSc6
  | 7, _ => exact tn_wSc7
  | (k + 8), h => exact absurd h (by omega)
def tn_RSh : String := "LabelScript$Sheets"
def tn_FSh : u_T := fun k => match k with
  | 0 => ("LabelScript$Sheets", "labels", "[I", true)
  | 1 => ("LabelScript$Sheets", "cells", "[I", true)
  | 2 => ("LabelScript$Sheets", "told", "LLabelScript$Rows;", true)
  | 3 => ("LabelScript$Sheets", "labelCount", "I", false)
  | 4 => ("LabelScript$Sheets", "orderCount", "I", false)
  | 5 => ("LabelScript$Sheets", "openCount", "I", false)
  | 6 => ("LabelScript$Sheets", "fieldCount", "I", false)
  | 7 => ("LabelScript$Sheets", "fieldTail", "I", false)
  | _ => ("LabelScript$Sheets", "fieldNumber", "I", false)
def tn_tSh : Nat → FieldType := fun k => match k with
  | 0 => (.array .int)
  | 1 => (.array .int)
  | 2 => (.object "LabelScript$Rows")
  | 3 => .int
  | 4 => .int
  | 5 => .int
  | 6 => .int
  | 7 => .int
  | _ => .int
theorem tn_nSh : ∀ a, a < 9 → ∀ b, b < 9 → a ≠ b → (tn_FSh a).2.1 ≠ (tn_FSh b).2.1 := by decide +kernel
theorem tn_tSh_ok : ∀ k, k < 9 → parseFieldDescriptor (tn_FSh k).2.2.1 = some (tn_tSh k) := by decide +kernel
theorem tn_wSh0 : u_lay tn_RSh tn_FSh 0 ∈ tm_tb := tm_in 190 (by decide +kernel) rfl
theorem tn_wSh1 : u_lay tn_RSh tn_FSh 1 ∈ tm_tb := tm_in 192 (by decide +kernel) rfl
theorem tn_wSh2 : u_lay tn_RSh tn_FSh 2 ∈ tm_tb := tm_in 194 (by decide +kernel) rfl
theorem tn_wSh3 : u_lay tn_RSh tn_FSh 3 ∈ tm_tb := tm_in 196 (by decide +kernel) rfl
theorem tn_wSh4 : u_lay tn_RSh tn_FSh 4 ∈ tm_tb := tm_in 198 (by decide +kernel) rfl
theorem tn_wSh5 : u_lay tn_RSh tn_FSh 5 ∈ tm_tb := tm_in 200 (by decide +kernel) rfl
theorem tn_wSh6 : u_lay tn_RSh tn_FSh 6 ∈ tm_tb := tm_in 202 (by decide +kernel) rfl
theorem tn_wSh7 : u_lay tn_RSh tn_FSh 7 ∈ tm_tb := tm_in 204 (by decide +kernel) rfl
theorem tn_wSh8 : u_lay tn_RSh tn_FSh 8 ∈ tm_tb := tm_in 206 (by decide +kernel) rfl
theorem tn_wSh : ∀ w ∈ u_ws tn_RSh tn_FSh 9, w ∈ tm_tb := by
  intro w hw
  obtain ⟨k, hk, rfl⟩ := List.mem_map.mp hw
  have hk := List.mem_range.mp hk
  match k, hk with
  | 0, _ => exact tn_wSh0
  | 1, _ => exact tn_wSh1
  | 2, _ => exact tn_wSh2
  | 3, _ => exact tn_wSh3
  | 4, _ => exact tn_wSh4
  | 5, _ => exact tn_wSh5
  | 6, _ => exact tn_wSh6
  | 7, _ => exact tn_wSh7
  | 8, _ => exact tn_wSh8
  | (k + 9), h => exact absurd h (by omega)
def tn_RMo : String := "LabelScriptModel"
def tn_FMo : u_T := fun k => match k with
  | 0 => ("LabelScriptModel", "thrown", "I", false)
  | 1 => ("LabelScriptModel", "text", "[I", true)
  | 2 => ("LabelScriptModel", "length", "I", false)
  | 3 => ("LabelScriptModel", "forms", "[I", true)
  | 4 => ("LabelScriptModel", "formSizes", "[I", true)
  | 5 => ("LabelScriptModel", "variables", "[I", true)
  | 6 => ("LabelScriptModel", "variableSizes", "[I", true)
  | 7 => ("LabelScriptModel", "pending", "[I", true)
  | 8 => ("LabelScriptModel", "left", "I", false)
  | 9 => ("LabelScriptModel", "depth", "I", false)
  | 10 => ("LabelScriptModel", "outer", "I", false)
  | 11 => ("LabelScriptModel", "commands", "I", false)
  | 12 => ("LabelScriptModel", "at", "I", false)
  | 13 => ("LabelScriptModel", "fault", "I", false)
  | 14 => ("LabelScriptModel", "place", "I", false)
  | 15 => ("LabelScriptModel", "number", "[I", true)
  | 16 => ("LabelScriptModel", "some", "[I", true)
  | 17 => ("LabelScriptModel", "someSize", "I", false)
  | 18 => ("LabelScriptModel", "inside", "Z", false)
  | 19 => ("LabelScriptModel", "wide", "I", false)
  | 20 => ("LabelScriptModel", "high", "I", false)
  | 21 => ("LabelScriptModel", "copies", "I", false)
  | 22 => ("LabelScriptModel", "homeX", "I", false)
  | 23 => ("LabelScriptModel", "homeY", "I", false)
  | 24 => ("LabelScriptModel", "texts", "[I", true)
  | 25 => ("LabelScriptModel", "fields", "I", false)
  | 26 => ("LabelScriptModel", "made", "I", false)
  | 27 => ("LabelScriptModel", "field", "[I", true)
  | 28 => ("LabelScriptModel", "told", "[I", true)
  | 29 => ("LabelScriptModel", "fieldData", "[I", true)
  | 30 => ("LabelScriptModel", "toldData", "[I", true)
  | 31 => ("LabelScriptModel", "copy", "[I", true)
  | 32 => ("LabelScriptModel", "wrong", "Z", false)
  | 33 => ("LabelScriptModel", "keeping", "Z", false)
  | 34 => ("LabelScriptModel", "fresh", "I", false)
  | 35 => ("LabelScriptModel", "labels", "I", false)
  | 36 => ("LabelScriptModel", "label", "[I", true)
  | 37 => ("LabelScriptModel", "orders", "I", false)
  | 38 => ("LabelScriptModel", "order", "[I", true)
  | _ => ("LabelScriptModel", "orderData", "[I", true)
def tn_tMo : Nat → FieldType := fun k => match k with
  | 0 => .int
  | 1 => (.array .int)
  | 2 => .int
  | 3 => (.array .int)
  | 4 => (.array .int)
  | 5 => (.array .int)
  | 6 => (.array .int)
  | 7 => (.array .int)
  | 8 => .int
  | 9 => .int
  | 10 => .int
  | 11 => .int
  | 12 => .int
  | 13 => .int
  | 14 => .int
  | 15 => (.array .int)
  | 16 => (.array .int)
  | 17 => .int
  | 18 => .boolean
  | 19 => .int
  | 20 => .int
  | 21 => .int
  | 22 => .int
  | 23 => .int
  | 24 => (.array .int)
  | 25 => .int
  | 26 => .int
  | 27 => (.array .int)
  | 28 => (.array .int)
  | 29 => (.array .int)
  | 30 => (.array .int)
  | 31 => (.array .int)
  | 32 => .boolean
  | 33 => .boolean
  | 34 => .int
  | 35 => .int
  | 36 => (.array .int)
  | 37 => .int
  | 38 => (.array .int)
  | _ => (.array .int)
theorem tn_nMo : ∀ a, a < 40 → ∀ b, b < 40 → a ≠ b → (tn_FMo a).2.1 ≠ (tn_FMo b).2.1 := by decide +kernel
theorem tn_tMo_ok : ∀ k, k < 40 → parseFieldDescriptor (tn_FMo k).2.2.1 = some (tn_tMo k) := by decide +kernel
theorem tn_wMo0 : u_lay tn_RMo tn_FMo 0 ∈ tm_tb := tm_in 977 (by decide +kernel) rfl
theorem tn_wMo1 : u_lay tn_RMo tn_FMo 1 ∈ tm_tb := tm_in 979 (by decide +kernel) rfl
theorem tn_wMo2 : u_lay tn_RMo tn_FMo 2 ∈ tm_tb := tm_in 981 (by decide +kernel) rfl
theorem tn_wMo3 : u_lay tn_RMo tn_FMo 3 ∈ tm_tb := tm_in 983 (by decide +kernel) rfl
theorem tn_wMo4 : u_lay tn_RMo tn_FMo 4 ∈ tm_tb := tm_in 985 (by decide +kernel) rfl
theorem tn_wMo5 : u_lay tn_RMo tn_FMo 5 ∈ tm_tb := tm_in 987 (by decide +kernel) rfl
theorem tn_wMo6 : u_lay tn_RMo tn_FMo 6 ∈ tm_tb := tm_in 989 (by decide +kernel) rfl
theorem tn_wMo7 : u_lay tn_RMo tn_FMo 7 ∈ tm_tb := tm_in 991 (by decide +kernel) rfl
theorem tn_wMo8 : u_lay tn_RMo tn_FMo 8 ∈ tm_tb := tm_in 993 (by decide +kernel) rfl
theorem tn_wMo9 : u_lay tn_RMo tn_FMo 9 ∈ tm_tb := tm_in 995 (by decide +kernel) rfl
theorem tn_wMo10 : u_lay tn_RMo tn_FMo 10 ∈ tm_tb := tm_in 997 (by decide +kernel) rfl
theorem tn_wMo11 : u_lay tn_RMo tn_FMo 11 ∈ tm_tb := tm_in 999 (by decide +kernel) rfl
theorem tn_wMo12 : u_lay tn_RMo tn_FMo 12 ∈ tm_tb := tm_in 1001 (by decide +kernel) rfl
theorem tn_wMo13 : u_lay tn_RMo tn_FMo 13 ∈ tm_tb := tm_in 1003 (by decide +kernel) rfl
theorem tn_wMo14 : u_lay tn_RMo tn_FMo 14 ∈ tm_tb := tm_in 1005 (by decide +kernel) rfl
theorem tn_wMo15 : u_lay tn_RMo tn_FMo 15 ∈ tm_tb := tm_in 1007 (by decide +kernel) rfl
theorem tn_wMo16 : u_lay tn_RMo tn_FMo 16 ∈ tm_tb := tm_in 1009 (by decide +kernel) rfl
theorem tn_wMo17 : u_lay tn_RMo tn_FMo 17 ∈ tm_tb := tm_in 1011 (by decide +kernel) rfl
theorem tn_wMo18 : u_lay tn_RMo tn_FMo 18 ∈ tm_tb := tm_in 1013 (by decide +kernel) rfl
theorem tn_wMo19 : u_lay tn_RMo tn_FMo 19 ∈ tm_tb := tm_in 1015 (by decide +kernel) rfl
theorem tn_wMo20 : u_lay tn_RMo tn_FMo 20 ∈ tm_tb := tm_in 1017 (by decide +kernel) rfl
theorem tn_wMo21 : u_lay tn_RMo tn_FMo 21 ∈ tm_tb := tm_in 1019 (by decide +kernel) rfl
theorem tn_wMo22 : u_lay tn_RMo tn_FMo 22 ∈ tm_tb := tm_in 1021 (by decide +kernel) rfl
theorem tn_wMo23 : u_lay tn_RMo tn_FMo 23 ∈ tm_tb := tm_in 1023 (by decide +kernel) rfl
theorem tn_wMo24 : u_lay tn_RMo tn_FMo 24 ∈ tm_tb := tm_in 1025 (by decide +kernel) rfl
theorem tn_wMo25 : u_lay tn_RMo tn_FMo 25 ∈ tm_tb := tm_in 1027 (by decide +kernel) rfl
theorem tn_wMo26 : u_lay tn_RMo tn_FMo 26 ∈ tm_tb := tm_in 1029 (by decide +kernel) rfl
theorem tn_wMo27 : u_lay tn_RMo tn_FMo 27 ∈ tm_tb := tm_in 1031 (by decide +kernel) rfl
theorem tn_wMo28 : u_lay tn_RMo tn_FMo 28 ∈ tm_tb := tm_in 1033 (by decide +kernel) rfl
theorem tn_wMo29 : u_lay tn_RMo tn_FMo 29 ∈ tm_tb := tm_in 1035 (by decide +kernel) rfl
theorem tn_wMo30 : u_lay tn_RMo tn_FMo 30 ∈ tm_tb := tm_in 1037 (by decide +kernel) rfl
theorem tn_wMo31 : u_lay tn_RMo tn_FMo 31 ∈ tm_tb := tm_in 1039 (by decide +kernel) rfl
theorem tn_wMo32 : u_lay tn_RMo tn_FMo 32 ∈ tm_tb := tm_in 1041 (by decide +kernel) rfl
theorem tn_wMo33 : u_lay tn_RMo tn_FMo 33 ∈ tm_tb := tm_in 1043 (by decide +kernel) rfl
theorem tn_wMo34 : u_lay tn_RMo tn_FMo 34 ∈ tm_tb := tm_in 1045 (by decide +kernel) rfl
theorem tn_wMo35 : u_lay tn_RMo tn_FMo 35 ∈ tm_tb := tm_in 1047 (by decide +kernel) rfl
theorem tn_wMo36 : u_lay tn_RMo tn_FMo 36 ∈ tm_tb := tm_in 1049 (by decide +kernel) rfl
theorem tn_wMo37 : u_lay tn_RMo tn_FMo 37 ∈ tm_tb := tm_in 1051 (by decide +kernel) rfl
theorem tn_wMo38 : u_lay tn_RMo tn_FMo 38 ∈ tm_tb := tm_in 1053 (by decide +kernel) rfl
theorem tn_wMo39 : u_lay tn_RMo tn_FMo 39 ∈ tm_tb := tm_in 1055 (by decide +kernel) rfl
theorem tn_wMo : ∀ w ∈ u_ws tn_RMo tn_FMo 40, w ∈ tm_tb := by
  intro w hw
  obtain ⟨k, hk, rfl⟩ := List.mem_map.mp hw
  have hk := List.mem_range.mp hk
  match k, hk with
  | 0, _ => exact tn_wMo0
  | 1, _ => exact tn_wMo1
  | 2, _ => exact tn_wMo2
  | 3, _ => exact tn_wMo3
  | 4, _ => exact tn_wMo4
  | 5, _ => exact tn_wMo5
  | 6, _ => exact tn_wMo6
  | 7, _ => exact tn_wMo7
  | 8, _ => exact tn_wMo8
  | 9, _ => exact tn_wMo9
  | 10, _ => exact tn_wMo10
  | 11, _ => exact tn_wMo11
  | 12, _ => exact tn_wMo12
  | 13, _ => exact tn_wMo13
  | 14, _ => exact tn_wMo14
  | 15, _ => exact tn_wMo15
  | 16, _ => exact tn_wMo16
  | 17, _ => exact tn_wMo17
  | 18, _ => exact tn_wMo18
  | 19, _ => exact tn_wMo19
  | 20, _ => exact tn_wMo20
  | 21, _ => exact tn_wMo21
  | 22, _ => exact tn_wMo22
  | 23, _ => exact tn_wMo23
  | 24, _ => exact tn_wMo24
  | 25, _ => exact tn_wMo25
  | 26, _ => exact tn_wMo26
  | 27, _ => exact tn_wMo27
  | 28, _ => exact tn_wMo28
  | 29, _ => exact tn_wMo29
  | 30, _ => exact tn_wMo30
  | 31, _ => exact tn_wMo31
  | 32, _ => exact tn_wMo32
  | 33, _ => exact tn_wMo33
  | 34, _ => exact tn_wMo34
  | 35, _ => exact tn_wMo35
  | 36, _ => exact tn_wMo36
  | 37, _ => exact tn_wMo37
  | 38, _ => exact tn_wMo38
  | 39, _ => exact tn_wMo39
  | (k + 40), h => exact absurd h (by omega)
def tn_RXa : String := "java/lang/IllegalArgumentException"
def tn_FXa : u_T := fun _ => ("", "", "", false)
def tn_tXa : Nat → FieldType := fun _ => .int
theorem tn_nXa : ∀ a, a < 0 → ∀ b, b < 0 → a ≠ b → (tn_FXa a).2.1 ≠ (tn_FXa b).2.1 := fun a h => absurd h (Nat.not_lt_zero a)
theorem tn_tXa_ok : ∀ k, k < 0 → parseFieldDescriptor (tn_FXa k).2.2.1 = some (tn_tXa k) := fun k h => absurd h (Nat.not_lt_zero k)
theorem tn_wXa : ∀ w ∈ u_ws tn_RXa tn_FXa 0, w ∈ tm_tb := fun w h => nomatch h
def tn_RXi : String := "java/lang/IndexOutOfBoundsException"
def tn_FXi : u_T := fun _ => ("", "", "", false)
def tn_tXi : Nat → FieldType := fun _ => .int
theorem tn_nXi : ∀ a, a < 0 → ∀ b, b < 0 → a ≠ b → (tn_FXi a).2.1 ≠ (tn_FXi b).2.1 := fun a h => absurd h (Nat.not_lt_zero a)
theorem tn_tXi_ok : ∀ k, k < 0 → parseFieldDescriptor (tn_FXi k).2.2.1 = some (tn_tXi k) := fun k h => absurd h (Nat.not_lt_zero k)
theorem tn_wXi : ∀ w ∈ u_ws tn_RXi tn_FXi 0, w ∈ tm_tb := fun w h => nomatch h
def tm_cl : List vw_C := [(tn_RLa, tn_FLa, 8), (tn_RFi, tn_FFi, 8), (tn_RFo, tn_FFo, 1), (tn_RLi, tn_FLi, 2), (tn_RNu, tn_FNu, 1), (tn_RPr, tn_FPr, 11), (tn_RRo, tn_FRo, 4), (tn_RSc, tn_FSc, 8), (tn_RSh, tn_FSh, 9), (tn_RMo, tn_FMo, 40), (tn_RXa, tn_FXa, 0), (tn_RXi, tn_FXi, 0)]
def tm_ct (ci k : Nat) : FieldType := match ci with
  | 0 => tn_tLa k
  | 1 => tn_tFi k
  | 2 => tn_tFo k
  | 3 => tn_tLi k
  | 4 => tn_tNu k
  | 5 => tn_tPr k
  | 6 => tn_tRo k
  | 7 => tn_tSc k
  | 8 => tn_tSh k
  | 9 => tn_tMo k
  | 10 => tn_tXa k
  | _ => tn_tXi k
/-- what the tables say of each kind of object -/
def tm_clOK (ci : Nat) (q : vw_C) : Prop := (∀ w ∈ u_ws q.1 q.2.1 q.2.2, w ∈ tm_tb) ∧ (∀ k, k < q.2.2 → parseFieldDescriptor (q.2.1 k).2.2.1 = some (tm_ct ci k)) ∧ (∀ a, a < q.2.2 → ∀ b, b < q.2.2 → a ≠ b → (q.2.1 a).2.1 ≠ (q.2.1 b).2.1)
theorem tm_cl_ok : ∀ (ci : Nat) (q : vw_C), tm_cl[ci]? = some q → tm_clOK ci q := by
  intro ci q h
  match ci, h with
  | 0, h => cases h; exact ⟨tn_wLa, tn_tLa_ok, tn_nLa⟩
  | 1, h => cases h; exact ⟨tn_wFi, tn_tFi_ok, tn_nFi⟩
  | 2, h => cases h; exact ⟨tn_wFo, tn_tFo_ok, tn_nFo⟩
  | 3, h => cases h; exact ⟨tn_wLi, tn_tLi_ok, tn_nLi⟩
  | 4, h => cases h; exact ⟨tn_wNu, tn_tNu_ok, tn_nNu⟩
  | 5, h => cases h; exact ⟨tn_wPr, tn_tPr_ok, tn_nPr⟩
  | 6, h => cases h; exact ⟨tn_wRo, tn_tRo_ok, tn_nRo⟩
  | 7, h => cases h; exact ⟨tn_wSc, tn_tSc_ok, tn_nSc⟩
  | 8, h => cases h; exact ⟨tn_wSh, tn_tSh_ok, tn_nSh⟩
  | 9, h => cases h; exact ⟨tn_wMo, tn_tMo_ok, tn_nMo⟩
  | 10, h => cases h; exact ⟨tn_wXa, tn_tXa_ok, tn_nXa⟩
  | 11, h => cases h; exact ⟨tn_wXi, tn_tXi_ok, tn_nXi⟩
  | (ci + 12), h => simp [tm_cl] at h
