/-! tables of the program: by wip/gen_tables.py out of the claim's own words -/
theorem me_1 {w : Cond} (h : w ∈ tables_1_1) : w ∈ lw_tbl := List.mem_append_right _ (show w ∈ tables_1 from List.mem_append_left _ h)
theorem me_2 {w : Cond} (h : w ∈ tables_1_2) : w ∈ lw_tbl := List.mem_append_right _ (show w ∈ tables_1 from List.mem_append_right _ (List.mem_append_left _ h))
theorem me_3 {w : Cond} (h : w ∈ tables_1_3) : w ∈ lw_tbl := List.mem_append_right _ (show w ∈ tables_1 from List.mem_append_right _ (List.mem_append_right _ (List.mem_append_left _ h)))
theorem me_4 {w : Cond} (h : w ∈ tables_1_4) : w ∈ lw_tbl := List.mem_append_right _ (show w ∈ tables_1 from List.mem_append_right _ (List.mem_append_right _ (List.mem_append_right _ (List.mem_append_left _ h))))
theorem me_5 {w : Cond} (h : w ∈ tables_1_5) : w ∈ lw_tbl := List.mem_append_right _ (show w ∈ tables_1 from List.mem_append_right _ (List.mem_append_right _ (List.mem_append_right _ (List.mem_append_right _ (List.mem_append_left _ h)))))
theorem me_6 {w : Cond} (h : w ∈ tables_1_6) : w ∈ lw_tbl := List.mem_append_right _ (show w ∈ tables_1 from List.mem_append_right _ (List.mem_append_right _ (List.mem_append_right _ (List.mem_append_right _ (List.mem_append_right _ (List.mem_append_left _ h))))))
theorem me_7 {w : Cond} (h : w ∈ tables_1_7) : w ∈ lw_tbl := List.mem_append_right _ (show w ∈ tables_1 from List.mem_append_right _ (List.mem_append_right _ (List.mem_append_right _ (List.mem_append_right _ (List.mem_append_right _ (List.mem_append_right _ (List.mem_append_left _ h)))))))
theorem me_8 {w : Cond} (h : w ∈ tables_1_8) : w ∈ lw_tbl := List.mem_append_right _ (show w ∈ tables_1 from List.mem_append_right _ (List.mem_append_right _ (List.mem_append_right _ (List.mem_append_right _ (List.mem_append_right _ (List.mem_append_right _ (List.mem_append_right _ (List.mem_append_left _ h))))))))
theorem me_9 {w : Cond} (h : w ∈ tables_1_9) : w ∈ lw_tbl := List.mem_append_right _ (show w ∈ tables_1 from List.mem_append_right _ (List.mem_append_right _ (List.mem_append_right _ (List.mem_append_right _ (List.mem_append_right _ (List.mem_append_right _ (List.mem_append_right _ (List.mem_append_right _ (List.mem_append_left _ h)))))))))
theorem me_10 {w : Cond} (h : w ∈ tables_1_10) : w ∈ lw_tbl := List.mem_append_right _ (show w ∈ tables_1 from List.mem_append_right _ (List.mem_append_right _ (List.mem_append_right _ (List.mem_append_right _ (List.mem_append_right _ (List.mem_append_right _ (List.mem_append_right _ (List.mem_append_right _ (List.mem_append_right _ (h))))))))))
def cN : Nat → String := fun c => match c with
  | 0 => "StiltMarsh"
  | 1 => "StiltMarsh$Trays"
  | 2 => "StiltMarsh$State"
  | 3 => "StiltMarsh$Land"
  | 4 => "StiltMarsh$Folk"
  | 5 => "StiltMarsh$Stance"
  | 6 => "StiltMarsh$Program"
  | 7 => "StiltMarsh$Scanner"
  | 8 => "StiltMarsh$MarshReader"
  | 9 => "StiltMarsh$MorningsReader"
  | 10 => "StiltMarsh$Search"
  | 11 => "StiltMarsh$Living"
  | 12 => "StiltMarshModel"
  | 13 => "StiltMarshLaw"
  | 14 => "java/util/Arrays"
  | 15 => "java/lang/Integer"
  | _ => ""
def fT0 : u_T := fun k => match k with
  | 0 => ("StiltMarsh", "status", "I", false)
  | 1 => ("StiltMarsh", "top", "J", false)
  | 2 => ("StiltMarsh", "bottom", "J", false)
  | 3 => ("StiltMarsh", "tapeLength", "I", false)
  | 4 => ("StiltMarsh", "faultKind", "I", false)
  | 5 => ("StiltMarsh", "faultPlace", "I", false)
  | 6 => ("StiltMarsh", "markCount", "I", false)
  | 7 => ("StiltMarsh", "hasLived", "Z", false)
  | 8 => ("StiltMarsh", "tape", "[B", true)
  | 9 => ("StiltMarsh", "lived", "[I", true)
  | 10 => ("StiltMarsh", "trays", "LStiltMarsh$Trays;", true)
  | 11 => ("StiltMarsh", "now", "LStiltMarsh$State;", true)
  | 12 => ("StiltMarsh", "scratch", "LStiltMarsh$State;", true)
  | 13 => ("StiltMarsh", "marks", "[LStiltMarsh$State;", true)
  | 14 => ("StiltMarsh", "scanner", "LStiltMarsh$Scanner;", true)
  | 15 => ("StiltMarsh", "marshReader", "LStiltMarsh$MarshReader;", true)
  | 16 => ("StiltMarsh", "morningsReader", "LStiltMarsh$MorningsReader;", true)
  | 17 => ("StiltMarsh", "search", "LStiltMarsh$Search;", true)
  | _ => ("StiltMarsh", "living", "LStiltMarsh$Living;", true)
def fY0 : Nat → FieldType := fun k => match k with
  | 0 => .int
  | 1 => .long
  | 2 => .long
  | 3 => .int
  | 4 => .int
  | 5 => .int
  | 6 => .int
  | 7 => .boolean
  | 8 => (.array .byte)
  | 9 => (.array .int)
  | 10 => (.object "StiltMarsh$Trays")
  | 11 => (.object "StiltMarsh$State")
  | 12 => (.object "StiltMarsh$State")
  | 13 => (.array (.object "StiltMarsh$State"))
  | 14 => (.object "StiltMarsh$Scanner")
  | 15 => (.object "StiltMarsh$MarshReader")
  | 16 => (.object "StiltMarsh$MorningsReader")
  | 17 => (.object "StiltMarsh$Search")
  | _ => (.object "StiltMarsh$Living")
theorem fnm0 : ∀ a, a < 19 → ∀ b, b < 19 → a ≠ b → (fT0 a).2.1 ≠ (fT0 b).2.1 := by decide +kernel
theorem fty0 : ∀ k, k < 19 → parseFieldDescriptor (fT0 k).2.2.1 = some (fY0 k) := by decide +kernel
theorem fw0_0 : u_lay "StiltMarsh" fT0 0 ∈ lw_tbl := me_3 (List.mem_of_getElem? (i := 56) rfl)
theorem fw0_1 : u_lay "StiltMarsh" fT0 1 ∈ lw_tbl := me_3 (List.mem_of_getElem? (i := 58) rfl)
theorem fw0_2 : u_lay "StiltMarsh" fT0 2 ∈ lw_tbl := me_3 (List.mem_of_getElem? (i := 60) rfl)
theorem fw0_3 : u_lay "StiltMarsh" fT0 3 ∈ lw_tbl := me_3 (List.mem_of_getElem? (i := 62) rfl)
theorem fw0_4 : u_lay "StiltMarsh" fT0 4 ∈ lw_tbl := me_3 (List.mem_of_getElem? (i := 64) rfl)
theorem fw0_5 : u_lay "StiltMarsh" fT0 5 ∈ lw_tbl := me_3 (List.mem_of_getElem? (i := 66) rfl)
theorem fw0_6 : u_lay "StiltMarsh" fT0 6 ∈ lw_tbl := me_3 (List.mem_of_getElem? (i := 68) rfl)
theorem fw0_7 : u_lay "StiltMarsh" fT0 7 ∈ lw_tbl := me_3 (List.mem_of_getElem? (i := 70) rfl)
theorem fw0_8 : u_lay "StiltMarsh" fT0 8 ∈ lw_tbl := me_3 (List.mem_of_getElem? (i := 72) rfl)
theorem fw0_9 : u_lay "StiltMarsh" fT0 9 ∈ lw_tbl := me_3 (List.mem_of_getElem? (i := 74) rfl)
theorem fw0_10 : u_lay "StiltMarsh" fT0 10 ∈ lw_tbl := me_3 (List.mem_of_getElem? (i := 76) rfl)
theorem fw0_11 : u_lay "StiltMarsh" fT0 11 ∈ lw_tbl := me_3 (List.mem_of_getElem? (i := 78) rfl)
theorem fw0_12 : u_lay "StiltMarsh" fT0 12 ∈ lw_tbl := me_3 (List.mem_of_getElem? (i := 80) rfl)
theorem fw0_13 : u_lay "StiltMarsh" fT0 13 ∈ lw_tbl := me_3 (List.mem_of_getElem? (i := 82) rfl)
theorem fw0_14 : u_lay "StiltMarsh" fT0 14 ∈ lw_tbl := me_3 (List.mem_of_getElem? (i := 84) rfl)
theorem fw0_15 : u_lay "StiltMarsh" fT0 15 ∈ lw_tbl := me_3 (List.mem_of_getElem? (i := 86) rfl)
theorem fw0_16 : u_lay "StiltMarsh" fT0 16 ∈ lw_tbl := me_3 (List.mem_of_getElem? (i := 88) rfl)
theorem fw0_17 : u_lay "StiltMarsh" fT0 17 ∈ lw_tbl := me_3 (List.mem_of_getElem? (i := 90) rfl)
theorem fw0_18 : u_lay "StiltMarsh" fT0 18 ∈ lw_tbl := me_3 (List.mem_of_getElem? (i := 92) rfl)
theorem fin0 : ∀ w ∈ u_ws "StiltMarsh" fT0 19, w ∈ lw_tbl := by
  intro w hw
  obtain ⟨k, hk, rfl⟩ := List.mem_map.mp hw
  have hk := List.mem_range.mp hk
  match k, hk with
  | 0, _ => exact fw0_0
  | 1, _ => exact fw0_1
  | 2, _ => exact fw0_2
  | 3, _ => exact fw0_3
  | 4, _ => exact fw0_4
  | 5, _ => exact fw0_5
  | 6, _ => exact fw0_6
  | 7, _ => exact fw0_7
  | 8, _ => exact fw0_8
  | 9, _ => exact fw0_9
  | 10, _ => exact fw0_10
  | 11, _ => exact fw0_11
  | 12, _ => exact fw0_12
  | 13, _ => exact fw0_13
  | 14, _ => exact fw0_14
  | 15, _ => exact fw0_15
  | 16, _ => exact fw0_16
  | 17, _ => exact fw0_17
  | 18, _ => exact fw0_18
  | n + 19, h => exact absurd h (by omega)
def fT1 : u_T := fun k => match k with
  | 0 => ("StiltMarsh$Trays", "numbers", "[J", true)
  | 1 => ("StiltMarsh$Trays", "sorts", "[I", true)
  | _ => ("StiltMarsh$Trays", "sizes", "[I", true)
def fY1 : Nat → FieldType := fun k => match k with
  | 0 => (.array .long)
  | 1 => (.array .int)
  | _ => (.array .int)
theorem fnm1 : ∀ a, a < 3 → ∀ b, b < 3 → a ≠ b → (fT1 a).2.1 ≠ (fT1 b).2.1 := by decide +kernel
theorem fty1 : ∀ k, k < 3 → parseFieldDescriptor (fT1 k).2.2.1 = some (fY1 k) := by decide +kernel
theorem fw1_0 : u_lay "StiltMarsh$Trays" fT1 0 ∈ lw_tbl := me_1 (List.mem_of_getElem? (i := 42) rfl)
theorem fw1_1 : u_lay "StiltMarsh$Trays" fT1 1 ∈ lw_tbl := me_1 (List.mem_of_getElem? (i := 44) rfl)
theorem fw1_2 : u_lay "StiltMarsh$Trays" fT1 2 ∈ lw_tbl := me_1 (List.mem_of_getElem? (i := 46) rfl)
theorem fin1 : ∀ w ∈ u_ws "StiltMarsh$Trays" fT1 3, w ∈ lw_tbl := by
  intro w hw
  obtain ⟨k, hk, rfl⟩ := List.mem_map.mp hw
  have hk := List.mem_range.mp hk
  match k, hk with
  | 0, _ => exact fw1_0
  | 1, _ => exact fw1_1
  | 2, _ => exact fw1_2
  | n + 3, h => exact absurd h (by omega)
def fT2 : u_T := fun k => match k with
  | 0 => ("StiltMarsh$State", "land", "LStiltMarsh$Land;", true)
  | 1 => ("StiltMarsh$State", "folk", "LStiltMarsh$Folk;", true)
  | 2 => ("StiltMarsh$State", "stance", "LStiltMarsh$Stance;", true)
  | _ => ("StiltMarsh$State", "program", "LStiltMarsh$Program;", true)
def fY2 : Nat → FieldType := fun k => match k with
  | 0 => (.object "StiltMarsh$Land")
  | 1 => (.object "StiltMarsh$Folk")
  | 2 => (.object "StiltMarsh$Stance")
  | _ => (.object "StiltMarsh$Program")
theorem fnm2 : ∀ a, a < 4 → ∀ b, b < 4 → a ≠ b → (fT2 a).2.1 ≠ (fT2 b).2.1 := by decide +kernel
theorem fty2 : ∀ k, k < 4 → parseFieldDescriptor (fT2 k).2.2.1 = some (fY2 k) := by decide +kernel
theorem fw2_0 : u_lay "StiltMarsh$State" fT2 0 ∈ lw_tbl := me_2 (List.mem_of_getElem? (i := 36) rfl)
theorem fw2_1 : u_lay "StiltMarsh$State" fT2 1 ∈ lw_tbl := me_2 (List.mem_of_getElem? (i := 38) rfl)
theorem fw2_2 : u_lay "StiltMarsh$State" fT2 2 ∈ lw_tbl := me_2 (List.mem_of_getElem? (i := 40) rfl)
theorem fw2_3 : u_lay "StiltMarsh$State" fT2 3 ∈ lw_tbl := me_2 (List.mem_of_getElem? (i := 42) rfl)
theorem fin2 : ∀ w ∈ u_ws "StiltMarsh$State" fT2 4, w ∈ lw_tbl := by
  intro w hw
  obtain ⟨k, hk, rfl⟩ := List.mem_map.mp hw
  have hk := List.mem_range.mp hk
  match k, hk with
  | 0, _ => exact fw2_0
  | 1, _ => exact fw2_1
  | 2, _ => exact fw2_2
  | 3, _ => exact fw2_3
  | n + 4, h => exact absurd h (by omega)
def fT3 : u_T := fun k => match k with
  | 0 => ("StiltMarsh$Land", "wide", "I", false)
  | 1 => ("StiltMarsh$Land", "rows", "I", false)
  | 2 => ("StiltMarsh$Land", "cells", "I", false)
  | 3 => ("StiltMarsh$Land", "mends", "I", false)
  | 4 => ("StiltMarsh$Land", "firm", "I", false)
  | 5 => ("StiltMarsh$Land", "columns", "[I", true)
  | 6 => ("StiltMarsh$Land", "rowsOf", "[I", true)
  | 7 => ("StiltMarsh$Land", "whole", "[I", true)
  | 8 => ("StiltMarsh$Land", "soft", "[I", true)
  | 9 => ("StiltMarsh$Land", "depth", "[I", true)
  | _ => ("StiltMarsh$Land", "odds", "[I", true)
def fY3 : Nat → FieldType := fun k => match k with
  | 0 => .int
  | 1 => .int
  | 2 => .int
  | 3 => .int
  | 4 => .int
  | 5 => (.array .int)
  | 6 => (.array .int)
  | 7 => (.array .int)
  | 8 => (.array .int)
  | 9 => (.array .int)
  | _ => (.array .int)
theorem fnm3 : ∀ a, a < 11 → ∀ b, b < 11 → a ≠ b → (fT3 a).2.1 ≠ (fT3 b).2.1 := by decide +kernel
theorem fty3 : ∀ k, k < 11 → parseFieldDescriptor (fT3 k).2.2.1 = some (fY3 k) := by decide +kernel
theorem fw3_0 : u_lay "StiltMarsh$Land" fT3 0 ∈ lw_tbl := me_1 (List.mem_of_getElem? (i := 101) rfl)
theorem fw3_1 : u_lay "StiltMarsh$Land" fT3 1 ∈ lw_tbl := me_1 (List.mem_of_getElem? (i := 103) rfl)
theorem fw3_2 : u_lay "StiltMarsh$Land" fT3 2 ∈ lw_tbl := me_1 (List.mem_of_getElem? (i := 105) rfl)
theorem fw3_3 : u_lay "StiltMarsh$Land" fT3 3 ∈ lw_tbl := me_1 (List.mem_of_getElem? (i := 107) rfl)
theorem fw3_4 : u_lay "StiltMarsh$Land" fT3 4 ∈ lw_tbl := me_1 (List.mem_of_getElem? (i := 109) rfl)
theorem fw3_5 : u_lay "StiltMarsh$Land" fT3 5 ∈ lw_tbl := me_1 (List.mem_of_getElem? (i := 111) rfl)
theorem fw3_6 : u_lay "StiltMarsh$Land" fT3 6 ∈ lw_tbl := me_1 (List.mem_of_getElem? (i := 113) rfl)
theorem fw3_7 : u_lay "StiltMarsh$Land" fT3 7 ∈ lw_tbl := me_1 (List.mem_of_getElem? (i := 115) rfl)
theorem fw3_8 : u_lay "StiltMarsh$Land" fT3 8 ∈ lw_tbl := me_1 (List.mem_of_getElem? (i := 117) rfl)
theorem fw3_9 : u_lay "StiltMarsh$Land" fT3 9 ∈ lw_tbl := me_1 (List.mem_of_getElem? (i := 119) rfl)
theorem fw3_10 : u_lay "StiltMarsh$Land" fT3 10 ∈ lw_tbl := me_1 (List.mem_of_getElem? (i := 121) rfl)
theorem fin3 : ∀ w ∈ u_ws "StiltMarsh$Land" fT3 11, w ∈ lw_tbl := by
  intro w hw
  obtain ⟨k, hk, rfl⟩ := List.mem_map.mp hw
  have hk := List.mem_range.mp hk
  match k, hk with
  | 0, _ => exact fw3_0
  | 1, _ => exact fw3_1
  | 2, _ => exact fw3_2
  | 3, _ => exact fw3_3
  | 4, _ => exact fw3_4
  | 5, _ => exact fw3_5
  | 6, _ => exact fw3_6
  | 7, _ => exact fw3_7
  | 8, _ => exact fw3_8
  | 9, _ => exact fw3_9
  | 10, _ => exact fw3_10
  | n + 11, h => exact absurd h (by omega)
def fT4 : u_T := fun k => match k with
  | 0 => ("StiltMarsh$Folk", "count", "I", false)
  | 1 => ("StiltMarsh$Folk", "names", "[J", true)
  | 2 => ("StiltMarsh$Folk", "weight", "[I", true)
  | 3 => ("StiltMarsh$Folk", "reach", "[I", true)
  | 4 => ("StiltMarsh$Folk", "length", "[I", true)
  | 5 => ("StiltMarsh$Folk", "load", "[I", true)
  | 6 => ("StiltMarsh$Folk", "goal", "[I", true)
  | _ => ("StiltMarsh$Folk", "steps", "[I", true)
def fY4 : Nat → FieldType := fun k => match k with
  | 0 => .int
  | 1 => (.array .long)
  | 2 => (.array .int)
  | 3 => (.array .int)
  | 4 => (.array .int)
  | 5 => (.array .int)
  | 6 => (.array .int)
  | _ => (.array .int)
theorem fnm4 : ∀ a, a < 8 → ∀ b, b < 8 → a ≠ b → (fT4 a).2.1 ≠ (fT4 b).2.1 := by decide +kernel
theorem fty4 : ∀ k, k < 8 → parseFieldDescriptor (fT4 k).2.2.1 = some (fY4 k) := by decide +kernel
theorem fw4_0 : u_lay "StiltMarsh$Folk" fT4 0 ∈ lw_tbl := me_1 (List.mem_of_getElem? (i := 159) rfl)
theorem fw4_1 : u_lay "StiltMarsh$Folk" fT4 1 ∈ lw_tbl := me_1 (List.mem_of_getElem? (i := 161) rfl)
theorem fw4_2 : u_lay "StiltMarsh$Folk" fT4 2 ∈ lw_tbl := me_1 (List.mem_of_getElem? (i := 163) rfl)
theorem fw4_3 : u_lay "StiltMarsh$Folk" fT4 3 ∈ lw_tbl := me_1 (List.mem_of_getElem? (i := 165) rfl)
theorem fw4_4 : u_lay "StiltMarsh$Folk" fT4 4 ∈ lw_tbl := me_1 (List.mem_of_getElem? (i := 167) rfl)
theorem fw4_5 : u_lay "StiltMarsh$Folk" fT4 5 ∈ lw_tbl := me_1 (List.mem_of_getElem? (i := 169) rfl)
theorem fw4_6 : u_lay "StiltMarsh$Folk" fT4 6 ∈ lw_tbl := me_1 (List.mem_of_getElem? (i := 171) rfl)
theorem fw4_7 : u_lay "StiltMarsh$Folk" fT4 7 ∈ lw_tbl := me_1 (List.mem_of_getElem? (i := 173) rfl)
theorem fin4 : ∀ w ∈ u_ws "StiltMarsh$Folk" fT4 8, w ∈ lw_tbl := by
  intro w hw
  obtain ⟨k, hk, rfl⟩ := List.mem_map.mp hw
  have hk := List.mem_range.mp hk
  match k, hk with
  | 0, _ => exact fw4_0
  | 1, _ => exact fw4_1
  | 2, _ => exact fw4_2
  | 3, _ => exact fw4_3
  | 4, _ => exact fw4_4
  | 5, _ => exact fw4_5
  | 6, _ => exact fw4_6
  | 7, _ => exact fw4_7
  | n + 8, h => exact absurd h (by omega)
def fT5 : u_T := fun k => match k with
  | 0 => ("StiltMarsh$Stance", "land", "LStiltMarsh$Land;", true)
  | 1 => ("StiltMarsh$Stance", "folk", "LStiltMarsh$Folk;", true)
  | 2 => ("StiltMarsh$Stance", "skin", "[I", true)
  | 3 => ("StiltMarsh$Stance", "at", "[I", true)
  | 4 => ("StiltMarsh$Stance", "sunk", "[I", true)
  | 5 => ("StiltMarsh$Stance", "fallen", "I", false)
  | _ => ("StiltMarsh$Stance", "moment", "I", false)
def fY5 : Nat → FieldType := fun k => match k with
  | 0 => (.object "StiltMarsh$Land")
  | 1 => (.object "StiltMarsh$Folk")
  | 2 => (.array .int)
  | 3 => (.array .int)
  | 4 => (.array .int)
  | 5 => .int
  | _ => .int
theorem fnm5 : ∀ a, a < 7 → ∀ b, b < 7 → a ≠ b → (fT5 a).2.1 ≠ (fT5 b).2.1 := by decide +kernel
theorem fty5 : ∀ k, k < 7 → parseFieldDescriptor (fT5 k).2.2.1 = some (fY5 k) := by decide +kernel
theorem fw5_0 : u_lay "StiltMarsh$Stance" fT5 0 ∈ lw_tbl := me_1 (List.mem_of_getElem? (i := 200) rfl)
theorem fw5_1 : u_lay "StiltMarsh$Stance" fT5 1 ∈ lw_tbl := me_1 (List.mem_of_getElem? (i := 202) rfl)
theorem fw5_2 : u_lay "StiltMarsh$Stance" fT5 2 ∈ lw_tbl := me_1 (List.mem_of_getElem? (i := 204) rfl)
theorem fw5_3 : u_lay "StiltMarsh$Stance" fT5 3 ∈ lw_tbl := me_1 (List.mem_of_getElem? (i := 206) rfl)
theorem fw5_4 : u_lay "StiltMarsh$Stance" fT5 4 ∈ lw_tbl := me_1 (List.mem_of_getElem? (i := 208) rfl)
theorem fw5_5 : u_lay "StiltMarsh$Stance" fT5 5 ∈ lw_tbl := me_1 (List.mem_of_getElem? (i := 210) rfl)
theorem fw5_6 : u_lay "StiltMarsh$Stance" fT5 6 ∈ lw_tbl := me_1 (List.mem_of_getElem? (i := 212) rfl)
theorem fin5 : ∀ w ∈ u_ws "StiltMarsh$Stance" fT5 7, w ∈ lw_tbl := by
  intro w hw
  obtain ⟨k, hk, rfl⟩ := List.mem_map.mp hw
  have hk := List.mem_range.mp hk
  match k, hk with
  | 0, _ => exact fw5_0
  | 1, _ => exact fw5_1
  | 2, _ => exact fw5_2
  | 3, _ => exact fw5_3
  | 4, _ => exact fw5_4
  | 5, _ => exact fw5_5
  | 6, _ => exact fw5_6
  | n + 7, h => exact absurd h (by omega)
def fT6 : u_T := fun k => match k with
  | 0 => ("StiltMarsh$Program", "there", "Z", false)
  | 1 => ("StiltMarsh$Program", "steps", "I", false)
  | 2 => ("StiltMarsh$Program", "size", "I", false)
  | 3 => ("StiltMarsh$Program", "act", "[I", true)
  | 4 => ("StiltMarsh$Program", "first", "[I", true)
  | 5 => ("StiltMarsh$Program", "second", "[I", true)
  | 6 => ("StiltMarsh$Program", "third", "[I", true)
  | _ => ("StiltMarsh$Program", "partner", "[I", true)
def fY6 : Nat → FieldType := fun k => match k with
  | 0 => .boolean
  | 1 => .int
  | 2 => .int
  | 3 => (.array .int)
  | 4 => (.array .int)
  | 5 => (.array .int)
  | 6 => (.array .int)
  | _ => (.array .int)
theorem fnm6 : ∀ a, a < 8 → ∀ b, b < 8 → a ≠ b → (fT6 a).2.1 ≠ (fT6 b).2.1 := by decide +kernel
theorem fty6 : ∀ k, k < 8 → parseFieldDescriptor (fT6 k).2.2.1 = some (fY6 k) := by decide +kernel
theorem fw6_0 : u_lay "StiltMarsh$Program" fT6 0 ∈ lw_tbl := me_1 (List.mem_of_getElem? (i := 239) rfl)
theorem fw6_1 : u_lay "StiltMarsh$Program" fT6 1 ∈ lw_tbl := me_2 (List.mem_of_getElem? (i := 1) rfl)
theorem fw6_2 : u_lay "StiltMarsh$Program" fT6 2 ∈ lw_tbl := me_2 (List.mem_of_getElem? (i := 3) rfl)
theorem fw6_3 : u_lay "StiltMarsh$Program" fT6 3 ∈ lw_tbl := me_2 (List.mem_of_getElem? (i := 5) rfl)
theorem fw6_4 : u_lay "StiltMarsh$Program" fT6 4 ∈ lw_tbl := me_2 (List.mem_of_getElem? (i := 7) rfl)
theorem fw6_5 : u_lay "StiltMarsh$Program" fT6 5 ∈ lw_tbl := me_2 (List.mem_of_getElem? (i := 9) rfl)
theorem fw6_6 : u_lay "StiltMarsh$Program" fT6 6 ∈ lw_tbl := me_2 (List.mem_of_getElem? (i := 11) rfl)
theorem fw6_7 : u_lay "StiltMarsh$Program" fT6 7 ∈ lw_tbl := me_2 (List.mem_of_getElem? (i := 13) rfl)
theorem fin6 : ∀ w ∈ u_ws "StiltMarsh$Program" fT6 8, w ∈ lw_tbl := by
  intro w hw
  obtain ⟨k, hk, rfl⟩ := List.mem_map.mp hw
  have hk := List.mem_range.mp hk
  match k, hk with
  | 0, _ => exact fw6_0
  | 1, _ => exact fw6_1
  | 2, _ => exact fw6_2
  | 3, _ => exact fw6_3
  | 4, _ => exact fw6_4
  | 5, _ => exact fw6_5
  | 6, _ => exact fw6_6
  | 7, _ => exact fw6_7
  | n + 8, h => exact absurd h (by omega)
def fT7 : u_T := fun k => match k with
  | 0 => ("StiltMarsh$Scanner", "ownWords", "[J", true)
  | 1 => ("StiltMarsh$Scanner", "text", "[B", false)
  | 2 => ("StiltMarsh$Scanner", "length", "I", false)
  | 3 => ("StiltMarsh$Scanner", "next", "I", false)
  | 4 => ("StiltMarsh$Scanner", "kind", "I", false)
  | 5 => ("StiltMarsh$Scanner", "place", "I", false)
  | 6 => ("StiltMarsh$Scanner", "value", "J", false)
  | 7 => ("StiltMarsh$Scanner", "faultKind", "I", false)
  | _ => ("StiltMarsh$Scanner", "faultPlace", "I", false)
def fY7 : Nat → FieldType := fun k => match k with
  | 0 => (.array .long)
  | 1 => (.array .byte)
  | 2 => .int
  | 3 => .int
  | 4 => .int
  | 5 => .int
  | 6 => .long
  | 7 => .int
  | _ => .int
theorem fnm7 : ∀ a, a < 9 → ∀ b, b < 9 → a ≠ b → (fT7 a).2.1 ≠ (fT7 b).2.1 := by decide +kernel
theorem fty7 : ∀ k, k < 9 → parseFieldDescriptor (fT7 k).2.2.1 = some (fY7 k) := by decide +kernel
theorem fw7_0 : u_lay "StiltMarsh$Scanner" fT7 0 ∈ lw_tbl := me_2 (List.mem_of_getElem? (i := 113) rfl)
theorem fw7_1 : u_lay "StiltMarsh$Scanner" fT7 1 ∈ lw_tbl := me_2 (List.mem_of_getElem? (i := 115) rfl)
theorem fw7_2 : u_lay "StiltMarsh$Scanner" fT7 2 ∈ lw_tbl := me_2 (List.mem_of_getElem? (i := 117) rfl)
theorem fw7_3 : u_lay "StiltMarsh$Scanner" fT7 3 ∈ lw_tbl := me_2 (List.mem_of_getElem? (i := 119) rfl)
theorem fw7_4 : u_lay "StiltMarsh$Scanner" fT7 4 ∈ lw_tbl := me_2 (List.mem_of_getElem? (i := 121) rfl)
theorem fw7_5 : u_lay "StiltMarsh$Scanner" fT7 5 ∈ lw_tbl := me_2 (List.mem_of_getElem? (i := 123) rfl)
theorem fw7_6 : u_lay "StiltMarsh$Scanner" fT7 6 ∈ lw_tbl := me_2 (List.mem_of_getElem? (i := 125) rfl)
theorem fw7_7 : u_lay "StiltMarsh$Scanner" fT7 7 ∈ lw_tbl := me_2 (List.mem_of_getElem? (i := 127) rfl)
theorem fw7_8 : u_lay "StiltMarsh$Scanner" fT7 8 ∈ lw_tbl := me_2 (List.mem_of_getElem? (i := 129) rfl)
theorem fin7 : ∀ w ∈ u_ws "StiltMarsh$Scanner" fT7 9, w ∈ lw_tbl := by
  intro w hw
  obtain ⟨k, hk, rfl⟩ := List.mem_map.mp hw
  have hk := List.mem_range.mp hk
  match k, hk with
  | 0, _ => exact fw7_0
  | 1, _ => exact fw7_1
  | 2, _ => exact fw7_2
  | 3, _ => exact fw7_3
  | 4, _ => exact fw7_4
  | 5, _ => exact fw7_5
  | 6, _ => exact fw7_6
  | 7, _ => exact fw7_7
  | 8, _ => exact fw7_8
  | n + 9, h => exact absurd h (by omega)
def fT8 : u_T := fun k => match k with
  | 0 => ("StiltMarsh$MarshReader", "scanner", "LStiltMarsh$Scanner;", true)
  | 1 => ("StiltMarsh$MarshReader", "state", "LStiltMarsh$State;", true)
  | _ => ("StiltMarsh$MarshReader", "mendsTold", "Z", false)
def fY8 : Nat → FieldType := fun k => match k with
  | 0 => (.object "StiltMarsh$Scanner")
  | 1 => (.object "StiltMarsh$State")
  | _ => .boolean
theorem fnm8 : ∀ a, a < 3 → ∀ b, b < 3 → a ≠ b → (fT8 a).2.1 ≠ (fT8 b).2.1 := by decide +kernel
theorem fty8 : ∀ k, k < 3 → parseFieldDescriptor (fT8 k).2.2.1 = some (fY8 k) := by decide +kernel
theorem fw8_0 : u_lay "StiltMarsh$MarshReader" fT8 0 ∈ lw_tbl := me_2 (List.mem_of_getElem? (i := 141) rfl)
theorem fw8_1 : u_lay "StiltMarsh$MarshReader" fT8 1 ∈ lw_tbl := me_2 (List.mem_of_getElem? (i := 143) rfl)
theorem fw8_2 : u_lay "StiltMarsh$MarshReader" fT8 2 ∈ lw_tbl := me_2 (List.mem_of_getElem? (i := 145) rfl)
theorem fin8 : ∀ w ∈ u_ws "StiltMarsh$MarshReader" fT8 3, w ∈ lw_tbl := by
  intro w hw
  obtain ⟨k, hk, rfl⟩ := List.mem_map.mp hw
  have hk := List.mem_range.mp hk
  match k, hk with
  | 0, _ => exact fw8_0
  | 1, _ => exact fw8_1
  | 2, _ => exact fw8_2
  | n + 3, h => exact absurd h (by omega)
def fT9 : u_T := fun k => match k with
  | 0 => ("StiltMarsh$MorningsReader", "scanner", "LStiltMarsh$Scanner;", true)
  | 1 => ("StiltMarsh$MorningsReader", "now", "LStiltMarsh$State;", true)
  | 2 => ("StiltMarsh$MorningsReader", "program", "LStiltMarsh$Program;", true)
  | 3 => ("StiltMarsh$MorningsReader", "open", "[I", true)
  | _ => ("StiltMarsh$MorningsReader", "openCount", "I", false)
def fY9 : Nat → FieldType := fun k => match k with
  | 0 => (.object "StiltMarsh$Scanner")
  | 1 => (.object "StiltMarsh$State")
  | 2 => (.object "StiltMarsh$Program")
  | 3 => (.array .int)
  | _ => .int
theorem fnm9 : ∀ a, a < 5 → ∀ b, b < 5 → a ≠ b → (fT9 a).2.1 ≠ (fT9 b).2.1 := by decide +kernel
theorem fty9 : ∀ k, k < 5 → parseFieldDescriptor (fT9 k).2.2.1 = some (fY9 k) := by decide +kernel
theorem fw9_0 : u_lay "StiltMarsh$MorningsReader" fT9 0 ∈ lw_tbl := me_2 (List.mem_of_getElem? (i := 159) rfl)
theorem fw9_1 : u_lay "StiltMarsh$MorningsReader" fT9 1 ∈ lw_tbl := me_2 (List.mem_of_getElem? (i := 161) rfl)
theorem fw9_2 : u_lay "StiltMarsh$MorningsReader" fT9 2 ∈ lw_tbl := me_2 (List.mem_of_getElem? (i := 163) rfl)
theorem fw9_3 : u_lay "StiltMarsh$MorningsReader" fT9 3 ∈ lw_tbl := me_2 (List.mem_of_getElem? (i := 165) rfl)
theorem fw9_4 : u_lay "StiltMarsh$MorningsReader" fT9 4 ∈ lw_tbl := me_2 (List.mem_of_getElem? (i := 167) rfl)
theorem fin9 : ∀ w ∈ u_ws "StiltMarsh$MorningsReader" fT9 5, w ∈ lw_tbl := by
  intro w hw
  obtain ⟨k, hk, rfl⟩ := List.mem_map.mp hw
  have hk := List.mem_range.mp hk
  match k, hk with
  | 0, _ => exact fw9_0
  | 1, _ => exact fw9_1
  | 2, _ => exact fw9_2
  | 3, _ => exact fw9_3
  | 4, _ => exact fw9_4
  | n + 5, h => exact absurd h (by omega)
def fT10 : u_T := fun k => match k with
  | 0 => ("StiltMarsh$Search", "now", "LStiltMarsh$State;", true)
  | 1 => ("StiltMarsh$Search", "land", "LStiltMarsh$Land;", true)
  | 2 => ("StiltMarsh$Search", "folk", "LStiltMarsh$Folk;", true)
  | 3 => ("StiltMarsh$Search", "levels", "[LStiltMarsh$Stance;", true)
  | 4 => ("StiltMarsh$Search", "costs", "[I", true)
  | 5 => ("StiltMarsh$Search", "neighbours", "[I", true)
  | 6 => ("StiltMarsh$Search", "sums", "[J", true)
  | 7 => ("StiltMarsh$Search", "sparesSkin", "Z", false)
  | 8 => ("StiltMarsh$Search", "rowsLength", "I", false)
  | 9 => ("StiltMarsh$Search", "triedPole", "I", false)
  | 10 => ("StiltMarsh$Search", "triedCell", "I", false)
  | 11 => ("StiltMarsh$Search", "best", "I", false)
  | 12 => ("StiltMarsh$Search", "bestPole", "I", false)
  | 13 => ("StiltMarsh$Search", "bestCell", "I", false)
  | 14 => ("StiltMarsh$Search", "ways", "I", false)
  | _ => ("StiltMarsh$Search", "sureSet", "I", false)
def fY10 : Nat → FieldType := fun k => match k with
  | 0 => (.object "StiltMarsh$State")
  | 1 => (.object "StiltMarsh$Land")
  | 2 => (.object "StiltMarsh$Folk")
  | 3 => (.array (.object "StiltMarsh$Stance"))
  | 4 => (.array .int)
  | 5 => (.array .int)
  | 6 => (.array .long)
  | 7 => .boolean
  | 8 => .int
  | 9 => .int
  | 10 => .int
  | 11 => .int
  | 12 => .int
  | 13 => .int
  | 14 => .int
  | _ => .int
theorem fnm10 : ∀ a, a < 16 → ∀ b, b < 16 → a ≠ b → (fT10 a).2.1 ≠ (fT10 b).2.1 := by decide +kernel
theorem fty10 : ∀ k, k < 16 → parseFieldDescriptor (fT10 k).2.2.1 = some (fY10 k) := by decide +kernel
theorem fw10_0 : u_lay "StiltMarsh$Search" fT10 0 ∈ lw_tbl := me_2 (List.mem_of_getElem? (i := 200) rfl)
theorem fw10_1 : u_lay "StiltMarsh$Search" fT10 1 ∈ lw_tbl := me_2 (List.mem_of_getElem? (i := 202) rfl)
theorem fw10_2 : u_lay "StiltMarsh$Search" fT10 2 ∈ lw_tbl := me_2 (List.mem_of_getElem? (i := 204) rfl)
theorem fw10_3 : u_lay "StiltMarsh$Search" fT10 3 ∈ lw_tbl := me_2 (List.mem_of_getElem? (i := 206) rfl)
theorem fw10_4 : u_lay "StiltMarsh$Search" fT10 4 ∈ lw_tbl := me_2 (List.mem_of_getElem? (i := 208) rfl)
theorem fw10_5 : u_lay "StiltMarsh$Search" fT10 5 ∈ lw_tbl := me_2 (List.mem_of_getElem? (i := 210) rfl)
theorem fw10_6 : u_lay "StiltMarsh$Search" fT10 6 ∈ lw_tbl := me_2 (List.mem_of_getElem? (i := 212) rfl)
theorem fw10_7 : u_lay "StiltMarsh$Search" fT10 7 ∈ lw_tbl := me_2 (List.mem_of_getElem? (i := 214) rfl)
theorem fw10_8 : u_lay "StiltMarsh$Search" fT10 8 ∈ lw_tbl := me_2 (List.mem_of_getElem? (i := 216) rfl)
theorem fw10_9 : u_lay "StiltMarsh$Search" fT10 9 ∈ lw_tbl := me_2 (List.mem_of_getElem? (i := 218) rfl)
theorem fw10_10 : u_lay "StiltMarsh$Search" fT10 10 ∈ lw_tbl := me_2 (List.mem_of_getElem? (i := 220) rfl)
theorem fw10_11 : u_lay "StiltMarsh$Search" fT10 11 ∈ lw_tbl := me_2 (List.mem_of_getElem? (i := 222) rfl)
theorem fw10_12 : u_lay "StiltMarsh$Search" fT10 12 ∈ lw_tbl := me_2 (List.mem_of_getElem? (i := 224) rfl)
theorem fw10_13 : u_lay "StiltMarsh$Search" fT10 13 ∈ lw_tbl := me_2 (List.mem_of_getElem? (i := 226) rfl)
theorem fw10_14 : u_lay "StiltMarsh$Search" fT10 14 ∈ lw_tbl := me_2 (List.mem_of_getElem? (i := 228) rfl)
theorem fw10_15 : u_lay "StiltMarsh$Search" fT10 15 ∈ lw_tbl := me_2 (List.mem_of_getElem? (i := 230) rfl)
theorem fin10 : ∀ w ∈ u_ws "StiltMarsh$Search" fT10 16, w ∈ lw_tbl := by
  intro w hw
  obtain ⟨k, hk, rfl⟩ := List.mem_map.mp hw
  have hk := List.mem_range.mp hk
  match k, hk with
  | 0, _ => exact fw10_0
  | 1, _ => exact fw10_1
  | 2, _ => exact fw10_2
  | 3, _ => exact fw10_3
  | 4, _ => exact fw10_4
  | 5, _ => exact fw10_5
  | 6, _ => exact fw10_6
  | 7, _ => exact fw10_7
  | 8, _ => exact fw10_8
  | 9, _ => exact fw10_9
  | 10, _ => exact fw10_10
  | 11, _ => exact fw10_11
  | 12, _ => exact fw10_12
  | 13, _ => exact fw10_13
  | 14, _ => exact fw10_14
  | 15, _ => exact fw10_15
  | n + 16, h => exact absurd h (by omega)
def fT11 : u_T := fun k => match k with
  | 0 => ("StiltMarsh$Living", "now", "LStiltMarsh$State;", true)
  | 1 => ("StiltMarsh$Living", "program", "LStiltMarsh$Program;", true)
  | 2 => ("StiltMarsh$Living", "timesLeft", "[I", true)
  | 3 => ("StiltMarsh$Living", "draws", "I", false)
  | 4 => ("StiltMarsh$Living", "drawnPole", "I", false)
  | 5 => ("StiltMarsh$Living", "drawnCell", "I", false)
  | 6 => ("StiltMarsh$Living", "missed", "I", false)
  | 7 => ("StiltMarsh$Living", "moments", "I", false)
  | 8 => ("StiltMarsh$Living", "ended", "I", false)
  | 9 => ("StiltMarsh$Living", "fell", "I", false)
  | 10 => ("StiltMarsh$Living", "left", "I", false)
  | _ => ("StiltMarsh$Living", "done", "I", false)
def fY11 : Nat → FieldType := fun k => match k with
  | 0 => (.object "StiltMarsh$State")
  | 1 => (.object "StiltMarsh$Program")
  | 2 => (.array .int)
  | 3 => .int
  | 4 => .int
  | 5 => .int
  | 6 => .int
  | 7 => .int
  | 8 => .int
  | 9 => .int
  | 10 => .int
  | _ => .int
theorem fnm11 : ∀ a, a < 12 → ∀ b, b < 12 → a ≠ b → (fT11 a).2.1 ≠ (fT11 b).2.1 := by decide +kernel
theorem fty11 : ∀ k, k < 12 → parseFieldDescriptor (fT11 k).2.2.1 = some (fY11 k) := by decide +kernel
theorem fw11_0 : u_lay "StiltMarsh$Living" fT11 0 ∈ lw_tbl := me_3 (List.mem_of_getElem? (i := 12) rfl)
theorem fw11_1 : u_lay "StiltMarsh$Living" fT11 1 ∈ lw_tbl := me_3 (List.mem_of_getElem? (i := 14) rfl)
theorem fw11_2 : u_lay "StiltMarsh$Living" fT11 2 ∈ lw_tbl := me_3 (List.mem_of_getElem? (i := 16) rfl)
theorem fw11_3 : u_lay "StiltMarsh$Living" fT11 3 ∈ lw_tbl := me_3 (List.mem_of_getElem? (i := 18) rfl)
theorem fw11_4 : u_lay "StiltMarsh$Living" fT11 4 ∈ lw_tbl := me_3 (List.mem_of_getElem? (i := 20) rfl)
theorem fw11_5 : u_lay "StiltMarsh$Living" fT11 5 ∈ lw_tbl := me_3 (List.mem_of_getElem? (i := 22) rfl)
theorem fw11_6 : u_lay "StiltMarsh$Living" fT11 6 ∈ lw_tbl := me_3 (List.mem_of_getElem? (i := 24) rfl)
theorem fw11_7 : u_lay "StiltMarsh$Living" fT11 7 ∈ lw_tbl := me_3 (List.mem_of_getElem? (i := 26) rfl)
theorem fw11_8 : u_lay "StiltMarsh$Living" fT11 8 ∈ lw_tbl := me_3 (List.mem_of_getElem? (i := 28) rfl)
theorem fw11_9 : u_lay "StiltMarsh$Living" fT11 9 ∈ lw_tbl := me_3 (List.mem_of_getElem? (i := 30) rfl)
theorem fw11_10 : u_lay "StiltMarsh$Living" fT11 10 ∈ lw_tbl := me_3 (List.mem_of_getElem? (i := 32) rfl)
theorem fw11_11 : u_lay "StiltMarsh$Living" fT11 11 ∈ lw_tbl := me_3 (List.mem_of_getElem? (i := 34) rfl)
theorem fin11 : ∀ w ∈ u_ws "StiltMarsh$Living" fT11 12, w ∈ lw_tbl := by
  intro w hw
  obtain ⟨k, hk, rfl⟩ := List.mem_map.mp hw
  have hk := List.mem_range.mp hk
  match k, hk with
  | 0, _ => exact fw11_0
  | 1, _ => exact fw11_1
  | 2, _ => exact fw11_2
  | 3, _ => exact fw11_3
  | 4, _ => exact fw11_4
  | 5, _ => exact fw11_5
  | 6, _ => exact fw11_6
  | 7, _ => exact fw11_7
  | 8, _ => exact fw11_8
  | 9, _ => exact fw11_9
  | 10, _ => exact fw11_10
  | 11, _ => exact fw11_11
  | n + 12, h => exact absurd h (by omega)
def fT12 : u_T := fun k => match k with
  | 0 => ("StiltMarshModel", "at", "[I", true)
  | 1 => ("StiltMarshModel", "names", "[J", true)
  | 2 => ("StiltMarshModel", "status", "I", false)
  | 3 => ("StiltMarshModel", "top", "J", false)
  | 4 => ("StiltMarshModel", "bottom", "J", false)
  | 5 => ("StiltMarshModel", "sort", "[I", true)
  | 6 => ("StiltMarshModel", "trayMany", "[I", true)
  | 7 => ("StiltMarshModel", "trays", "[J", true)
  | 8 => ("StiltMarshModel", "tape", "[B", true)
  | 9 => ("StiltMarshModel", "text", "[B", true)
  | 10 => ("StiltMarshModel", "taped", "I", false)
  | 11 => ("StiltMarshModel", "size", "I", false)
  | 12 => ("StiltMarshModel", "token", "I", false)
  | 13 => ("StiltMarshModel", "from", "I", false)
  | 14 => ("StiltMarshModel", "end", "I", false)
  | 15 => ("StiltMarshModel", "value", "I", false)
  | 16 => ("StiltMarshModel", "faultKind", "I", false)
  | 17 => ("StiltMarshModel", "faultPlace", "I", false)
  | 18 => ("StiltMarshModel", "faults", "I", false)
  | 19 => ("StiltMarshModel", "seen", "I", false)
  | 20 => ("StiltMarshModel", "toldParts", "I", false)
  | 21 => ("StiltMarshModel", "opened", "[I", true)
  | 22 => ("StiltMarshModel", "depth", "I", false)
  | 23 => ("StiltMarshModel", "counted", "I", false)
  | 24 => ("StiltMarshModel", "fellThen", "I", false)
  | 25 => ("StiltMarshModel", "stepsTo", "[I", true)
  | 26 => ("StiltMarshModel", "queue", "[I", true)
  | 27 => ("StiltMarshModel", "tried", "[I", true)
  | 28 => ("StiltMarshModel", "spent", "[I", true)
  | 29 => ("StiltMarshModel", "worth", "[I", true)
  | 30 => ("StiltMarshModel", "bestWorth", "I", false)
  | 31 => ("StiltMarshModel", "bestFirst", "I", false)
  | 32 => ("StiltMarshModel", "planksTo", "[I", true)
  | 33 => ("StiltMarshModel", "firstWays", "[I", true)
  | 34 => ("StiltMarshModel", "secondWays", "[I", true)
  | 35 => ("StiltMarshModel", "racedFirst", "I", false)
  | 36 => ("StiltMarshModel", "alongRow", "[I", true)
  | 37 => ("StiltMarshModel", "trackWays", "I", false)
  | 38 => ("StiltMarshModel", "trackSure", "I", false)
  | 39 => ("StiltMarshModel", "drawn", "I", false)
  | 40 => ("StiltMarshModel", "ranSteps", "I", false)
  | 41 => ("StiltMarshModel", "loops", "[I", true)
  | 42 => ("StiltMarshModel", "ran", "[I", true)
  | 43 => ("StiltMarshModel", "told1", "[I", true)
  | 44 => ("StiltMarshModel", "isTold", "Z", false)
  | _ => ("StiltMarshModel", "marks", "I", false)
def fY12 : Nat → FieldType := fun k => match k with
  | 0 => (.array .int)
  | 1 => (.array .long)
  | 2 => .int
  | 3 => .long
  | 4 => .long
  | 5 => (.array .int)
  | 6 => (.array .int)
  | 7 => (.array .long)
  | 8 => (.array .byte)
  | 9 => (.array .byte)
  | 10 => .int
  | 11 => .int
  | 12 => .int
  | 13 => .int
  | 14 => .int
  | 15 => .int
  | 16 => .int
  | 17 => .int
  | 18 => .int
  | 19 => .int
  | 20 => .int
  | 21 => (.array .int)
  | 22 => .int
  | 23 => .int
  | 24 => .int
  | 25 => (.array .int)
  | 26 => (.array .int)
  | 27 => (.array .int)
  | 28 => (.array .int)
  | 29 => (.array .int)
  | 30 => .int
  | 31 => .int
  | 32 => (.array .int)
  | 33 => (.array .int)
  | 34 => (.array .int)
  | 35 => .int
  | 36 => (.array .int)
  | 37 => .int
  | 38 => .int
  | 39 => .int
  | 40 => .int
  | 41 => (.array .int)
  | 42 => (.array .int)
  | 43 => (.array .int)
  | 44 => .boolean
  | _ => .int
theorem fnm12 : ∀ a, a < 46 → ∀ b, b < 46 → a ≠ b → (fT12 a).2.1 ≠ (fT12 b).2.1 := by decide +kernel
theorem fty12 : ∀ k, k < 46 → parseFieldDescriptor (fT12 k).2.2.1 = some (fY12 k) := by decide +kernel
theorem fw12_0 : u_lay "StiltMarshModel" fT12 0 ∈ lw_tbl := me_7 (List.mem_of_getElem? (i := 76) rfl)
theorem fw12_1 : u_lay "StiltMarshModel" fT12 1 ∈ lw_tbl := me_7 (List.mem_of_getElem? (i := 78) rfl)
theorem fw12_2 : u_lay "StiltMarshModel" fT12 2 ∈ lw_tbl := me_7 (List.mem_of_getElem? (i := 80) rfl)
theorem fw12_3 : u_lay "StiltMarshModel" fT12 3 ∈ lw_tbl := me_7 (List.mem_of_getElem? (i := 82) rfl)
theorem fw12_4 : u_lay "StiltMarshModel" fT12 4 ∈ lw_tbl := me_7 (List.mem_of_getElem? (i := 84) rfl)
theorem fw12_5 : u_lay "StiltMarshModel" fT12 5 ∈ lw_tbl := me_7 (List.mem_of_getElem? (i := 86) rfl)
theorem fw12_6 : u_lay "StiltMarshModel" fT12 6 ∈ lw_tbl := me_7 (List.mem_of_getElem? (i := 88) rfl)
theorem fw12_7 : u_lay "StiltMarshModel" fT12 7 ∈ lw_tbl := me_7 (List.mem_of_getElem? (i := 90) rfl)
theorem fw12_8 : u_lay "StiltMarshModel" fT12 8 ∈ lw_tbl := me_7 (List.mem_of_getElem? (i := 92) rfl)
theorem fw12_9 : u_lay "StiltMarshModel" fT12 9 ∈ lw_tbl := me_7 (List.mem_of_getElem? (i := 94) rfl)
theorem fw12_10 : u_lay "StiltMarshModel" fT12 10 ∈ lw_tbl := me_7 (List.mem_of_getElem? (i := 96) rfl)
theorem fw12_11 : u_lay "StiltMarshModel" fT12 11 ∈ lw_tbl := me_7 (List.mem_of_getElem? (i := 98) rfl)
theorem fw12_12 : u_lay "StiltMarshModel" fT12 12 ∈ lw_tbl := me_7 (List.mem_of_getElem? (i := 100) rfl)
theorem fw12_13 : u_lay "StiltMarshModel" fT12 13 ∈ lw_tbl := me_7 (List.mem_of_getElem? (i := 102) rfl)
theorem fw12_14 : u_lay "StiltMarshModel" fT12 14 ∈ lw_tbl := me_7 (List.mem_of_getElem? (i := 104) rfl)
theorem fw12_15 : u_lay "StiltMarshModel" fT12 15 ∈ lw_tbl := me_7 (List.mem_of_getElem? (i := 106) rfl)
theorem fw12_16 : u_lay "StiltMarshModel" fT12 16 ∈ lw_tbl := me_7 (List.mem_of_getElem? (i := 108) rfl)
theorem fw12_17 : u_lay "StiltMarshModel" fT12 17 ∈ lw_tbl := me_7 (List.mem_of_getElem? (i := 110) rfl)
theorem fw12_18 : u_lay "StiltMarshModel" fT12 18 ∈ lw_tbl := me_7 (List.mem_of_getElem? (i := 112) rfl)
theorem fw12_19 : u_lay "StiltMarshModel" fT12 19 ∈ lw_tbl := me_7 (List.mem_of_getElem? (i := 114) rfl)
theorem fw12_20 : u_lay "StiltMarshModel" fT12 20 ∈ lw_tbl := me_7 (List.mem_of_getElem? (i := 116) rfl)
theorem fw12_21 : u_lay "StiltMarshModel" fT12 21 ∈ lw_tbl := me_7 (List.mem_of_getElem? (i := 118) rfl)
theorem fw12_22 : u_lay "StiltMarshModel" fT12 22 ∈ lw_tbl := me_7 (List.mem_of_getElem? (i := 120) rfl)
theorem fw12_23 : u_lay "StiltMarshModel" fT12 23 ∈ lw_tbl := me_7 (List.mem_of_getElem? (i := 122) rfl)
theorem fw12_24 : u_lay "StiltMarshModel" fT12 24 ∈ lw_tbl := me_7 (List.mem_of_getElem? (i := 124) rfl)
theorem fw12_25 : u_lay "StiltMarshModel" fT12 25 ∈ lw_tbl := me_7 (List.mem_of_getElem? (i := 126) rfl)
theorem fw12_26 : u_lay "StiltMarshModel" fT12 26 ∈ lw_tbl := me_7 (List.mem_of_getElem? (i := 128) rfl)
theorem fw12_27 : u_lay "StiltMarshModel" fT12 27 ∈ lw_tbl := me_7 (List.mem_of_getElem? (i := 130) rfl)
theorem fw12_28 : u_lay "StiltMarshModel" fT12 28 ∈ lw_tbl := me_7 (List.mem_of_getElem? (i := 132) rfl)
theorem fw12_29 : u_lay "StiltMarshModel" fT12 29 ∈ lw_tbl := me_7 (List.mem_of_getElem? (i := 134) rfl)
theorem fw12_30 : u_lay "StiltMarshModel" fT12 30 ∈ lw_tbl := me_7 (List.mem_of_getElem? (i := 136) rfl)
theorem fw12_31 : u_lay "StiltMarshModel" fT12 31 ∈ lw_tbl := me_7 (List.mem_of_getElem? (i := 138) rfl)
theorem fw12_32 : u_lay "StiltMarshModel" fT12 32 ∈ lw_tbl := me_7 (List.mem_of_getElem? (i := 140) rfl)
theorem fw12_33 : u_lay "StiltMarshModel" fT12 33 ∈ lw_tbl := me_7 (List.mem_of_getElem? (i := 142) rfl)
theorem fw12_34 : u_lay "StiltMarshModel" fT12 34 ∈ lw_tbl := me_7 (List.mem_of_getElem? (i := 144) rfl)
theorem fw12_35 : u_lay "StiltMarshModel" fT12 35 ∈ lw_tbl := me_7 (List.mem_of_getElem? (i := 146) rfl)
theorem fw12_36 : u_lay "StiltMarshModel" fT12 36 ∈ lw_tbl := me_7 (List.mem_of_getElem? (i := 148) rfl)
theorem fw12_37 : u_lay "StiltMarshModel" fT12 37 ∈ lw_tbl := me_7 (List.mem_of_getElem? (i := 150) rfl)
theorem fw12_38 : u_lay "StiltMarshModel" fT12 38 ∈ lw_tbl := me_7 (List.mem_of_getElem? (i := 152) rfl)
theorem fw12_39 : u_lay "StiltMarshModel" fT12 39 ∈ lw_tbl := me_7 (List.mem_of_getElem? (i := 154) rfl)
theorem fw12_40 : u_lay "StiltMarshModel" fT12 40 ∈ lw_tbl := me_7 (List.mem_of_getElem? (i := 156) rfl)
theorem fw12_41 : u_lay "StiltMarshModel" fT12 41 ∈ lw_tbl := me_7 (List.mem_of_getElem? (i := 158) rfl)
theorem fw12_42 : u_lay "StiltMarshModel" fT12 42 ∈ lw_tbl := me_7 (List.mem_of_getElem? (i := 160) rfl)
theorem fw12_43 : u_lay "StiltMarshModel" fT12 43 ∈ lw_tbl := me_7 (List.mem_of_getElem? (i := 162) rfl)
theorem fw12_44 : u_lay "StiltMarshModel" fT12 44 ∈ lw_tbl := me_7 (List.mem_of_getElem? (i := 164) rfl)
theorem fw12_45 : u_lay "StiltMarshModel" fT12 45 ∈ lw_tbl := me_7 (List.mem_of_getElem? (i := 166) rfl)
theorem fin12 : ∀ w ∈ u_ws "StiltMarshModel" fT12 46, w ∈ lw_tbl := by
  intro w hw
  obtain ⟨k, hk, rfl⟩ := List.mem_map.mp hw
  have hk := List.mem_range.mp hk
  match k, hk with
  | 0, _ => exact fw12_0
  | 1, _ => exact fw12_1
  | 2, _ => exact fw12_2
  | 3, _ => exact fw12_3
  | 4, _ => exact fw12_4
  | 5, _ => exact fw12_5
  | 6, _ => exact fw12_6
  | 7, _ => exact fw12_7
  | 8, _ => exact fw12_8
  | 9, _ => exact fw12_9
  | 10, _ => exact fw12_10
  | 11, _ => exact fw12_11
  | 12, _ => exact fw12_12
  | 13, _ => exact fw12_13
  | 14, _ => exact fw12_14
  | 15, _ => exact fw12_15
  | 16, _ => exact fw12_16
  | 17, _ => exact fw12_17
  | 18, _ => exact fw12_18
  | 19, _ => exact fw12_19
  | 20, _ => exact fw12_20
  | 21, _ => exact fw12_21
  | 22, _ => exact fw12_22
  | 23, _ => exact fw12_23
  | 24, _ => exact fw12_24
  | 25, _ => exact fw12_25
  | 26, _ => exact fw12_26
  | 27, _ => exact fw12_27
  | 28, _ => exact fw12_28
  | 29, _ => exact fw12_29
  | 30, _ => exact fw12_30
  | 31, _ => exact fw12_31
  | 32, _ => exact fw12_32
  | 33, _ => exact fw12_33
  | 34, _ => exact fw12_34
  | 35, _ => exact fw12_35
  | 36, _ => exact fw12_36
  | 37, _ => exact fw12_37
  | 38, _ => exact fw12_38
  | 39, _ => exact fw12_39
  | 40, _ => exact fw12_40
  | 41, _ => exact fw12_41
  | 42, _ => exact fw12_42
  | 43, _ => exact fw12_43
  | 44, _ => exact fw12_44
  | 45, _ => exact fw12_45
  | n + 46, h => exact absurd h (by omega)
abbrev cls : List vw_C := [("StiltMarsh", fT0, 19), ("StiltMarsh$Trays", fT1, 3), ("StiltMarsh$State", fT2, 4), ("StiltMarsh$Land", fT3, 11), ("StiltMarsh$Folk", fT4, 8), ("StiltMarsh$Stance", fT5, 7), ("StiltMarsh$Program", fT6, 8), ("StiltMarsh$Scanner", fT7, 9), ("StiltMarsh$MarshReader", fT8, 3), ("StiltMarsh$MorningsReader", fT9, 5), ("StiltMarsh$Search", fT10, 16), ("StiltMarsh$Living", fT11, 12), ("StiltMarshModel", fT12, 46)]
def fY : Nat → Nat → FieldType := fun c => match c with
  | 0 => fY0
  | 1 => fY1
  | 2 => fY2
  | 3 => fY3
  | 4 => fY4
  | 5 => fY5
  | 6 => fY6
  | 7 => fY7
  | 8 => fY8
  | 9 => fY9
  | 10 => fY10
  | 11 => fY11
  | 12 => fY12
  | _ => fun _ => .int
def cF : Nat → Nat := fun c => match c with
  | 0 => 19
  | 1 => 3
  | 2 => 4
  | 3 => 11
  | 4 => 8
  | 5 => 7
  | 6 => 8
  | 7 => 9
  | 8 => 3
  | 9 => 5
  | 10 => 16
  | 11 => 12
  | 12 => 46
  | _ => 0
theorem cls_in : ∀ (ci : Nat) (q : vw_C), cls[ci]? = some q → ∀ w ∈ u_ws q.1 q.2.1 q.2.2, w ∈ lw_tbl := by
  intro ci q hq
  match ci, hq with
  | 0, hq => cases hq; exact fin0
  | 1, hq => cases hq; exact fin1
  | 2, hq => cases hq; exact fin2
  | 3, hq => cases hq; exact fin3
  | 4, hq => cases hq; exact fin4
  | 5, hq => cases hq; exact fin5
  | 6, hq => cases hq; exact fin6
  | 7, hq => cases hq; exact fin7
  | 8, hq => cases hq; exact fin8
  | 9, hq => cases hq; exact fin9
  | 10, hq => cases hq; exact fin10
  | 11, hq => cases hq; exact fin11
  | 12, hq => cases hq; exact fin12
  | n + 13, hq => simp [cls] at hq
theorem cls_ty : ∀ (ci : Nat) (q : vw_C), cls[ci]? = some q → ∀ k, k < q.2.2 → parseFieldDescriptor (q.2.1 k).2.2.1 = some (fY ci k) := by
  intro ci q hq
  match ci, hq with
  | 0, hq => cases hq; exact fty0
  | 1, hq => cases hq; exact fty1
  | 2, hq => cases hq; exact fty2
  | 3, hq => cases hq; exact fty3
  | 4, hq => cases hq; exact fty4
  | 5, hq => cases hq; exact fty5
  | 6, hq => cases hq; exact fty6
  | 7, hq => cases hq; exact fty7
  | 8, hq => cases hq; exact fty8
  | 9, hq => cases hq; exact fty9
  | 10, hq => cases hq; exact fty10
  | 11, hq => cases hq; exact fty11
  | 12, hq => cases hq; exact fty12
  | n + 13, hq => simp [cls] at hq
theorem cls_nm : ∀ (ci : Nat) (q : vw_C), cls[ci]? = some q → ∀ a, a < q.2.2 → ∀ b, b < q.2.2 → a ≠ b → (q.2.1 a).2.1 ≠ (q.2.1 b).2.1 := by
  intro ci q hq
  match ci, hq with
  | 0, hq => cases hq; exact fnm0
  | 1, hq => cases hq; exact fnm1
  | 2, hq => cases hq; exact fnm2
  | 3, hq => cases hq; exact fnm3
  | 4, hq => cases hq; exact fnm4
  | 5, hq => cases hq; exact fnm5
  | 6, hq => cases hq; exact fnm6
  | 7, hq => cases hq; exact fnm7
  | 8, hq => cases hq; exact fnm8
  | 9, hq => cases hq; exact fnm9
  | 10, hq => cases hq; exact fnm10
  | 11, hq => cases hq; exact fnm11
  | 12, hq => cases hq; exact fnm12
  | n + 13, hq => simp [cls] at hq
theorem cls_cN : ∀ (ci : Nat) (q : vw_C), cls[ci]? = some q → q.1 = cN ci ∧ q.2.2 = cF ci := by
  intro ci q hq
  match ci, hq with
  | 0, hq => cases hq; exact ⟨rfl, rfl⟩
  | 1, hq => cases hq; exact ⟨rfl, rfl⟩
  | 2, hq => cases hq; exact ⟨rfl, rfl⟩
  | 3, hq => cases hq; exact ⟨rfl, rfl⟩
  | 4, hq => cases hq; exact ⟨rfl, rfl⟩
  | 5, hq => cases hq; exact ⟨rfl, rfl⟩
  | 6, hq => cases hq; exact ⟨rfl, rfl⟩
  | 7, hq => cases hq; exact ⟨rfl, rfl⟩
  | 8, hq => cases hq; exact ⟨rfl, rfl⟩
  | 9, hq => cases hq; exact ⟨rfl, rfl⟩
  | 10, hq => cases hq; exact ⟨rfl, rfl⟩
  | 11, hq => cases hq; exact ⟨rfl, rfl⟩
  | 12, hq => cases hq; exact ⟨rfl, rfl⟩
  | n + 13, hq => simp [cls] at hq
abbrev m_0 : MethodName × ByteArray × Nat × Option FieldType × Nat := (⟨"StiltMarshLaw", "law", "([I)Z"⟩, code, 4, (some .boolean), 13)
abbrev m_1 : MethodName × ByteArray × Nat × Option FieldType × Nat := (⟨"StiltMarsh", "<init>", "()V"⟩, prog_1_method_1_code, 2, none, 0)
abbrev m_2 : MethodName × ByteArray × Nat × Option FieldType × Nat := (⟨"StiltMarsh", "status", "()I"⟩, prog_1_method_2_code, 1, (Option.some FieldType.int), 0)
abbrev m_3 : MethodName × ByteArray × Nat × Option FieldType × Nat := (⟨"StiltMarsh", "top", "()J"⟩, prog_1_method_3_code, 1, (Option.some FieldType.long), 0)
abbrev m_4 : MethodName × ByteArray × Nat × Option FieldType × Nat := (⟨"StiltMarsh", "bottom", "()J"⟩, prog_1_method_4_code, 1, (Option.some FieldType.long), 0)
abbrev m_5 : MethodName × ByteArray × Nat × Option FieldType × Nat := (⟨"StiltMarsh", "tray", "(III)Z"⟩, prog_1_method_5_code, 4, (Option.some FieldType.boolean), 0)
abbrev m_6 : MethodName × ByteArray × Nat × Option FieldType × Nat := (⟨"StiltMarsh", "refuse", "(I)Z"⟩, prog_1_method_63_code, 2, (Option.some FieldType.boolean), 0)
abbrev m_7 : MethodName × ByteArray × Nat × Option FieldType × Nat := (⟨"StiltMarsh", "agree", "()Z"⟩, prog_1_method_62_code, 1, (Option.some FieldType.boolean), 0)
abbrev m_8 : MethodName × ByteArray × Nat × Option FieldType × Nat := (⟨"StiltMarsh", "write", "(IIJ)Z"⟩, prog_1_method_6_code, 6, (Option.some FieldType.boolean), 0)
abbrev m_9 : MethodName × ByteArray × Nat × Option FieldType × Nat := (⟨"StiltMarsh", "read", "(II)J"⟩, prog_1_method_7_code, 4, (Option.some FieldType.long), 0)
abbrev m_10 : MethodName × ByteArray × Nat × Option FieldType × Nat := (⟨"StiltMarsh", "fail", "(I)I"⟩, prog_1_method_61_code, 2, (Option.some FieldType.int), 0)
abbrev m_11 : MethodName × ByteArray × Nat × Option FieldType × Nat := (⟨"StiltMarsh", "pour", "(IIIII)Z"⟩, prog_1_method_8_code, 6, (Option.some FieldType.boolean), 0)
abbrev m_12 : MethodName × ByteArray × Nat × Option FieldType × Nat := (⟨"StiltMarsh", "feed", "(IIIII)I"⟩, prog_1_method_9_code, 6, (Option.some FieldType.int), 0)
abbrev m_13 : MethodName × ByteArray × Nat × Option FieldType × Nat := (⟨"StiltMarsh", "putOnTape", "(I)V"⟩, prog_1_method_67_code, 3, none, 0)
abbrev m_14 : MethodName × ByteArray × Nat × Option FieldType × Nat := (⟨"StiltMarsh", "marsh", "(I)I"⟩, prog_1_method_10_code, 2, (Option.some FieldType.int), 0)
abbrev m_15 : MethodName × ByteArray × Nat × Option FieldType × Nat := (⟨"StiltMarsh", "closeTape", "()Z"⟩, prog_1_method_68_code, 1, (Option.some FieldType.boolean), 0)
abbrev m_16 : MethodName × ByteArray × Nat × Option FieldType × Nat := (⟨"StiltMarsh", "answer", "(I)I"⟩, prog_1_method_60_code, 2, (Option.some FieldType.int), 0)
abbrev m_17 : MethodName × ByteArray × Nat × Option FieldType × Nat := (⟨"StiltMarsh", "mornings", "(I)I"⟩, prog_1_method_11_code, 2, (Option.some FieldType.int), 0)
abbrev m_18 : MethodName × ByteArray × Nat × Option FieldType × Nat := (⟨"StiltMarsh", "fault", "(I)I"⟩, prog_1_method_12_code, 2, (Option.some FieldType.int), 0)
abbrev m_19 : MethodName × ByteArray × Nat × Option FieldType × Nat := (⟨"StiltMarsh", "told", "(I)I"⟩, prog_1_method_13_code, 4, (Option.some FieldType.int), 0)
abbrev m_20 : MethodName × ByteArray × Nat × Option FieldType × Nat := (⟨"StiltMarsh", "cell", "(III)I"⟩, prog_1_method_14_code, 6, (Option.some FieldType.int), 0)
abbrev m_21 : MethodName × ByteArray × Nat × Option FieldType × Nat := (⟨"StiltMarsh", "walker", "(II)I"⟩, prog_1_method_15_code, 4, (Option.some FieldType.int), 0)
abbrev m_22 : MethodName × ByteArray × Nat × Option FieldType × Nat := (⟨"StiltMarsh", "pole", "(III)I"⟩, prog_1_method_16_code, 6, (Option.some FieldType.int), 0)
abbrev m_23 : MethodName × ByteArray × Nat × Option FieldType × Nat := (⟨"StiltMarsh", "isPole", "(I)Z"⟩, prog_1_method_64_code, 1, (Option.some FieldType.boolean), 0)
abbrev m_24 : MethodName × ByteArray × Nat × Option FieldType × Nat := (⟨"StiltMarsh", "step", "(IIII)I"⟩, prog_1_method_17_code, 6, (Option.some FieldType.int), 0)
abbrev m_25 : MethodName × ByteArray × Nat × Option FieldType × Nat := (⟨"StiltMarsh", "stand", "(I)I"⟩, prog_1_method_18_code, 3, (Option.some FieldType.int), 0)
abbrev m_26 : MethodName × ByteArray × Nat × Option FieldType × Nat := (⟨"StiltMarsh", "hand", "(III)I"⟩, prog_1_method_19_code, 4, (Option.some FieldType.int), 0)
abbrev m_27 : MethodName × ByteArray × Nat × Option FieldType × Nat := (⟨"StiltMarsh", "isPair", "(II)Z"⟩, prog_1_method_66_code, 3, (Option.some FieldType.boolean), 0)
abbrev m_28 : MethodName × ByteArray × Nat × Option FieldType × Nat := (⟨"StiltMarsh", "plank", "(II)I"⟩, prog_1_method_20_code, 5, (Option.some FieldType.int), 0)
abbrev m_29 : MethodName × ByteArray × Nat × Option FieldType × Nat := (⟨"StiltMarsh", "rot", "(II)Z"⟩, prog_1_method_21_code, 5, (Option.some FieldType.boolean), 0)
abbrev m_30 : MethodName × ByteArray × Nat × Option FieldType × Nat := (⟨"StiltMarsh", "rise", "(III)Z"⟩, prog_1_method_22_code, 5, (Option.some FieldType.boolean), 0)
abbrev m_31 : MethodName × ByteArray × Nat × Option FieldType × Nat := (⟨"StiltMarsh", "pack", "(II)I"⟩, prog_1_method_23_code, 4, (Option.some FieldType.int), 0)
abbrev m_32 : MethodName × ByteArray × Nat × Option FieldType × Nat := (⟨"StiltMarsh", "send", "(III)Z"⟩, prog_1_method_24_code, 5, (Option.some FieldType.boolean), 0)
abbrev m_33 : MethodName × ByteArray × Nat × Option FieldType × Nat := (⟨"StiltMarsh", "weather", "(I)Z"⟩, prog_1_method_25_code, 2, (Option.some FieldType.boolean), 0)
abbrev m_34 : MethodName × ByteArray × Nat × Option FieldType × Nat := (⟨"StiltMarsh", "pierce", "(II)I"⟩, prog_1_method_26_code, 5, (Option.some FieldType.int), 0)
abbrev m_35 : MethodName × ByteArray × Nat × Option FieldType × Nat := (⟨"StiltMarsh", "far", "(IIII)I"⟩, prog_1_method_27_code, 7, (Option.some FieldType.int), 0)
abbrev m_36 : MethodName × ByteArray × Nat × Option FieldType × Nat := (⟨"StiltMarsh", "burden", "(I)I"⟩, prog_1_method_28_code, 2, (Option.some FieldType.int), 0)
abbrev m_37 : MethodName × ByteArray × Nat × Option FieldType × Nat := (⟨"StiltMarsh", "pull", "(II)I"⟩, prog_1_method_29_code, 3, (Option.some FieldType.int), 0)
abbrev m_38 : MethodName × ByteArray × Nat × Option FieldType × Nat := (⟨"StiltMarsh", "choices", "(II)I"⟩, prog_1_method_30_code, 5, (Option.some FieldType.int), 0)
abbrev m_39 : MethodName × ByteArray × Nat × Option FieldType × Nat := (⟨"StiltMarsh", "bears", "(III)I"⟩, prog_1_method_31_code, 5, (Option.some FieldType.int), 0)
abbrev m_40 : MethodName × ByteArray × Nat × Option FieldType × Nat := (⟨"StiltMarsh", "weakest", "(I)I"⟩, prog_1_method_32_code, 6, (Option.some FieldType.int), 0)
abbrev m_41 : MethodName × ByteArray × Nat × Option FieldType × Nat := (⟨"StiltMarsh", "sunkIn", "(III)I"⟩, prog_1_method_33_code, 4, (Option.some FieldType.int), 0)
abbrev m_42 : MethodName × ByteArray × Nat × Option FieldType × Nat := (⟨"StiltMarsh", "fallsIn", "(I)I"⟩, prog_1_method_34_code, 3, (Option.some FieldType.int), 0)
abbrev m_43 : MethodName × ByteArray × Nat × Option FieldType × Nat := (⟨"StiltMarsh", "skinIn", "(III)I"⟩, prog_1_method_35_code, 5, (Option.some FieldType.int), 0)
abbrev m_44 : MethodName × ByteArray × Nat × Option FieldType × Nat := (⟨"StiltMarsh", "helpers", "(I)I"⟩, prog_1_method_36_code, 4, (Option.some FieldType.int), 0)
abbrev m_45 : MethodName × ByteArray × Nat × Option FieldType × Nat := (⟨"StiltMarsh", "way", "(I)I"⟩, prog_1_method_37_code, 2, (Option.some FieldType.int), 0)
abbrev m_46 : MethodName × ByteArray × Nat × Option FieldType × Nat := (⟨"StiltMarsh", "wayFrom", "(IIIII)I"⟩, prog_1_method_38_code, 9, (Option.some FieldType.int), 0)
abbrev m_47 : MethodName × ByteArray × Nat × Option FieldType × Nat := (⟨"StiltMarsh", "keys", "(I)I"⟩, prog_1_method_39_code, 2, (Option.some FieldType.int), 0)
abbrev m_48 : MethodName × ByteArray × Nat × Option FieldType × Nat := (⟨"StiltMarsh", "isKey", "(III)I"⟩, prog_1_method_40_code, 5, (Option.some FieldType.int), 0)
abbrev m_49 : MethodName × ByteArray × Nat × Option FieldType × Nat := (⟨"StiltMarsh", "soonest", "(II)I"⟩, prog_1_method_41_code, 4, (Option.some FieldType.int), 0)
abbrev m_50 : MethodName × ByteArray × Nat × Option FieldType × Nat := (⟨"StiltMarsh", "whyNoCrossing", "(IIZ)I"⟩, prog_1_method_69_code, 4, (Option.some FieldType.int), 0)
abbrev m_51 : MethodName × ByteArray × Nat × Option FieldType × Nat := (⟨"StiltMarsh", "soonestAt", "(III)I"⟩, prog_1_method_42_code, 4, (Option.some FieldType.int), 0)
abbrev m_52 : MethodName × ByteArray × Nat × Option FieldType × Nat := (⟨"StiltMarsh", "crossingAt", "(IIIZ)I"⟩, prog_1_method_70_code, 6, (Option.some FieldType.int), 0)
abbrev m_53 : MethodName × ByteArray × Nat × Option FieldType × Nat := (⟨"StiltMarsh", "isStepWhat", "(I)Z"⟩, prog_1_method_65_code, 1, (Option.some FieldType.boolean), 0)
abbrev m_54 : MethodName × ByteArray × Nat × Option FieldType × Nat := (⟨"StiltMarsh", "answerFirstStep", "(I)I"⟩, prog_1_method_71_code, 2, (Option.some FieldType.int), 0)
abbrev m_55 : MethodName × ByteArray × Nat × Option FieldType × Nat := (⟨"StiltMarsh", "sparing", "(II)I"⟩, prog_1_method_43_code, 4, (Option.some FieldType.int), 0)
abbrev m_56 : MethodName × ByteArray × Nat × Option FieldType × Nat := (⟨"StiltMarsh", "sparingAt", "(III)I"⟩, prog_1_method_44_code, 4, (Option.some FieldType.int), 0)
abbrev m_57 : MethodName × ByteArray × Nat × Option FieldType × Nat := (⟨"StiltMarsh", "planks", "(I)I"⟩, prog_1_method_45_code, 2, (Option.some FieldType.int), 0)
abbrev m_58 : MethodName × ByteArray × Nat × Option FieldType × Nat := (⟨"StiltMarsh", "mostPlanks", "()I"⟩, prog_1_method_46_code, 3, (Option.some FieldType.int), 0)
abbrev m_59 : MethodName × ByteArray × Nat × Option FieldType × Nat := (⟨"StiltMarsh", "race", "(III)I"⟩, prog_1_method_47_code, 4, (Option.some FieldType.int), 0)
abbrev m_60 : MethodName × ByteArray × Nat × Option FieldType × Nat := (⟨"StiltMarsh", "raced", "(IIII)I"⟩, prog_1_method_48_code, 5, (Option.some FieldType.int), 0)
abbrev m_61 : MethodName × ByteArray × Nat × Option FieldType × Nat := (⟨"StiltMarsh", "gone", "(I)I"⟩, prog_1_method_49_code, 2, (Option.some FieldType.int), 0)
abbrev m_62 : MethodName × ByteArray × Nat × Option FieldType × Nat := (⟨"StiltMarsh", "tracks", "(I)I"⟩, prog_1_method_50_code, 3, (Option.some FieldType.int), 0)
abbrev m_63 : MethodName × ByteArray × Nat × Option FieldType × Nat := (⟨"StiltMarsh", "sure", "(I)I"⟩, prog_1_method_51_code, 3, (Option.some FieldType.int), 0)
abbrev m_64 : MethodName × ByteArray × Nat × Option FieldType × Nat := (⟨"StiltMarsh", "luck", "(I)Z"⟩, prog_1_method_52_code, 5, (Option.some FieldType.boolean), 0)
abbrev m_65 : MethodName × ByteArray × Nat × Option FieldType × Nat := (⟨"StiltMarsh", "tellFraction", "(JJ)V"⟩, prog_1_method_72_code, 12, none, 0)
abbrev m_66 : MethodName × ByteArray × Nat × Option FieldType × Nat := (⟨"StiltMarsh", "luckiest", "()I"⟩, prog_1_method_53_code, 3, (Option.some FieldType.int), 0)
abbrev m_67 : MethodName × ByteArray × Nat × Option FieldType × Nat := (⟨"StiltMarsh", "copyRow", "(II)I"⟩, prog_1_method_54_code, 6, (Option.some FieldType.int), 0)
abbrev m_68 : MethodName × ByteArray × Nat × Option FieldType × Nat := (⟨"StiltMarsh", "live", "(I)I"⟩, prog_1_method_55_code, 2, (Option.some FieldType.int), 0)
abbrev m_69 : MethodName × ByteArray × Nat × Option FieldType × Nat := (⟨"StiltMarsh", "lived", "(I)I"⟩, prog_1_method_56_code, 2, (Option.some FieldType.int), 0)
abbrev m_70 : MethodName × ByteArray × Nat × Option FieldType × Nat := (⟨"StiltMarsh", "mean", "(II)Z"⟩, prog_1_method_57_code, 6, (Option.some FieldType.boolean), 0)
abbrev m_71 : MethodName × ByteArray × Nat × Option FieldType × Nat := (⟨"StiltMarsh", "mark", "()I"⟩, prog_1_method_58_code, 1, (Option.some FieldType.int), 0)
abbrev m_72 : MethodName × ByteArray × Nat × Option FieldType × Nat := (⟨"StiltMarsh", "undo", "()I"⟩, prog_1_method_59_code, 1, (Option.some FieldType.int), 0)
abbrev m_73 : MethodName × ByteArray × Nat × Option FieldType × Nat := (⟨"StiltMarsh$Trays", "<init>", "()V"⟩, prog_12_method_1_code, 1, none, 1)
abbrev m_74 : MethodName × ByteArray × Nat × Option FieldType × Nat := (⟨"StiltMarsh$Trays", "isTray", "(I)Z"⟩, prog_12_method_2_code, 2, (Option.some FieldType.boolean), 1)
abbrev m_75 : MethodName × ByteArray × Nat × Option FieldType × Nat := (⟨"StiltMarsh$Trays", "makeNew", "(III)V"⟩, prog_12_method_8_code, 4, none, 1)
abbrev m_76 : MethodName × ByteArray × Nat × Option FieldType × Nat := (⟨"StiltMarsh$Trays", "whyNoPlace", "(II)I"⟩, prog_12_method_6_code, 3, (Option.some FieldType.int), 1)
abbrev m_77 : MethodName × ByteArray × Nat × Option FieldType × Nat := (⟨"StiltMarsh$Trays", "isMissing", "(I)Z"⟩, prog_12_method_3_code, 2, (Option.some FieldType.boolean), 1)
abbrev m_78 : MethodName × ByteArray × Nat × Option FieldType × Nat := (⟨"StiltMarsh$Trays", "put", "(IIJ)V"⟩, prog_12_method_9_code, 5, none, 1)
abbrev m_79 : MethodName × ByteArray × Nat × Option FieldType × Nat := (⟨"StiltMarsh$Trays", "hasRun", "(III)Z"⟩, prog_12_method_5_code, 4, (Option.some FieldType.boolean), 1)
abbrev m_80 : MethodName × ByteArray × Nat × Option FieldType × Nat := (⟨"StiltMarsh$Trays", "cutTo", "(IJ)J"⟩, prog_12_method_12_code, 3, (Option.some FieldType.long), 1)
abbrev m_81 : MethodName × ByteArray × Nat × Option FieldType × Nat := (⟨"StiltMarsh$Trays", "numberAt", "(II)J"⟩, prog_12_method_10_code, 3, (Option.some FieldType.long), 1)
abbrev m_82 : MethodName × ByteArray × Nat × Option FieldType × Nat := (⟨"StiltMarsh$Trays", "areAlike", "(II)Z"⟩, prog_12_method_4_code, 3, (Option.some FieldType.boolean), 1)
abbrev m_83 : MethodName × ByteArray × Nat × Option FieldType × Nat := (⟨"StiltMarsh$Trays", "copyRun", "(IIIII)V"⟩, prog_12_method_11_code, 6, none, 1)
abbrev m_84 : MethodName × ByteArray × Nat × Option FieldType × Nat := (⟨"StiltMarsh$Trays", "whyNotHas", "(II)I"⟩, prog_12_method_7_code, 3, (Option.some FieldType.int), 1)
abbrev m_85 : MethodName × ByteArray × Nat × Option FieldType × Nat := (⟨"StiltMarsh$State", "<init>", "()V"⟩, prog_11_method_1_code, 1, none, 2)
abbrev m_86 : MethodName × ByteArray × Nat × Option FieldType × Nat := (⟨"StiltMarsh$State", "clear", "()V"⟩, prog_11_method_2_code, 1, none, 2)
abbrev m_87 : MethodName × ByteArray × Nat × Option FieldType × Nat := (⟨"StiltMarsh$State", "copyFrom", "(LStiltMarsh$State;)V"⟩, prog_11_method_3_code, 2, none, 2)
abbrev m_88 : MethodName × ByteArray × Nat × Option FieldType × Nat := (⟨"StiltMarsh$State", "mayStep", "(III)Z"⟩, prog_11_method_4_code, 4, (Option.some FieldType.boolean), 2)
abbrev m_89 : MethodName × ByteArray × Nat × Option FieldType × Nat := (⟨"StiltMarsh$State", "takeStep", "(III)I"⟩, prog_11_method_5_code, 5, (Option.some FieldType.int), 2)
abbrev m_90 : MethodName × ByteArray × Nat × Option FieldType × Nat := (⟨"StiltMarsh$State", "mayHand", "(III)Z"⟩, prog_11_method_7_code, 4, (Option.some FieldType.boolean), 2)
abbrev m_91 : MethodName × ByteArray × Nat × Option FieldType × Nat := (⟨"StiltMarsh$State", "canTouch", "(II)Z"⟩, prog_11_method_6_code, 6, (Option.some FieldType.boolean), 2)
abbrev m_92 : MethodName × ByteArray × Nat × Option FieldType × Nat := (⟨"StiltMarsh$State", "handOver", "(III)V"⟩, prog_11_method_8_code, 4, none, 2)
abbrev m_93 : MethodName × ByteArray × Nat × Option FieldType × Nat := (⟨"StiltMarsh$Land", "<init>", "()V"⟩, prog_3_method_1_code, 1, none, 3)
abbrev m_94 : MethodName × ByteArray × Nat × Option FieldType × Nat := (⟨"StiltMarsh$Land", "clear", "()V"⟩, prog_3_method_2_code, 1, none, 3)
abbrev m_95 : MethodName × ByteArray × Nat × Option FieldType × Nat := (⟨"StiltMarsh$Land", "layOut", "(IIIII)V"⟩, prog_3_method_3_code, 7, none, 3)
abbrev m_96 : MethodName × ByteArray × Nat × Option FieldType × Nat := (⟨"StiltMarsh$Land", "cellAt", "(II)I"⟩, prog_3_method_7_code, 3, (Option.some FieldType.int), 3)
abbrev m_97 : MethodName × ByteArray × Nat × Option FieldType × Nat := (⟨"StiltMarsh$Land", "hasRow", "(I)Z"⟩, prog_3_method_5_code, 2, (Option.some FieldType.boolean), 3)
abbrev m_98 : MethodName × ByteArray × Nat × Option FieldType × Nat := (⟨"StiltMarsh$Land", "makeFirm", "(I)V"⟩, prog_3_method_12_code, 2, none, 3)
abbrev m_99 : MethodName × ByteArray × Nat × Option FieldType × Nat := (⟨"StiltMarsh$Land", "copyFrom", "(LStiltMarsh$Land;)V"⟩, prog_3_method_4_code, 2, none, 3)
abbrev m_100 : MethodName × ByteArray × Nat × Option FieldType × Nat := (⟨"StiltMarsh$Land", "isFirm", "(I)Z"⟩, prog_3_method_11_code, 2, (Option.some FieldType.boolean), 3)
abbrev m_101 : MethodName × ByteArray × Nat × Option FieldType × Nat := (⟨"StiltMarsh$Land", "columnOf", "(I)I"⟩, prog_3_method_8_code, 2, (Option.some FieldType.int), 3)
abbrev m_102 : MethodName × ByteArray × Nat × Option FieldType × Nat := (⟨"StiltMarsh$Land", "has", "(I)Z"⟩, prog_3_method_6_code, 2, (Option.some FieldType.boolean), 3)
abbrev m_103 : MethodName × ByteArray × Nat × Option FieldType × Nat := (⟨"StiltMarsh$Land", "rowOf", "(I)I"⟩, prog_3_method_9_code, 2, (Option.some FieldType.int), 3)
abbrev m_104 : MethodName × ByteArray × Nat × Option FieldType × Nat := (⟨"StiltMarsh$Land", "apart", "(II)I"⟩, prog_3_method_10_code, 5, (Option.some FieldType.int), 3)
abbrev m_105 : MethodName × ByteArray × Nat × Option FieldType × Nat := (⟨"StiltMarsh$Land", "makeSoft", "(I)V"⟩, prog_3_method_13_code, 2, none, 3)
abbrev m_106 : MethodName × ByteArray × Nat × Option FieldType × Nat := (⟨"StiltMarsh$Land", "oddsOfRow", "(I)J"⟩, prog_3_method_14_code, 6, (Option.some FieldType.long), 3)
abbrev m_107 : MethodName × ByteArray × Nat × Option FieldType × Nat := (⟨"StiltMarsh$Folk", "<init>", "()V"⟩, prog_2_method_1_code, 1, none, 4)
abbrev m_108 : MethodName × ByteArray × Nat × Option FieldType × Nat := (⟨"StiltMarsh$Folk", "numberOf", "(J)I"⟩, prog_2_method_6_code, 4, (Option.some FieldType.int), 4)
abbrev m_109 : MethodName × ByteArray × Nat × Option FieldType × Nat := (⟨"StiltMarsh$Folk", "add", "(JIIIII)V"⟩, prog_2_method_7_code, 8, none, 4)
abbrev m_110 : MethodName × ByteArray × Nat × Option FieldType × Nat := (⟨"StiltMarsh$Folk", "copyFrom", "(LStiltMarsh$Folk;)V"⟩, prog_2_method_2_code, 2, none, 4)
abbrev m_111 : MethodName × ByteArray × Nat × Option FieldType × Nat := (⟨"StiltMarsh$Folk", "has", "(I)Z"⟩, prog_2_method_3_code, 2, (Option.some FieldType.boolean), 4)
abbrev m_112 : MethodName × ByteArray × Nat × Option FieldType × Nat := (⟨"StiltMarsh$Folk", "allLoad", "()I"⟩, prog_2_method_5_code, 3, (Option.some FieldType.int), 4)
abbrev m_113 : MethodName × ByteArray × Nat × Option FieldType × Nat := (⟨"StiltMarsh$Folk", "burdenOf", "(I)I"⟩, prog_2_method_4_code, 2, (Option.some FieldType.int), 4)
abbrev m_114 : MethodName × ByteArray × Nat × Option FieldType × Nat := (⟨"StiltMarsh$Stance", "<init>", "(LStiltMarsh$Land;LStiltMarsh$Folk;)V"⟩, prog_10_method_1_code, 3, none, 5)
abbrev m_115 : MethodName × ByteArray × Nat × Option FieldType × Nat := (⟨"StiltMarsh$Stance", "placeBoth", "(II)V"⟩, prog_10_method_4_code, 3, none, 5)
abbrev m_116 : MethodName × ByteArray × Nat × Option FieldType × Nat := (⟨"StiltMarsh$Stance", "setDown", "(II)V"⟩, prog_10_method_5_code, 3, none, 5)
abbrev m_117 : MethodName × ByteArray × Nat × Option FieldType × Nat := (⟨"StiltMarsh$Stance", "startWhole", "()V"⟩, prog_10_method_3_code, 1, none, 5)
abbrev m_118 : MethodName × ByteArray × Nat × Option FieldType × Nat := (⟨"StiltMarsh$Stance", "copyFrom", "(LStiltMarsh$Stance;)V"⟩, prog_10_method_2_code, 2, none, 5)
abbrev m_119 : MethodName × ByteArray × Nat × Option FieldType × Nat := (⟨"StiltMarsh$Stance", "homeSet", "()I"⟩, prog_10_method_16_code, 3, (Option.some FieldType.int), 5)
abbrev m_120 : MethodName × ByteArray × Nat × Option FieldType × Nat := (⟨"StiltMarsh$Stance", "isHome", "(I)Z"⟩, prog_10_method_15_code, 2, (Option.some FieldType.boolean), 5)
abbrev m_121 : MethodName × ByteArray × Nat × Option FieldType × Nat := (⟨"StiltMarsh$Stance", "isFallen", "(I)Z"⟩, prog_10_method_6_code, 2, (Option.some FieldType.boolean), 5)
abbrev m_122 : MethodName × ByteArray × Nat × Option FieldType × Nat := (⟨"StiltMarsh$Stance", "allSkin", "()I"⟩, prog_10_method_20_code, 3, (Option.some FieldType.int), 5)
abbrev m_123 : MethodName × ByteArray × Nat × Option FieldType × Nat := (⟨"StiltMarsh$Stance", "brokenCells", "()I"⟩, prog_10_method_21_code, 3, (Option.some FieldType.int), 5)
abbrev m_124 : MethodName × ByteArray × Nat × Option FieldType × Nat := (⟨"StiltMarsh$Stance", "polesIn", "(I)I"⟩, prog_10_method_19_code, 4, (Option.some FieldType.int), 5)
abbrev m_125 : MethodName × ByteArray × Nat × Option FieldType × Nat := (⟨"StiltMarsh$Stance", "pullOf", "(I)I"⟩, prog_10_method_8_code, 2, (Option.some FieldType.int), 5)
abbrev m_126 : MethodName × ByteArray × Nat × Option FieldType × Nat := (⟨"StiltMarsh$Stance", "hasTimeFor", "(I)Z"⟩, prog_10_method_7_code, 2, (Option.some FieldType.boolean), 5)
abbrev m_127 : MethodName × ByteArray × Nat × Option FieldType × Nat := (⟨"StiltMarsh$Stance", "lift", "(I)I"⟩, prog_10_method_13_code, 5, (Option.some FieldType.int), 5)
abbrev m_128 : MethodName × ByteArray × Nat × Option FieldType × Nat := (⟨"StiltMarsh$Stance", "goBy", "(I)Z"⟩, prog_10_method_9_code, 5, (Option.some FieldType.boolean), 5)
abbrev m_129 : MethodName × ByteArray × Nat × Option FieldType × Nat := (⟨"StiltMarsh$Stance", "press", "(IZ)Z"⟩, prog_10_method_10_code, 8, (Option.some FieldType.boolean), 5)
abbrev m_130 : MethodName × ByteArray × Nat × Option FieldType × Nat := (⟨"StiltMarsh$Stance", "mendAllBut", "(I)Z"⟩, prog_10_method_11_code, 5, (Option.some FieldType.boolean), 5)
abbrev m_131 : MethodName × ByteArray × Nat × Option FieldType × Nat := (⟨"StiltMarsh$Stance", "standFor", "(I)V"⟩, prog_10_method_12_code, 5, none, 5)
abbrev m_132 : MethodName × ByteArray × Nat × Option FieldType × Nat := (⟨"StiltMarsh$Stance", "holdsFor", "(II)I"⟩, prog_10_method_14_code, 7, (Option.some FieldType.int), 5)
abbrev m_133 : MethodName × ByteArray × Nat × Option FieldType × Nat := (⟨"StiltMarsh$Stance", "stepsHome", "(I)I"⟩, prog_10_method_17_code, 3, (Option.some FieldType.int), 5)
abbrev m_134 : MethodName × ByteArray × Nat × Option FieldType × Nat := (⟨"StiltMarsh$Stance", "fewestSteps", "(III)I"⟩, prog_10_method_18_code, 5, (Option.some FieldType.int), 5)
abbrev m_135 : MethodName × ByteArray × Nat × Option FieldType × Nat := (⟨"StiltMarsh$Stance", "skinGone", "(I)I"⟩, prog_10_method_22_code, 5, (Option.some FieldType.int), 5)
abbrev m_136 : MethodName × ByteArray × Nat × Option FieldType × Nat := (⟨"StiltMarsh$Program", "<init>", "()V"⟩, prog_7_method_1_code, 1, none, 6)
abbrev m_137 : MethodName × ByteArray × Nat × Option FieldType × Nat := (⟨"StiltMarsh$Program", "clear", "()V"⟩, prog_7_method_2_code, 1, none, 6)
abbrev m_138 : MethodName × ByteArray × Nat × Option FieldType × Nat := (⟨"StiltMarsh$Program", "copyFrom", "(LStiltMarsh$Program;)V"⟩, prog_7_method_3_code, 2, none, 6)
abbrev m_139 : MethodName × ByteArray × Nat × Option FieldType × Nat := (⟨"StiltMarsh$Program", "add", "(IIII)I"⟩, prog_7_method_5_code, 5, (Option.some FieldType.int), 6)
abbrev m_140 : MethodName × ByteArray × Nat × Option FieldType × Nat := (⟨"StiltMarsh$Program", "pair", "(II)V"⟩, prog_7_method_6_code, 3, none, 6)
abbrev m_141 : MethodName × ByteArray × Nat × Option FieldType × Nat := (⟨"StiltMarsh$Program", "has", "(I)Z"⟩, prog_7_method_4_code, 2, (Option.some FieldType.boolean), 6)
abbrev m_142 : MethodName × ByteArray × Nat × Option FieldType × Nat := (⟨"StiltMarsh$Scanner", "<init>", "()V"⟩, prog_8_method_1_code, 6, none, 7)
abbrev m_143 : MethodName × ByteArray × Nat × Option FieldType × Nat := (⟨"StiltMarsh$Scanner", "open", "([BI)V"⟩, prog_8_method_2_code, 3, none, 7)
abbrev m_144 : MethodName × ByteArray × Nat × Option FieldType × Nat := (⟨"StiltMarsh$Scanner", "advance", "()V"⟩, prog_8_method_6_code, 2, none, 7)
abbrev m_145 : MethodName × ByteArray × Nat × Option FieldType × Nat := (⟨"StiltMarsh$Scanner", "scanWord", "()V"⟩, prog_8_method_7_code, 1, none, 7)
abbrev m_146 : MethodName × ByteArray × Nat × Option FieldType × Nat := (⟨"StiltMarsh$Scanner", "scanNumber", "()V"⟩, prog_8_method_8_code, 1, none, 7)
abbrev m_147 : MethodName × ByteArray × Nat × Option FieldType × Nat := (⟨"StiltMarsh$Scanner", "isSound", "()Z"⟩, prog_8_method_3_code, 1, (Option.some FieldType.boolean), 7)
abbrev m_148 : MethodName × ByteArray × Nat × Option FieldType × Nat := (⟨"StiltMarsh$Scanner", "isAtEnd", "()Z"⟩, prog_8_method_4_code, 1, (Option.some FieldType.boolean), 7)
abbrev m_149 : MethodName × ByteArray × Nat × Option FieldType × Nat := (⟨"StiltMarsh$Scanner", "ownWord", "()I"⟩, prog_8_method_9_code, 2, (Option.some FieldType.int), 7)
abbrev m_150 : MethodName × ByteArray × Nat × Option FieldType × Nat := (⟨"StiltMarsh$Scanner", "blame", "(I)V"⟩, prog_8_method_5_code, 2, none, 7)
abbrev m_151 : MethodName × ByteArray × Nat × Option FieldType × Nat := (⟨"StiltMarsh$Scanner", "takeAfter", "(III)I"⟩, prog_8_method_15_code, 4, (Option.some FieldType.int), 7)
abbrev m_152 : MethodName × ByteArray × Nat × Option FieldType × Nat := (⟨"StiltMarsh$Scanner", "takeWord", "(I)V"⟩, prog_8_method_11_code, 2, none, 7)
abbrev m_153 : MethodName × ByteArray × Nat × Option FieldType × Nat := (⟨"StiltMarsh$Scanner", "isWord", "(I)Z"⟩, prog_8_method_10_code, 2, (Option.some FieldType.boolean), 7)
abbrev m_154 : MethodName × ByteArray × Nat × Option FieldType × Nat := (⟨"StiltMarsh$Scanner", "takeNumber", "(II)I"⟩, prog_8_method_14_code, 4, (Option.some FieldType.int), 7)
abbrev m_155 : MethodName × ByteArray × Nat × Option FieldType × Nat := (⟨"StiltMarsh$Scanner", "takeSemicolon", "()V"⟩, prog_8_method_12_code, 1, none, 7)
abbrev m_156 : MethodName × ByteArray × Nat × Option FieldType × Nat := (⟨"StiltMarsh$Scanner", "takeCell", "(LStiltMarsh$Land;)I"⟩, prog_8_method_17_code, 4, (Option.some FieldType.int), 7)
abbrev m_157 : MethodName × ByteArray × Nat × Option FieldType × Nat := (⟨"StiltMarsh$Scanner", "takePerhaps", "(IIII)I"⟩, prog_8_method_16_code, 5, (Option.some FieldType.int), 7)
abbrev m_158 : MethodName × ByteArray × Nat × Option FieldType × Nat := (⟨"StiltMarsh$Scanner", "takeNewName", "(LStiltMarsh$Folk;)J"⟩, prog_8_method_19_code, 4, (Option.some FieldType.long), 7)
abbrev m_159 : MethodName × ByteArray × Nat × Option FieldType × Nat := (⟨"StiltMarsh$Scanner", "isName", "()Z"⟩, prog_8_method_18_code, 1, (Option.some FieldType.boolean), 7)
abbrev m_160 : MethodName × ByteArray × Nat × Option FieldType × Nat := (⟨"StiltMarsh$Scanner", "takeWalker", "(LStiltMarsh$Folk;)I"⟩, prog_8_method_20_code, 3, (Option.some FieldType.int), 7)
abbrev m_161 : MethodName × ByteArray × Nat × Option FieldType × Nat := (⟨"StiltMarsh$Scanner", "takeCompares", "()I"⟩, prog_8_method_13_code, 2, (Option.some FieldType.int), 7)
abbrev m_162 : MethodName × ByteArray × Nat × Option FieldType × Nat := (⟨"StiltMarsh$MarshReader", "<init>", "(LStiltMarsh$Scanner;LStiltMarsh$State;)V"⟩, prog_5_method_1_code, 3, none, 8)
abbrev m_163 : MethodName × ByteArray × Nat × Option FieldType × Nat := (⟨"StiltMarsh$MarshReader", "readAll", "()V"⟩, prog_5_method_2_code, 2, none, 8)
abbrev m_164 : MethodName × ByteArray × Nat × Option FieldType × Nat := (⟨"StiltMarsh$MarshReader", "readPart", "()V"⟩, prog_5_method_3_code, 2, none, 8)
abbrev m_165 : MethodName × ByteArray × Nat × Option FieldType × Nat := (⟨"StiltMarsh$MarshReader", "readMarsh", "()V"⟩, prog_5_method_4_code, 6, none, 8)
abbrev m_166 : MethodName × ByteArray × Nat × Option FieldType × Nat := (⟨"StiltMarsh$MarshReader", "readMends", "()V"⟩, prog_5_method_5_code, 2, none, 8)
abbrev m_167 : MethodName × ByteArray × Nat × Option FieldType × Nat := (⟨"StiltMarsh$MarshReader", "readCell", "()V"⟩, prog_5_method_6_code, 7, none, 8)
abbrev m_168 : MethodName × ByteArray × Nat × Option FieldType × Nat := (⟨"StiltMarsh$MarshReader", "readFirm", "()V"⟩, prog_5_method_7_code, 2, none, 8)
abbrev m_169 : MethodName × ByteArray × Nat × Option FieldType × Nat := (⟨"StiltMarsh$MarshReader", "readWalker", "()V"⟩, prog_5_method_8_code, 10, none, 8)
abbrev m_170 : MethodName × ByteArray × Nat × Option FieldType × Nat := (⟨"StiltMarsh$MorningsReader", "<init>", "(LStiltMarsh$Scanner;LStiltMarsh$State;LStiltMarsh$Program;)V"⟩, prog_6_method_1_code, 4, none, 9)
abbrev m_171 : MethodName × ByteArray × Nat × Option FieldType × Nat := (⟨"StiltMarsh$MorningsReader", "readAll", "()V"⟩, prog_6_method_2_code, 2, none, 9)
abbrev m_172 : MethodName × ByteArray × Nat × Option FieldType × Nat := (⟨"StiltMarsh$MorningsReader", "readEnd", "()V"⟩, prog_6_method_3_code, 1, none, 9)
abbrev m_173 : MethodName × ByteArray × Nat × Option FieldType × Nat := (⟨"StiltMarsh$MorningsReader", "readStep", "()V"⟩, prog_6_method_4_code, 4, none, 9)
abbrev m_174 : MethodName × ByteArray × Nat × Option FieldType × Nat := (⟨"StiltMarsh$MorningsReader", "isStepWord", "(I)Z"⟩, prog_6_method_5_code, 1, (Option.some FieldType.boolean), 9)
abbrev m_175 : MethodName × ByteArray × Nat × Option FieldType × Nat := (⟨"StiltMarsh$MorningsReader", "readOpening", "(I)I"⟩, prog_6_method_7_code, 5, (Option.some FieldType.int), 9)
abbrev m_176 : MethodName × ByteArray × Nat × Option FieldType × Nat := (⟨"StiltMarsh$MorningsReader", "readPlain", "(I)I"⟩, prog_6_method_6_code, 5, (Option.some FieldType.int), 9)
abbrev m_177 : MethodName × ByteArray × Nat × Option FieldType × Nat := (⟨"StiltMarsh$Search", "<init>", "(LStiltMarsh$State;)V"⟩, prog_9_method_1_code, 3, none, 10)
abbrev m_178 : MethodName × ByteArray × Nat × Option FieldType × Nat := (⟨"StiltMarsh$Search", "foresee", "(I)LStiltMarsh$Stance;"⟩, prog_9_method_2_code, 3, (Option.some (FieldType.object "StiltMarsh$Stance")), 10)
abbrev m_179 : MethodName × ByteArray × Nat × Option FieldType × Nat := (⟨"StiltMarsh$Search", "momentsTillFallen", "(II)I"⟩, prog_9_method_3_code, 5, (Option.some FieldType.int), 10)
abbrev m_180 : MethodName × ByteArray × Nat × Option FieldType × Nat := (⟨"StiltMarsh$Search", "keySet", "(I)I"⟩, prog_9_method_11_code, 7, (Option.some FieldType.int), 10)
abbrev m_181 : MethodName × ByteArray × Nat × Option FieldType × Nat := (⟨"StiltMarsh$Search", "findNeighbours", "(I)V"⟩, prog_9_method_12_code, 5, none, 10)
abbrev m_182 : MethodName × ByteArray × Nat × Option FieldType × Nat := (⟨"StiltMarsh$Search", "leadsTo", "(III)Z"⟩, prog_9_method_13_code, 9, (Option.some FieldType.boolean), 10)
abbrev m_183 : MethodName × ByteArray × Nat × Option FieldType × Nat := (⟨"StiltMarsh$Search", "findCrossing", "(IIZ)Z"⟩, prog_9_method_4_code, 4, (Option.some FieldType.boolean), 10)
abbrev m_184 : MethodName × ByteArray × Nat × Option FieldType × Nat := (⟨"StiltMarsh$Search", "cross", "(LStiltMarsh$Stance;III)V"⟩, prog_9_method_5_code, 10, none, 10)
abbrev m_185 : MethodName × ByteArray × Nat × Option FieldType × Nat := (⟨"StiltMarsh$Search", "goOnCrossing", "(LStiltMarsh$Stance;III)V"⟩, prog_9_method_6_code, 7, none, 10)
abbrev m_186 : MethodName × ByteArray × Nat × Option FieldType × Nat := (⟨"StiltMarsh$Search", "fewestPlanks", "(I)I"⟩, prog_9_method_14_code, 5, (Option.some FieldType.int), 10)
abbrev m_187 : MethodName × ByteArray × Nat × Option FieldType × Nat := (⟨"StiltMarsh$Search", "spreadFrom", "(I)Z"⟩, prog_9_method_15_code, 5, (Option.some FieldType.boolean), 10)
abbrev m_188 : MethodName × ByteArray × Nat × Option FieldType × Nat := (⟨"StiltMarsh$Search", "runRace", "(III)V"⟩, prog_9_method_7_code, 4, none, 10)
abbrev m_189 : MethodName × ByteArray × Nat × Option FieldType × Nat := (⟨"StiltMarsh$Search", "outcome", "(LStiltMarsh$Stance;IIIII)I"⟩, prog_9_method_8_code, 9, (Option.some FieldType.int), 10)
abbrev m_190 : MethodName × ByteArray × Nat × Option FieldType × Nat := (⟨"StiltMarsh$Search", "worth", "(LStiltMarsh$Stance;I)I"⟩, prog_9_method_10_code, 3, (Option.some FieldType.int), 10)
abbrev m_191 : MethodName × ByteArray × Nat × Option FieldType × Nat := (⟨"StiltMarsh$Search", "bestByPole", "(LStiltMarsh$Stance;IIIIII)I"⟩, prog_9_method_9_code, 14, (Option.some FieldType.int), 10)
abbrev m_192 : MethodName × ByteArray × Nat × Option FieldType × Nat := (⟨"StiltMarsh$Search", "countTracks", "(LStiltMarsh$Trays;I)V"⟩, prog_9_method_16_code, 7, none, 10)
abbrev m_193 : MethodName × ByteArray × Nat × Option FieldType × Nat := (⟨"StiltMarsh$Search", "sumUp", "(II)I"⟩, prog_9_method_17_code, 7, (Option.some FieldType.int), 10)
abbrev m_194 : MethodName × ByteArray × Nat × Option FieldType × Nat := (⟨"StiltMarsh$Search", "isAsTold", "(LStiltMarsh$Trays;I)Z"⟩, prog_9_method_18_code, 4, (Option.some FieldType.boolean), 10)
abbrev m_195 : MethodName × ByteArray × Nat × Option FieldType × Nat := (⟨"StiltMarsh$Living", "<init>", "(LStiltMarsh$State;)V"⟩, prog_4_method_1_code, 2, none, 11)
abbrev m_196 : MethodName × ByteArray × Nat × Option FieldType × Nat := (⟨"StiltMarsh$Living", "follow", "(I)V"⟩, prog_4_method_2_code, 6, none, 11)
abbrev m_197 : MethodName × ByteArray × Nat × Option FieldType × Nat := (⟨"StiltMarsh$Living", "goBack", "(I)I"⟩, prog_4_method_4_code, 3, (Option.some FieldType.int), 11)
abbrev m_198 : MethodName × ByteArray × Nat × Option FieldType × Nat := (⟨"StiltMarsh$Living", "perform", "(I)I"⟩, prog_4_method_5_code, 6, (Option.some FieldType.int), 11)
abbrev m_199 : MethodName × ByteArray × Nat × Option FieldType × Nat := (⟨"StiltMarsh$Living", "tryStep", "(III)Z"⟩, prog_4_method_7_code, 4, (Option.some FieldType.boolean), 11)
abbrev m_200 : MethodName × ByteArray × Nat × Option FieldType × Nat := (⟨"StiltMarsh$Living", "tryStand", "(I)Z"⟩, prog_4_method_8_code, 2, (Option.some FieldType.boolean), 11)
abbrev m_201 : MethodName × ByteArray × Nat × Option FieldType × Nat := (⟨"StiltMarsh$Living", "tryHand", "(III)Z"⟩, prog_4_method_9_code, 4, (Option.some FieldType.boolean), 11)
abbrev m_202 : MethodName × ByteArray × Nat × Option FieldType × Nat := (⟨"StiltMarsh$Living", "drawStep", "(I)Z"⟩, prog_4_method_10_code, 6, (Option.some FieldType.boolean), 11)
abbrev m_203 : MethodName × ByteArray × Nat × Option FieldType × Nat := (⟨"StiltMarsh$Living", "draw", "(I)I"⟩, prog_4_method_11_code, 2, (Option.some FieldType.int), 11)
abbrev m_204 : MethodName × ByteArray × Nat × Option FieldType × Nat := (⟨"StiltMarsh$Living", "holds", "(I)Z"⟩, prog_4_method_6_code, 5, (Option.some FieldType.boolean), 11)
abbrev m_205 : MethodName × ByteArray × Nat × Option FieldType × Nat := (⟨"StiltMarsh$Living", "tellInto", "([I)V"⟩, prog_4_method_3_code, 2, none, 11)
abbrev m_206 : MethodName × ByteArray × Nat × Option FieldType × Nat := (⟨"StiltMarshModel", "<init>", "()V"⟩, prog_14_method_1_code, 1, none, 12)
abbrev m_207 : MethodName × ByteArray × Nat × Option FieldType × Nat := (⟨"StiltMarshModel", "plain", "(I)V"⟩, prog_14_method_2_code, 3, none, 12)
abbrev m_208 : MethodName × ByteArray × Nat × Option FieldType × Nat := (⟨"StiltMarshModel", "status", "()I"⟩, prog_14_method_3_code, 1, (Option.some FieldType.int), 12)
abbrev m_209 : MethodName × ByteArray × Nat × Option FieldType × Nat := (⟨"StiltMarshModel", "top", "()J"⟩, prog_14_method_4_code, 1, (Option.some FieldType.long), 12)
abbrev m_210 : MethodName × ByteArray × Nat × Option FieldType × Nat := (⟨"StiltMarshModel", "bottom", "()J"⟩, prog_14_method_5_code, 1, (Option.some FieldType.long), 12)
abbrev m_211 : MethodName × ByteArray × Nat × Option FieldType × Nat := (⟨"StiltMarshModel", "tray", "(III)Z"⟩, prog_14_method_13_code, 5, (Option.some FieldType.boolean), 12)
abbrev m_212 : MethodName × ByteArray × Nat × Option FieldType × Nat := (⟨"StiltMarshModel", "isTray", "(I)Z"⟩, prog_14_method_11_code, 1, (Option.some FieldType.boolean), 12)
abbrev m_213 : MethodName × ByteArray × Nat × Option FieldType × Nat := (⟨"StiltMarshModel", "is", "(I)Z"⟩, prog_14_method_6_code, 2, (Option.some FieldType.boolean), 12)
abbrev m_214 : MethodName × ByteArray × Nat × Option FieldType × Nat := (⟨"StiltMarshModel", "write", "(IIJ)Z"⟩, prog_14_method_15_code, 6, (Option.some FieldType.boolean), 12)
abbrev m_215 : MethodName × ByteArray × Nat × Option FieldType × Nat := (⟨"StiltMarshModel", "wrongPlace", "(II)I"⟩, prog_14_method_14_code, 3, (Option.some FieldType.int), 12)
abbrev m_216 : MethodName × ByteArray × Nat × Option FieldType × Nat := (⟨"StiltMarshModel", "cut", "(JI)J"⟩, prog_14_method_12_code, 3, (Option.some FieldType.long), 12)
abbrev m_217 : MethodName × ByteArray × Nat × Option FieldType × Nat := (⟨"StiltMarshModel", "read", "(II)J"⟩, prog_14_method_16_code, 3, (Option.some FieldType.long), 12)
abbrev m_218 : MethodName × ByteArray × Nat × Option FieldType × Nat := (⟨"StiltMarshModel", "pour", "(IIIII)Z"⟩, prog_14_method_17_code, 8, (Option.some FieldType.boolean), 12)
abbrev m_219 : MethodName × ByteArray × Nat × Option FieldType × Nat := (⟨"StiltMarshModel", "feed", "(IIIII)I"⟩, prog_14_method_19_code, 6, (Option.some FieldType.int), 12)
abbrev m_220 : MethodName × ByteArray × Nat × Option FieldType × Nat := (⟨"StiltMarshModel", "four", "(I)V"⟩, prog_14_method_20_code, 3, none, 12)
abbrev m_221 : MethodName × ByteArray × Nat × Option FieldType × Nat := (⟨"StiltMarshModel", "fault", "(I)I"⟩, prog_14_method_35_code, 2, (Option.some FieldType.int), 12)
abbrev m_222 : MethodName × ByteArray × Nat × Option FieldType × Nat := (⟨"StiltMarshModel", "marsh", "(I)I"⟩, prog_14_method_43_code, 4, (Option.some FieldType.int), 12)
abbrev m_223 : MethodName × ByteArray × Nat × Option FieldType × Nat := (⟨"StiltMarshModel", "begins", "(II)Z"⟩, prog_14_method_28_code, 4, (Option.some FieldType.boolean), 12)
abbrev m_224 : MethodName × ByteArray × Nat × Option FieldType × Nat := (⟨"StiltMarshModel", "ahead", "()V"⟩, prog_14_method_24_code, 2, none, 12)
abbrev m_225 : MethodName × ByteArray × Nat × Option FieldType × Nat := (⟨"StiltMarshModel", "byteAt", "(I)I"⟩, prog_14_method_21_code, 2, (Option.some FieldType.int), 12)
abbrev m_226 : MethodName × ByteArray × Nat × Option FieldType × Nat := (⟨"StiltMarshModel", "isSmall", "(I)Z"⟩, prog_14_method_22_code, 1, (Option.some FieldType.boolean), 12)
abbrev m_227 : MethodName × ByteArray × Nat × Option FieldType × Nat := (⟨"StiltMarshModel", "isDigit", "(I)Z"⟩, prog_14_method_23_code, 1, (Option.some FieldType.boolean), 12)
abbrev m_228 : MethodName × ByteArray × Nat × Option FieldType × Nat := (⟨"StiltMarshModel", "refuse", "(I)I"⟩, prog_14_method_7_code, 2, (Option.some FieldType.int), 12)
abbrev m_229 : MethodName × ByteArray × Nat × Option FieldType × Nat := (⟨"StiltMarshModel", "marshPart", "()Z"⟩, prog_14_method_42_code, 4, (Option.some FieldType.boolean), 12)
abbrev m_230 : MethodName × ByteArray × Nat × Option FieldType × Nat := (⟨"StiltMarshModel", "inWords", "(Ljava/lang/String;)I"⟩, prog_14_method_26_code, 7, (Option.some FieldType.int), 12)
abbrev m_231 : MethodName × ByteArray × Nat × Option FieldType × Nat := (⟨"StiltMarshModel", "fails", "(I)Z"⟩, prog_14_method_27_code, 2, (Option.some FieldType.boolean), 12)
abbrev m_232 : MethodName × ByteArray × Nat × Option FieldType × Nat := (⟨"StiltMarshModel", "theMarsh", "()Z"⟩, prog_14_method_39_code, 4, (Option.some FieldType.boolean), 12)
abbrev m_233 : MethodName × ByteArray × Nat × Option FieldType × Nat := (⟨"StiltMarshModel", "number", "(III)Z"⟩, prog_14_method_31_code, 4, (Option.some FieldType.boolean), 12)
abbrev m_234 : MethodName × ByteArray × Nat × Option FieldType × Nat := (⟨"StiltMarshModel", "wantWord", "(Ljava/lang/String;I)Z"⟩, prog_14_method_30_code, 3, (Option.some FieldType.boolean), 12)
abbrev m_235 : MethodName × ByteArray × Nat × Option FieldType × Nat := (⟨"StiltMarshModel", "aCell", "()Z"⟩, prog_14_method_40_code, 3, (Option.some FieldType.boolean), 12)
abbrev m_236 : MethodName × ByteArray × Nat × Option FieldType × Nat := (⟨"StiltMarshModel", "cellTo", "(II)Z"⟩, prog_14_method_38_code, 3, (Option.some FieldType.boolean), 12)
abbrev m_237 : MethodName × ByteArray × Nat × Option FieldType × Nat := (⟨"StiltMarshModel", "isThere", "(I)Z"⟩, prog_14_method_37_code, 2, (Option.some FieldType.boolean), 12)
abbrev m_238 : MethodName × ByteArray × Nat × Option FieldType × Nat := (⟨"StiltMarshModel", "aWalker", "()Z"⟩, prog_14_method_41_code, 3, (Option.some FieldType.boolean), 12)
abbrev m_239 : MethodName × ByteArray × Nat × Option FieldType × Nat := (⟨"StiltMarshModel", "isName", "(Ljava/lang/String;)Z"⟩, prog_14_method_32_code, 2, (Option.some FieldType.boolean), 12)
abbrev m_240 : MethodName × ByteArray × Nat × Option FieldType × Nat := (⟨"StiltMarshModel", "findHere", "(II)I"⟩, prog_14_method_34_code, 4, (Option.some FieldType.int), 12)
abbrev m_241 : MethodName × ByteArray × Nat × Option FieldType × Nat := (⟨"StiltMarshModel", "nameHere", "()J"⟩, prog_14_method_33_code, 4, (Option.some FieldType.long), 12)
abbrev m_242 : MethodName × ByteArray × Nat × Option FieldType × Nat := (⟨"StiltMarshModel", "wantSign", "(I)Z"⟩, prog_14_method_29_code, 2, (Option.some FieldType.boolean), 12)
abbrev m_243 : MethodName × ByteArray × Nat × Option FieldType × Nat := (⟨"StiltMarshModel", "isSign", "(I)Z"⟩, prog_14_method_25_code, 2, (Option.some FieldType.boolean), 12)
abbrev m_244 : MethodName × ByteArray × Nat × Option FieldType × Nat := (⟨"StiltMarshModel", "taken", "(I)I"⟩, prog_14_method_36_code, 2, (Option.some FieldType.int), 12)
abbrev m_245 : MethodName × ByteArray × Nat × Option FieldType × Nat := (⟨"StiltMarshModel", "gives", "(I)I"⟩, prog_14_method_8_code, 2, (Option.some FieldType.int), 12)
abbrev m_246 : MethodName × ByteArray × Nat × Option FieldType × Nat := (⟨"StiltMarshModel", "mornings", "(I)I"⟩, prog_14_method_48_code, 4, (Option.some FieldType.int), 12)
abbrev m_247 : MethodName × ByteArray × Nat × Option FieldType × Nat := (⟨"StiltMarshModel", "morningStep", "()Z"⟩, prog_14_method_47_code, 6, (Option.some FieldType.boolean), 12)
abbrev m_248 : MethodName × ByteArray × Nat × Option FieldType × Nat := (⟨"StiltMarshModel", "morningOrder", "(II)Z"⟩, prog_14_method_46_code, 3, (Option.some FieldType.boolean), 12)
abbrev m_249 : MethodName × ByteArray × Nat × Option FieldType × Nat := (⟨"StiltMarshModel", "walkerTo", "(I)Z"⟩, prog_14_method_44_code, 2, (Option.some FieldType.boolean), 12)
abbrev m_250 : MethodName × ByteArray × Nat × Option FieldType × Nat := (⟨"StiltMarshModel", "test", "(I)Z"⟩, prog_14_method_45_code, 3, (Option.some FieldType.boolean), 12)
abbrev m_251 : MethodName × ByteArray × Nat × Option FieldType × Nat := (⟨"StiltMarshModel", "told", "(I)I"⟩, prog_14_method_73_code, 2, (Option.some FieldType.int), 12)
abbrev m_252 : MethodName × ByteArray × Nat × Option FieldType × Nat := (⟨"StiltMarshModel", "setOf", "(I)I"⟩, prog_14_method_70_code, 4, (Option.some FieldType.int), 12)
abbrev m_253 : MethodName × ByteArray × Nat × Option FieldType × Nat := (⟨"StiltMarshModel", "isFallen", "(I)Z"⟩, prog_14_method_61_code, 2, (Option.some FieldType.boolean), 12)
abbrev m_254 : MethodName × ByteArray × Nat × Option FieldType × Nat := (⟨"StiltMarshModel", "walkerOf", "(II)I"⟩, prog_14_method_60_code, 3, (Option.some FieldType.int), 12)
abbrev m_255 : MethodName × ByteArray × Nat × Option FieldType × Nat := (⟨"StiltMarshModel", "walkerRow", "(I)I"⟩, prog_14_method_50_code, 1, (Option.some FieldType.int), 12)
abbrev m_256 : MethodName × ByteArray × Nat × Option FieldType × Nat := (⟨"StiltMarshModel", "isHome", "(I)Z"⟩, prog_14_method_67_code, 2, (Option.some FieldType.boolean), 12)
abbrev m_257 : MethodName × ByteArray × Nat × Option FieldType × Nat := (⟨"StiltMarshModel", "poleCell", "(II)I"⟩, prog_14_method_62_code, 3, (Option.some FieldType.int), 12)
abbrev m_258 : MethodName × ByteArray × Nat × Option FieldType × Nat := (⟨"StiltMarshModel", "poleRow", "(II)I"⟩, prog_14_method_51_code, 2, (Option.some FieldType.int), 12)
abbrev m_259 : MethodName × ByteArray × Nat × Option FieldType × Nat := (⟨"StiltMarshModel", "wantedCell", "(I)I"⟩, prog_14_method_64_code, 2, (Option.some FieldType.int), 12)
abbrev m_260 : MethodName × ByteArray × Nat × Option FieldType × Nat := (⟨"StiltMarshModel", "ofCells", "(I)I"⟩, prog_14_method_71_code, 4, (Option.some FieldType.int), 12)
abbrev m_261 : MethodName × ByteArray × Nat × Option FieldType × Nat := (⟨"StiltMarshModel", "isHere", "(I)Z"⟩, prog_14_method_66_code, 2, (Option.some FieldType.boolean), 12)
abbrev m_262 : MethodName × ByteArray × Nat × Option FieldType × Nat := (⟨"StiltMarshModel", "isCell", "(II)Z"⟩, prog_14_method_53_code, 3, (Option.some FieldType.boolean), 12)
abbrev m_263 : MethodName × ByteArray × Nat × Option FieldType × Nat := (⟨"StiltMarshModel", "isRow", "(I)Z"⟩, prog_14_method_52_code, 2, (Option.some FieldType.boolean), 12)
abbrev m_264 : MethodName × ByteArray × Nat × Option FieldType × Nat := (⟨"StiltMarshModel", "isFirm", "(I)Z"⟩, prog_14_method_59_code, 2, (Option.some FieldType.boolean), 12)
abbrev m_265 : MethodName × ByteArray × Nat × Option FieldType × Nat := (⟨"StiltMarshModel", "cellOf", "(II)I"⟩, prog_14_method_58_code, 3, (Option.some FieldType.int), 12)
abbrev m_266 : MethodName × ByteArray × Nat × Option FieldType × Nat := (⟨"StiltMarshModel", "cellRow", "(I)I"⟩, prog_14_method_49_code, 1, (Option.some FieldType.int), 12)
abbrev m_267 : MethodName × ByteArray × Nat × Option FieldType × Nat := (⟨"StiltMarshModel", "allLoad", "()I"⟩, prog_14_method_72_code, 3, (Option.some FieldType.int), 12)
abbrev m_268 : MethodName × ByteArray × Nat × Option FieldType × Nat := (⟨"StiltMarshModel", "cell", "(III)I"⟩, prog_14_method_74_code, 5, (Option.some FieldType.int), 12)
abbrev m_269 : MethodName × ByteArray × Nat × Option FieldType × Nat := (⟨"StiltMarshModel", "polesIn", "(I)I"⟩, prog_14_method_69_code, 5, (Option.some FieldType.int), 12)
abbrev m_270 : MethodName × ByteArray × Nat × Option FieldType × Nat := (⟨"StiltMarshModel", "walker", "(II)I"⟩, prog_14_method_75_code, 3, (Option.some FieldType.int), 12)
abbrev m_271 : MethodName × ByteArray × Nat × Option FieldType × Nat := (⟨"StiltMarshModel", "isWalker", "(I)Z"⟩, prog_14_method_54_code, 2, (Option.some FieldType.boolean), 12)
abbrev m_272 : MethodName × ByteArray × Nat × Option FieldType × Nat := (⟨"StiltMarshModel", "pole", "(III)I"⟩, prog_14_method_76_code, 4, (Option.some FieldType.int), 12)
abbrev m_273 : MethodName × ByteArray × Nat × Option FieldType × Nat := (⟨"StiltMarshModel", "isPole", "(II)Z"⟩, prog_14_method_55_code, 3, (Option.some FieldType.boolean), 12)
abbrev m_274 : MethodName × ByteArray × Nat × Option FieldType × Nat := (⟨"StiltMarshModel", "step", "(IIII)I"⟩, prog_14_method_82_code, 5, (Option.some FieldType.int), 12)
abbrev m_275 : MethodName × ByteArray × Nat × Option FieldType × Nat := (⟨"StiltMarshModel", "pullOf", "(II)I"⟩, prog_14_method_79_code, 3, (Option.some FieldType.int), 12)
abbrev m_276 : MethodName × ByteArray × Nat × Option FieldType × Nat := (⟨"StiltMarshModel", "sunkOf", "(II)I"⟩, prog_14_method_63_code, 3, (Option.some FieldType.int), 12)
abbrev m_277 : MethodName × ByteArray × Nat × Option FieldType × Nat := (⟨"StiltMarshModel", "canStep", "(III)Z"⟩, prog_14_method_80_code, 4, (Option.some FieldType.boolean), 12)
abbrev m_278 : MethodName × ByteArray × Nat × Option FieldType × Nat := (⟨"StiltMarshModel", "farBy", "(II)I"⟩, prog_14_method_65_code, 2, (Option.some FieldType.int), 12)
abbrev m_279 : MethodName × ByteArray × Nat × Option FieldType × Nat := (⟨"StiltMarshModel", "steps", "(III)I"⟩, prog_14_method_81_code, 6, (Option.some FieldType.int), 12)
abbrev m_280 : MethodName × ByteArray × Nat × Option FieldType × Nat := (⟨"StiltMarshModel", "moment", "(II)I"⟩, prog_14_method_78_code, 6, (Option.some FieldType.int), 12)
abbrev m_281 : MethodName × ByteArray × Nat × Option FieldType × Nat := (⟨"StiltMarshModel", "burdenOf", "(I)I"⟩, prog_14_method_68_code, 2, (Option.some FieldType.int), 12)
abbrev m_282 : MethodName × ByteArray × Nat × Option FieldType × Nat := (⟨"StiltMarshModel", "bearsOn", "(III)Z"⟩, prog_14_method_77_code, 6, (Option.some FieldType.boolean), 12)
abbrev m_283 : MethodName × ByteArray × Nat × Option FieldType × Nat := (⟨"StiltMarshModel", "stand", "(I)I"⟩, prog_14_method_84_code, 2, (Option.some FieldType.int), 12)
abbrev m_284 : MethodName × ByteArray × Nat × Option FieldType × Nat := (⟨"StiltMarshModel", "isFrom", "(JJJ)Z"⟩, prog_14_method_18_code, 6, (Option.some FieldType.boolean), 12)
abbrev m_285 : MethodName × ByteArray × Nat × Option FieldType × Nat := (⟨"StiltMarshModel", "stands", "(I)I"⟩, prog_14_method_83_code, 4, (Option.some FieldType.int), 12)
abbrev m_286 : MethodName × ByteArray × Nat × Option FieldType × Nat := (⟨"StiltMarshModel", "hand", "(III)I"⟩, prog_14_method_87_code, 4, (Option.some FieldType.int), 12)
abbrev m_287 : MethodName × ByteArray × Nat × Option FieldType × Nat := (⟨"StiltMarshModel", "areTwo", "(II)Z"⟩, prog_14_method_56_code, 3, (Option.some FieldType.boolean), 12)
abbrev m_288 : MethodName × ByteArray × Nat × Option FieldType × Nat := (⟨"StiltMarshModel", "hands", "(III)Z"⟩, prog_14_method_86_code, 4, (Option.some FieldType.boolean), 12)
abbrev m_289 : MethodName × ByteArray × Nat × Option FieldType × Nat := (⟨"StiltMarshModel", "areNear", "(II)Z"⟩, prog_14_method_85_code, 6, (Option.some FieldType.boolean), 12)
abbrev m_290 : MethodName × ByteArray × Nat × Option FieldType × Nat := (⟨"StiltMarshModel", "plank", "(II)I"⟩, prog_14_method_88_code, 4, (Option.some FieldType.int), 12)
abbrev m_291 : MethodName × ByteArray × Nat × Option FieldType × Nat := (⟨"StiltMarshModel", "rot", "(II)Z"⟩, prog_14_method_89_code, 4, (Option.some FieldType.boolean), 12)
abbrev m_292 : MethodName × ByteArray × Nat × Option FieldType × Nat := (⟨"StiltMarshModel", "rise", "(III)Z"⟩, prog_14_method_90_code, 5, (Option.some FieldType.boolean), 12)
abbrev m_293 : MethodName × ByteArray × Nat × Option FieldType × Nat := (⟨"StiltMarshModel", "pack", "(II)I"⟩, prog_14_method_91_code, 4, (Option.some FieldType.int), 12)
abbrev m_294 : MethodName × ByteArray × Nat × Option FieldType × Nat := (⟨"StiltMarshModel", "send", "(III)Z"⟩, prog_14_method_92_code, 4, (Option.some FieldType.boolean), 12)
abbrev m_295 : MethodName × ByteArray × Nat × Option FieldType × Nat := (⟨"StiltMarshModel", "weather", "(I)Z"⟩, prog_14_method_93_code, 2, (Option.some FieldType.boolean), 12)
abbrev m_296 : MethodName × ByteArray × Nat × Option FieldType × Nat := (⟨"StiltMarshModel", "pierce", "(II)I"⟩, prog_14_method_94_code, 5, (Option.some FieldType.int), 12)
abbrev m_297 : MethodName × ByteArray × Nat × Option FieldType × Nat := (⟨"StiltMarshModel", "far", "(IIII)I"⟩, prog_14_method_97_code, 5, (Option.some FieldType.int), 12)
abbrev m_298 : MethodName × ByteArray × Nat × Option FieldType × Nat := (⟨"StiltMarshModel", "burden", "(I)I"⟩, prog_14_method_98_code, 2, (Option.some FieldType.int), 12)
abbrev m_299 : MethodName × ByteArray × Nat × Option FieldType × Nat := (⟨"StiltMarshModel", "pull", "(II)I"⟩, prog_14_method_99_code, 3, (Option.some FieldType.int), 12)
abbrev m_300 : MethodName × ByteArray × Nat × Option FieldType × Nat := (⟨"StiltMarshModel", "choices", "(II)I"⟩, prog_14_method_100_code, 5, (Option.some FieldType.int), 12)
abbrev m_301 : MethodName × ByteArray × Nat × Option FieldType × Nat := (⟨"StiltMarshModel", "bears", "(III)I"⟩, prog_14_method_102_code, 4, (Option.some FieldType.int), 12)
abbrev m_302 : MethodName × ByteArray × Nat × Option FieldType × Nat := (⟨"StiltMarshModel", "bearsFor", "(II)I"⟩, prog_14_method_101_code, 6, (Option.some FieldType.int), 12)
abbrev m_303 : MethodName × ByteArray × Nat × Option FieldType × Nat := (⟨"StiltMarshModel", "weakest", "(I)I"⟩, prog_14_method_103_code, 4, (Option.some FieldType.int), 12)
abbrev m_304 : MethodName × ByteArray × Nat × Option FieldType × Nat := (⟨"StiltMarshModel", "sunkIn", "(III)I"⟩, prog_14_method_105_code, 5, (Option.some FieldType.int), 12)
abbrev m_305 : MethodName × ByteArray × Nat × Option FieldType × Nat := (⟨"StiltMarshModel", "isSpan", "(I)Z"⟩, prog_14_method_104_code, 1, (Option.some FieldType.boolean), 12)
abbrev m_306 : MethodName × ByteArray × Nat × Option FieldType × Nat := (⟨"StiltMarshModel", "keeps", "(I)V"⟩, prog_14_method_95_code, 3, none, 12)
abbrev m_307 : MethodName × ByteArray × Nat × Option FieldType × Nat := (⟨"StiltMarshModel", "restores", "(I)V"⟩, prog_14_method_96_code, 3, none, 12)
abbrev m_308 : MethodName × ByteArray × Nat × Option FieldType × Nat := (⟨"StiltMarshModel", "fallsIn", "(I)I"⟩, prog_14_method_106_code, 3, (Option.some FieldType.int), 12)
abbrev m_309 : MethodName × ByteArray × Nat × Option FieldType × Nat := (⟨"StiltMarshModel", "skinIn", "(III)I"⟩, prog_14_method_107_code, 5, (Option.some FieldType.int), 12)
abbrev m_310 : MethodName × ByteArray × Nat × Option FieldType × Nat := (⟨"StiltMarshModel", "helpers", "(I)I"⟩, prog_14_method_108_code, 4, (Option.some FieldType.int), 12)
abbrev m_311 : MethodName × ByteArray × Nat × Option FieldType × Nat := (⟨"StiltMarshModel", "way", "(I)I"⟩, prog_14_method_113_code, 2, (Option.some FieldType.int), 12)
abbrev m_312 : MethodName × ByteArray × Nat × Option FieldType × Nat := (⟨"StiltMarshModel", "wayWithout", "(II)I"⟩, prog_14_method_111_code, 3, (Option.some FieldType.int), 12)
abbrev m_313 : MethodName × ByteArray × Nat × Option FieldType × Nat := (⟨"StiltMarshModel", "laysWays", "(III)V"⟩, prog_14_method_109_code, 9, none, 12)
abbrev m_314 : MethodName × ByteArray × Nat × Option FieldType × Nat := (⟨"StiltMarshModel", "wayOf", "(I)I"⟩, prog_14_method_110_code, 2, (Option.some FieldType.int), 12)
abbrev m_315 : MethodName × ByteArray × Nat × Option FieldType × Nat := (⟨"StiltMarshModel", "orNoWay", "(I)I"⟩, prog_14_method_112_code, 2, (Option.some FieldType.int), 12)
abbrev m_316 : MethodName × ByteArray × Nat × Option FieldType × Nat := (⟨"StiltMarshModel", "wayFrom", "(IIIII)I"⟩, prog_14_method_114_code, 6, (Option.some FieldType.int), 12)
abbrev m_317 : MethodName × ByteArray × Nat × Option FieldType × Nat := (⟨"StiltMarshModel", "keys", "(I)I"⟩, prog_14_method_116_code, 4, (Option.some FieldType.int), 12)
abbrev m_318 : MethodName × ByteArray × Nat × Option FieldType × Nat := (⟨"StiltMarshModel", "isKeyFor", "(II)Z"⟩, prog_14_method_115_code, 3, (Option.some FieldType.boolean), 12)
abbrev m_319 : MethodName × ByteArray × Nat × Option FieldType × Nat := (⟨"StiltMarshModel", "isKey", "(III)I"⟩, prog_14_method_117_code, 4, (Option.some FieldType.int), 12)
abbrev m_320 : MethodName × ByteArray × Nat × Option FieldType × Nat := (⟨"StiltMarshModel", "soonest", "(II)I"⟩, prog_14_method_123_code, 3, (Option.some FieldType.int), 12)
abbrev m_321 : MethodName × ByteArray × Nat × Option FieldType × Nat := (⟨"StiltMarshModel", "crossing", "(IIZ)I"⟩, prog_14_method_120_code, 4, (Option.some FieldType.int), 12)
abbrev m_322 : MethodName × ByteArray × Nat × Option FieldType × Nat := (⟨"StiltMarshModel", "laysCrossing", "(IIZ)V"⟩, prog_14_method_119_code, 9, none, 12)
abbrev m_323 : MethodName × ByteArray × Nat × Option FieldType × Nat := (⟨"StiltMarshModel", "levelAt", "(I)I"⟩, prog_14_method_118_code, 1, (Option.some FieldType.int), 12)
abbrev m_324 : MethodName × ByteArray × Nat × Option FieldType × Nat := (⟨"StiltMarshModel", "orNone", "(I)I"⟩, prog_14_method_9_code, 2, (Option.some FieldType.int), 12)
abbrev m_325 : MethodName × ByteArray × Nat × Option FieldType × Nat := (⟨"StiltMarshModel", "soonestAt", "(III)I"⟩, prog_14_method_124_code, 4, (Option.some FieldType.int), 12)
abbrev m_326 : MethodName × ByteArray × Nat × Option FieldType × Nat := (⟨"StiltMarshModel", "crossingAt", "(IIIZ)I"⟩, prog_14_method_122_code, 5, (Option.some FieldType.int), 12)
abbrev m_327 : MethodName × ByteArray × Nat × Option FieldType × Nat := (⟨"StiltMarshModel", "ofStep", "(II)I"⟩, prog_14_method_121_code, 2, (Option.some FieldType.int), 12)
abbrev m_328 : MethodName × ByteArray × Nat × Option FieldType × Nat := (⟨"StiltMarshModel", "sparing", "(II)I"⟩, prog_14_method_125_code, 3, (Option.some FieldType.int), 12)
abbrev m_329 : MethodName × ByteArray × Nat × Option FieldType × Nat := (⟨"StiltMarshModel", "sparingAt", "(III)I"⟩, prog_14_method_126_code, 4, (Option.some FieldType.int), 12)
abbrev m_330 : MethodName × ByteArray × Nat × Option FieldType × Nat := (⟨"StiltMarshModel", "planks", "(I)I"⟩, prog_14_method_128_code, 2, (Option.some FieldType.int), 12)
abbrev m_331 : MethodName × ByteArray × Nat × Option FieldType × Nat := (⟨"StiltMarshModel", "planksOf", "(I)I"⟩, prog_14_method_127_code, 6, (Option.some FieldType.int), 12)
abbrev m_332 : MethodName × ByteArray × Nat × Option FieldType × Nat := (⟨"StiltMarshModel", "mostPlanks", "()I"⟩, prog_14_method_129_code, 3, (Option.some FieldType.int), 12)
abbrev m_333 : MethodName × ByteArray × Nat × Option FieldType × Nat := (⟨"StiltMarshModel", "race", "(III)I"⟩, prog_14_method_135_code, 4, (Option.some FieldType.int), 12)
abbrev m_334 : MethodName × ByteArray × Nat × Option FieldType × Nat := (⟨"StiltMarshModel", "isRace", "(III)Z"⟩, prog_14_method_134_code, 4, (Option.some FieldType.boolean), 12)
abbrev m_335 : MethodName × ByteArray × Nat × Option FieldType × Nat := (⟨"StiltMarshModel", "racing", "(III)I"⟩, prog_14_method_133_code, 7, (Option.some FieldType.int), 12)
abbrev m_336 : MethodName × ByteArray × Nat × Option FieldType × Nat := (⟨"StiltMarshModel", "laysRaceWays", "(II)V"⟩, prog_14_method_130_code, 4, none, 12)
abbrev m_337 : MethodName × ByteArray × Nat × Option FieldType × Nat := (⟨"StiltMarshModel", "weighs", "(II)V"⟩, prog_14_method_132_code, 3, none, 12)
abbrev m_338 : MethodName × ByteArray × Nat × Option FieldType × Nat := (⟨"StiltMarshModel", "endOf", "(IZ)I"⟩, prog_14_method_131_code, 4, (Option.some FieldType.int), 12)
abbrev m_339 : MethodName × ByteArray × Nat × Option FieldType × Nat := (⟨"StiltMarshModel", "raced", "(IIII)I"⟩, prog_14_method_136_code, 5, (Option.some FieldType.int), 12)
abbrev m_340 : MethodName × ByteArray × Nat × Option FieldType × Nat := (⟨"StiltMarshModel", "gone", "(I)I"⟩, prog_14_method_137_code, 4, (Option.some FieldType.int), 12)
abbrev m_341 : MethodName × ByteArray × Nat × Option FieldType × Nat := (⟨"StiltMarshModel", "tracks", "(I)I"⟩, prog_14_method_140_code, 3, (Option.some FieldType.int), 12)
abbrev m_342 : MethodName × ByteArray × Nat × Option FieldType × Nat := (⟨"StiltMarshModel", "wrongTracks", "(I)I"⟩, prog_14_method_139_code, 2, (Option.some FieldType.int), 12)
abbrev m_343 : MethodName × ByteArray × Nat × Option FieldType × Nat := (⟨"StiltMarshModel", "laysTracks", "(I)V"⟩, prog_14_method_138_code, 8, none, 12)
abbrev m_344 : MethodName × ByteArray × Nat × Option FieldType × Nat := (⟨"StiltMarshModel", "sure", "(I)I"⟩, prog_14_method_141_code, 3, (Option.some FieldType.int), 12)
abbrev m_345 : MethodName × ByteArray × Nat × Option FieldType × Nat := (⟨"StiltMarshModel", "luck", "(I)Z"⟩, prog_14_method_143_code, 5, (Option.some FieldType.boolean), 12)
abbrev m_346 : MethodName × ByteArray × Nat × Option FieldType × Nat := (⟨"StiltMarshModel", "luckOf", "(I)J"⟩, prog_14_method_142_code, 5, (Option.some FieldType.long), 12)
abbrev m_347 : MethodName × ByteArray × Nat × Option FieldType × Nat := (⟨"StiltMarshModel", "tellsBy", "(JJ)Z"⟩, prog_14_method_10_code, 11, (Option.some FieldType.boolean), 12)
abbrev m_348 : MethodName × ByteArray × Nat × Option FieldType × Nat := (⟨"StiltMarshModel", "luckiest", "()I"⟩, prog_14_method_144_code, 3, (Option.some FieldType.int), 12)
abbrev m_349 : MethodName × ByteArray × Nat × Option FieldType × Nat := (⟨"StiltMarshModel", "copyRow", "(II)I"⟩, prog_14_method_145_code, 5, (Option.some FieldType.int), 12)
abbrev m_350 : MethodName × ByteArray × Nat × Option FieldType × Nat := (⟨"StiltMarshModel", "live", "(I)I"⟩, prog_14_method_154_code, 3, (Option.some FieldType.int), 12)
abbrev m_351 : MethodName × ByteArray × Nat × Option FieldType × Nat := (⟨"StiltMarshModel", "lives", "(I)V"⟩, prog_14_method_153_code, 4, none, 12)
abbrev m_352 : MethodName × ByteArray × Nat × Option FieldType × Nat := (⟨"StiltMarshModel", "does", "(I)Z"⟩, prog_14_method_150_code, 3, (Option.some FieldType.boolean), 12)
abbrev m_353 : MethodName × ByteArray × Nat × Option FieldType × Nat := (⟨"StiltMarshModel", "stepsBy", "(IIII)Z"⟩, prog_14_method_147_code, 5, (Option.some FieldType.boolean), 12)
abbrev m_354 : MethodName × ByteArray × Nat × Option FieldType × Nat := (⟨"StiltMarshModel", "bits", "(I)I"⟩, prog_14_method_57_code, 3, (Option.some FieldType.int), 12)
abbrev m_355 : MethodName × ByteArray × Nat × Option FieldType × Nat := (⟨"StiltMarshModel", "standsBy", "(I)Z"⟩, prog_14_method_149_code, 2, (Option.some FieldType.boolean), 12)
abbrev m_356 : MethodName × ByteArray × Nat × Option FieldType × Nat := (⟨"StiltMarshModel", "stepsAny", "(I)Z"⟩, prog_14_method_148_code, 5, (Option.some FieldType.boolean), 12)
abbrev m_357 : MethodName × ByteArray × Nat × Option FieldType × Nat := (⟨"StiltMarshModel", "draw", "(I)I"⟩, prog_14_method_146_code, 2, (Option.some FieldType.int), 12)
abbrev m_358 : MethodName × ByteArray × Nat × Option FieldType × Nat := (⟨"StiltMarshModel", "holds", "(I)Z"⟩, prog_14_method_151_code, 5, (Option.some FieldType.boolean), 12)
abbrev m_359 : MethodName × ByteArray × Nat × Option FieldType × Nat := (⟨"StiltMarshModel", "behindEnds", "(I)I"⟩, prog_14_method_152_code, 5, (Option.some FieldType.int), 12)
abbrev m_360 : MethodName × ByteArray × Nat × Option FieldType × Nat := (⟨"StiltMarshModel", "lived", "(I)I"⟩, prog_14_method_155_code, 2, (Option.some FieldType.int), 12)
abbrev m_361 : MethodName × ByteArray × Nat × Option FieldType × Nat := (⟨"StiltMarshModel", "mean", "(II)Z"⟩, prog_14_method_156_code, 6, (Option.some FieldType.boolean), 12)
abbrev m_362 : MethodName × ByteArray × Nat × Option FieldType × Nat := (⟨"StiltMarshModel", "mark", "()I"⟩, prog_14_method_158_code, 1, (Option.some FieldType.int), 12)
abbrev m_363 : MethodName × ByteArray × Nat × Option FieldType × Nat := (⟨"StiltMarshModel", "copies", "(II)V"⟩, prog_14_method_157_code, 4, none, 12)
abbrev m_364 : MethodName × ByteArray × Nat × Option FieldType × Nat := (⟨"StiltMarshModel", "undo", "()I"⟩, prog_14_method_159_code, 1, (Option.some FieldType.int), 12)
abbrev m_365 : MethodName × ByteArray × Nat × Option FieldType × Nat := (⟨"java/util/Arrays", "fill", "([II)V"⟩, prog_21_method_103_code, 4, none, 14)
abbrev m_366 : MethodName × ByteArray × Nat × Option FieldType × Nat := (⟨"java/util/Arrays", "fill", "([JIIJ)V"⟩, prog_21_method_102_code, 6, none, 14)
abbrev m_367 : MethodName × ByteArray × Nat × Option FieldType × Nat := (⟨"java/util/Arrays", "rangeCheck", "(III)V"⟩, prog_21_method_30_code, 3, none, 14)
abbrev m_368 : MethodName × ByteArray × Nat × Option FieldType × Nat := (⟨"java/util/Arrays", "fill", "([JJ)V"⟩, prog_21_method_101_code, 5, none, 14)
abbrev m_369 : MethodName × ByteArray × Nat × Option FieldType × Nat := (⟨"java/lang/Integer", "bitCount", "(I)I"⟩, prog_15_method_49_code, 1, (Option.some FieldType.int), 15)
def mTab : List (MethodName × ByteArray × Nat × Option FieldType × Nat) := [m_0, m_1, m_2, m_3, m_4, m_5, m_6, m_7, m_8, m_9, m_10, m_11, m_12, m_13, m_14, m_15, m_16, m_17, m_18, m_19, m_20, m_21, m_22, m_23, m_24, m_25, m_26, m_27, m_28, m_29, m_30, m_31, m_32, m_33, m_34, m_35, m_36, m_37, m_38, m_39, m_40, m_41, m_42, m_43, m_44, m_45, m_46, m_47, m_48, m_49, m_50, m_51, m_52, m_53, m_54, m_55, m_56, m_57, m_58, m_59, m_60, m_61, m_62, m_63, m_64, m_65, m_66, m_67, m_68, m_69, m_70, m_71, m_72, m_73, m_74, m_75, m_76, m_77, m_78, m_79, m_80, m_81, m_82, m_83, m_84, m_85, m_86, m_87, m_88, m_89, m_90, m_91, m_92, m_93, m_94, m_95, m_96, m_97, m_98, m_99, m_100, m_101, m_102, m_103, m_104, m_105, m_106, m_107, m_108, m_109, m_110, m_111, m_112, m_113, m_114, m_115, m_116, m_117, m_118, m_119, m_120, m_121, m_122, m_123, m_124, m_125, m_126, m_127, m_128, m_129, m_130, m_131, m_132, m_133, m_134, m_135, m_136, m_137, m_138, m_139, m_140, m_141, m_142, m_143, m_144, m_145, m_146, m_147, m_148, m_149, m_150, m_151, m_152, m_153, m_154, m_155, m_156, m_157, m_158, m_159, m_160, m_161, m_162, m_163, m_164, m_165, m_166, m_167, m_168, m_169, m_170, m_171, m_172, m_173, m_174, m_175, m_176, m_177, m_178, m_179, m_180, m_181, m_182, m_183, m_184, m_185, m_186, m_187, m_188, m_189, m_190, m_191, m_192, m_193, m_194, m_195, m_196, m_197, m_198, m_199, m_200, m_201, m_202, m_203, m_204, m_205, m_206, m_207, m_208, m_209, m_210, m_211, m_212, m_213, m_214, m_215, m_216, m_217, m_218, m_219, m_220, m_221, m_222, m_223, m_224, m_225, m_226, m_227, m_228, m_229, m_230, m_231, m_232, m_233, m_234, m_235, m_236, m_237, m_238, m_239, m_240, m_241, m_242, m_243, m_244, m_245, m_246, m_247, m_248, m_249, m_250, m_251, m_252, m_253, m_254, m_255, m_256, m_257, m_258, m_259, m_260, m_261, m_262, m_263, m_264, m_265, m_266, m_267, m_268, m_269, m_270, m_271, m_272, m_273, m_274, m_275, m_276, m_277, m_278, m_279, m_280, m_281, m_282, m_283, m_284, m_285, m_286, m_287, m_288, m_289, m_290, m_291, m_292, m_293, m_294, m_295, m_296, m_297, m_298, m_299, m_300, m_301, m_302, m_303, m_304, m_305, m_306, m_307, m_308, m_309, m_310, m_311, m_312, m_313, m_314, m_315, m_316, m_317, m_318, m_319, m_320, m_321, m_322, m_323, m_324, m_325, m_326, m_327, m_328, m_329, m_330, m_331, m_332, m_333, m_334, m_335, m_336, m_337, m_338, m_339, m_340, m_341, m_342, m_343, m_344, m_345, m_346, m_347, m_348, m_349, m_350, m_351, m_352, m_353, m_354, m_355, m_356, m_357, m_358, m_359, m_360, m_361, m_362, m_363, m_364, m_365, m_366, m_367, m_368, m_369]
def mM (k : Nat) : MethodName × ByteArray × Nat × Option FieldType × Nat := mTab.getD k m_0
abbrev mY (k : Nat) : MethodName := (mM k).1
abbrev mC (k : Nat) : ByteArray := (mM k).2.1
abbrev mN (k : Nat) : Nat := (mM k).2.2.1
abbrev mT (k : Nat) : Option FieldType := (mM k).2.2.2.1
abbrev mO (k : Nat) : Nat := (mM k).2.2.2.2
/-- a method that may be called: its code is among the words, its class is initialised, its place by kind (0 an instance method, 1 a static one, 2 an <init>) -/
def mOK (q : MethodName × ByteArray × Nat × Option FieldType × Nat) (kd na : Nat) : Prop := Cond.code q.1 q.2.1 q.2.2.1 q.2.2.2.1 ∈ lw_tbl ∧ q.1.cls = cN q.2.2.2.2 ∧ Cond.initialized q.1.cls ∈ lw_tbl ∧ plainName q.1.cls = true ∧ (q.1.cls ≠ "java/lang/invoke/MethodHandle" ∧ q.1.cls ≠ "java/lang/invoke/VarHandle" ∧ (parseMethodDescriptor q.1.desc).map (fun d => d.parameters.length) = some na) ∧ q.2.2.1 ≤ 40 ∧ ((kd = 0 ∧ Cond.instanceMethod q.1 ∈ lw_tbl ∧ Cond.selects q.1.cls q.1 q.1 ∈ lw_tbl) ∨ (kd = 1 ∧ Cond.static q.1 ∈ lw_tbl) ∨ (kd = 2 ∧ q.1.name = "<init>" ∧ q.2.2.2.1 = none ∧ Cond.instanceMethod q.1 ∈ lw_tbl))
theorem mp_1 {q : MethodName × Nat} (h : q ∈ lw_privs_1) : Cond.selects q.1.cls q.1 q.1 ∈ lw_tbl := List.mem_append_left _ (List.mem_map.mpr ⟨q, (show q ∈ lw_privs from List.mem_append_left _ h), rfl⟩)
theorem mp_2 {q : MethodName × Nat} (h : q ∈ lw_privs_2) : Cond.selects q.1.cls q.1 q.1 ∈ lw_tbl := List.mem_append_left _ (List.mem_map.mpr ⟨q, (show q ∈ lw_privs from List.mem_append_right _ (List.mem_append_left _ h)), rfl⟩)
theorem mp_3 {q : MethodName × Nat} (h : q ∈ lw_privs_3) : Cond.selects q.1.cls q.1 q.1 ∈ lw_tbl := List.mem_append_left _ (List.mem_map.mpr ⟨q, (show q ∈ lw_privs from List.mem_append_right _ (List.mem_append_right _ (List.mem_append_left _ h))), rfl⟩)
theorem mp_4 {q : MethodName × Nat} (h : q ∈ lw_privs_4) : Cond.selects q.1.cls q.1 q.1 ∈ lw_tbl := List.mem_append_left _ (List.mem_map.mpr ⟨q, (show q ∈ lw_privs from List.mem_append_right _ (List.mem_append_right _ (List.mem_append_right _ (List.mem_append_left _ h)))), rfl⟩)
theorem mp_5 {q : MethodName × Nat} (h : q ∈ lw_privs_5) : Cond.selects q.1.cls q.1 q.1 ∈ lw_tbl := List.mem_append_left _ (List.mem_map.mpr ⟨q, (show q ∈ lw_privs from List.mem_append_right _ (List.mem_append_right _ (List.mem_append_right _ (List.mem_append_right _ (List.mem_append_left _ h))))), rfl⟩)
theorem mp_6 {q : MethodName × Nat} (h : q ∈ lw_privs_6) : Cond.selects q.1.cls q.1 q.1 ∈ lw_tbl := List.mem_append_left _ (List.mem_map.mpr ⟨q, (show q ∈ lw_privs from List.mem_append_right _ (List.mem_append_right _ (List.mem_append_right _ (List.mem_append_right _ (List.mem_append_right _ (List.mem_append_left _ h)))))), rfl⟩)
theorem mp_7 {q : MethodName × Nat} (h : q ∈ lw_privs_7) : Cond.selects q.1.cls q.1 q.1 ∈ lw_tbl := List.mem_append_left _ (List.mem_map.mpr ⟨q, (show q ∈ lw_privs from List.mem_append_right _ (List.mem_append_right _ (List.mem_append_right _ (List.mem_append_right _ (List.mem_append_right _ (List.mem_append_right _ (List.mem_append_left _ h))))))), rfl⟩)
theorem mp_8 {q : MethodName × Nat} (h : q ∈ lw_privs_8) : Cond.selects q.1.cls q.1 q.1 ∈ lw_tbl := List.mem_append_left _ (List.mem_map.mpr ⟨q, (show q ∈ lw_privs from List.mem_append_right _ (List.mem_append_right _ (List.mem_append_right _ (List.mem_append_right _ (List.mem_append_right _ (List.mem_append_right _ (List.mem_append_right _ (List.mem_append_left _ h)))))))), rfl⟩)
theorem mp_9 {q : MethodName × Nat} (h : q ∈ lw_privs_9) : Cond.selects q.1.cls q.1 q.1 ∈ lw_tbl := List.mem_append_left _ (List.mem_map.mpr ⟨q, (show q ∈ lw_privs from List.mem_append_right _ (List.mem_append_right _ (List.mem_append_right _ (List.mem_append_right _ (List.mem_append_right _ (List.mem_append_right _ (List.mem_append_right _ (List.mem_append_right _ (h))))))))), rfl⟩)
theorem mk_1 : mOK m_1 2 0 := ⟨me_1 (List.mem_of_getElem? (i := 26) rfl), rfl, me_1 (List.mem_of_getElem? (i := 1) rfl), by decide +kernel, ⟨by decide +kernel, by decide +kernel, by decide +kernel⟩, by decide, Or.inr (Or.inr ⟨rfl, rfl, rfl, me_1 (List.mem_of_getElem? (i := 25) rfl)⟩)⟩
theorem mk_2 : mOK m_2 0 0 := ⟨me_3 (List.mem_of_getElem? (i := 98) rfl), rfl, me_1 (List.mem_of_getElem? (i := 1) rfl), by decide +kernel, ⟨by decide +kernel, by decide +kernel, by decide +kernel⟩, by decide, Or.inl ⟨rfl, me_3 (List.mem_of_getElem? (i := 96) rfl), me_3 (List.mem_of_getElem? (i := 97) rfl)⟩⟩
theorem mk_3 : mOK m_3 0 0 := ⟨me_3 (List.mem_of_getElem? (i := 102) rfl), rfl, me_1 (List.mem_of_getElem? (i := 1) rfl), by decide +kernel, ⟨by decide +kernel, by decide +kernel, by decide +kernel⟩, by decide, Or.inl ⟨rfl, me_3 (List.mem_of_getElem? (i := 100) rfl), me_3 (List.mem_of_getElem? (i := 101) rfl)⟩⟩
theorem mk_4 : mOK m_4 0 0 := ⟨me_3 (List.mem_of_getElem? (i := 106) rfl), rfl, me_1 (List.mem_of_getElem? (i := 1) rfl), by decide +kernel, ⟨by decide +kernel, by decide +kernel, by decide +kernel⟩, by decide, Or.inl ⟨rfl, me_3 (List.mem_of_getElem? (i := 104) rfl), me_3 (List.mem_of_getElem? (i := 105) rfl)⟩⟩
theorem mk_5 : mOK m_5 0 3 := ⟨me_3 (List.mem_of_getElem? (i := 110) rfl), rfl, me_1 (List.mem_of_getElem? (i := 1) rfl), by decide +kernel, ⟨by decide +kernel, by decide +kernel, by decide +kernel⟩, by decide, Or.inl ⟨rfl, me_3 (List.mem_of_getElem? (i := 108) rfl), me_3 (List.mem_of_getElem? (i := 109) rfl)⟩⟩
theorem mk_6 : mOK m_6 0 1 := ⟨me_3 (List.mem_of_getElem? (i := 118) rfl), rfl, me_1 (List.mem_of_getElem? (i := 1) rfl), by decide +kernel, ⟨by decide +kernel, by decide +kernel, by decide +kernel⟩, by decide, Or.inl ⟨rfl, me_3 (List.mem_of_getElem? (i := 117) rfl), mp_1 (q := (m_6.1, _)) (List.mem_of_getElem? (i := 0) rfl)⟩⟩
theorem mk_7 : mOK m_7 0 0 := ⟨me_3 (List.mem_of_getElem? (i := 133) rfl), rfl, me_1 (List.mem_of_getElem? (i := 1) rfl), by decide +kernel, ⟨by decide +kernel, by decide +kernel, by decide +kernel⟩, by decide, Or.inl ⟨rfl, me_3 (List.mem_of_getElem? (i := 132) rfl), mp_1 (q := (m_7.1, _)) (List.mem_of_getElem? (i := 1) rfl)⟩⟩
theorem mk_8 : mOK m_8 0 3 := ⟨me_3 (List.mem_of_getElem? (i := 137) rfl), rfl, me_1 (List.mem_of_getElem? (i := 1) rfl), by decide +kernel, ⟨by decide +kernel, by decide +kernel, by decide +kernel⟩, by decide, Or.inl ⟨rfl, me_3 (List.mem_of_getElem? (i := 135) rfl), me_3 (List.mem_of_getElem? (i := 136) rfl)⟩⟩
theorem mk_9 : mOK m_9 0 2 := ⟨me_3 (List.mem_of_getElem? (i := 160) rfl), rfl, me_1 (List.mem_of_getElem? (i := 1) rfl), by decide +kernel, ⟨by decide +kernel, by decide +kernel, by decide +kernel⟩, by decide, Or.inl ⟨rfl, me_3 (List.mem_of_getElem? (i := 158) rfl), me_3 (List.mem_of_getElem? (i := 159) rfl)⟩⟩
theorem mk_10 : mOK m_10 0 1 := ⟨me_3 (List.mem_of_getElem? (i := 164) rfl), rfl, me_1 (List.mem_of_getElem? (i := 1) rfl), by decide +kernel, ⟨by decide +kernel, by decide +kernel, by decide +kernel⟩, by decide, Or.inl ⟨rfl, me_3 (List.mem_of_getElem? (i := 163) rfl), mp_1 (q := (m_10.1, _)) (List.mem_of_getElem? (i := 2) rfl)⟩⟩
theorem mk_11 : mOK m_11 0 5 := ⟨me_3 (List.mem_of_getElem? (i := 173) rfl), rfl, me_1 (List.mem_of_getElem? (i := 1) rfl), by decide +kernel, ⟨by decide +kernel, by decide +kernel, by decide +kernel⟩, by decide, Or.inl ⟨rfl, me_3 (List.mem_of_getElem? (i := 171) rfl), me_3 (List.mem_of_getElem? (i := 172) rfl)⟩⟩
theorem mk_12 : mOK m_12 0 5 := ⟨me_3 (List.mem_of_getElem? (i := 190) rfl), rfl, me_1 (List.mem_of_getElem? (i := 1) rfl), by decide +kernel, ⟨by decide +kernel, by decide +kernel, by decide +kernel⟩, by decide, Or.inl ⟨rfl, me_3 (List.mem_of_getElem? (i := 188) rfl), me_3 (List.mem_of_getElem? (i := 189) rfl)⟩⟩
theorem mk_13 : mOK m_13 0 1 := ⟨me_3 (List.mem_of_getElem? (i := 194) rfl), rfl, me_1 (List.mem_of_getElem? (i := 1) rfl), by decide +kernel, ⟨by decide +kernel, by decide +kernel, by decide +kernel⟩, by decide, Or.inl ⟨rfl, me_3 (List.mem_of_getElem? (i := 193) rfl), mp_1 (q := (m_13.1, _)) (List.mem_of_getElem? (i := 3) rfl)⟩⟩
theorem mk_14 : mOK m_14 0 1 := ⟨me_3 (List.mem_of_getElem? (i := 198) rfl), rfl, me_1 (List.mem_of_getElem? (i := 1) rfl), by decide +kernel, ⟨by decide +kernel, by decide +kernel, by decide +kernel⟩, by decide, Or.inl ⟨rfl, me_3 (List.mem_of_getElem? (i := 196) rfl), me_3 (List.mem_of_getElem? (i := 197) rfl)⟩⟩
theorem mk_15 : mOK m_15 0 0 := ⟨me_4 (List.mem_of_getElem? (i := 117) rfl), rfl, me_1 (List.mem_of_getElem? (i := 1) rfl), by decide +kernel, ⟨by decide +kernel, by decide +kernel, by decide +kernel⟩, by decide, Or.inl ⟨rfl, me_4 (List.mem_of_getElem? (i := 116) rfl), mp_1 (q := (m_15.1, _)) (List.mem_of_getElem? (i := 12) rfl)⟩⟩
theorem mk_16 : mOK m_16 0 1 := ⟨me_4 (List.mem_of_getElem? (i := 144) rfl), rfl, me_1 (List.mem_of_getElem? (i := 1) rfl), by decide +kernel, ⟨by decide +kernel, by decide +kernel, by decide +kernel⟩, by decide, Or.inl ⟨rfl, me_4 (List.mem_of_getElem? (i := 143) rfl), mp_1 (q := (m_16.1, _)) (List.mem_of_getElem? (i := 13) rfl)⟩⟩
theorem mk_17 : mOK m_17 0 1 := ⟨me_4 (List.mem_of_getElem? (i := 148) rfl), rfl, me_1 (List.mem_of_getElem? (i := 1) rfl), by decide +kernel, ⟨by decide +kernel, by decide +kernel, by decide +kernel⟩, by decide, Or.inl ⟨rfl, me_4 (List.mem_of_getElem? (i := 146) rfl), me_4 (List.mem_of_getElem? (i := 147) rfl)⟩⟩
theorem mk_18 : mOK m_18 0 1 := ⟨me_4 (List.mem_of_getElem? (i := 207) rfl), rfl, me_1 (List.mem_of_getElem? (i := 1) rfl), by decide +kernel, ⟨by decide +kernel, by decide +kernel, by decide +kernel⟩, by decide, Or.inl ⟨rfl, me_4 (List.mem_of_getElem? (i := 205) rfl), me_4 (List.mem_of_getElem? (i := 206) rfl)⟩⟩
theorem mk_19 : mOK m_19 0 1 := ⟨me_4 (List.mem_of_getElem? (i := 211) rfl), rfl, me_1 (List.mem_of_getElem? (i := 1) rfl), by decide +kernel, ⟨by decide +kernel, by decide +kernel, by decide +kernel⟩, by decide, Or.inl ⟨rfl, me_4 (List.mem_of_getElem? (i := 209) rfl), me_4 (List.mem_of_getElem? (i := 210) rfl)⟩⟩
theorem mk_20 : mOK m_20 0 3 := ⟨me_5 (List.mem_of_getElem? (i := 13) rfl), rfl, me_1 (List.mem_of_getElem? (i := 1) rfl), by decide +kernel, ⟨by decide +kernel, by decide +kernel, by decide +kernel⟩, by decide, Or.inl ⟨rfl, me_5 (List.mem_of_getElem? (i := 11) rfl), me_5 (List.mem_of_getElem? (i := 12) rfl)⟩⟩
theorem mk_21 : mOK m_21 0 2 := ⟨me_5 (List.mem_of_getElem? (i := 23) rfl), rfl, me_1 (List.mem_of_getElem? (i := 1) rfl), by decide +kernel, ⟨by decide +kernel, by decide +kernel, by decide +kernel⟩, by decide, Or.inl ⟨rfl, me_5 (List.mem_of_getElem? (i := 21) rfl), me_5 (List.mem_of_getElem? (i := 22) rfl)⟩⟩
theorem mk_22 : mOK m_22 0 3 := ⟨me_5 (List.mem_of_getElem? (i := 41) rfl), rfl, me_1 (List.mem_of_getElem? (i := 1) rfl), by decide +kernel, ⟨by decide +kernel, by decide +kernel, by decide +kernel⟩, by decide, Or.inl ⟨rfl, me_5 (List.mem_of_getElem? (i := 39) rfl), me_5 (List.mem_of_getElem? (i := 40) rfl)⟩⟩
theorem mk_23 : mOK m_23 1 1 := ⟨me_5 (List.mem_of_getElem? (i := 44) rfl), rfl, me_1 (List.mem_of_getElem? (i := 1) rfl), by decide +kernel, ⟨by decide +kernel, by decide +kernel, by decide +kernel⟩, by decide, Or.inr (Or.inl ⟨rfl, me_5 (List.mem_of_getElem? (i := 43) rfl)⟩)⟩
theorem mk_24 : mOK m_24 0 4 := ⟨me_5 (List.mem_of_getElem? (i := 48) rfl), rfl, me_1 (List.mem_of_getElem? (i := 1) rfl), by decide +kernel, ⟨by decide +kernel, by decide +kernel, by decide +kernel⟩, by decide, Or.inl ⟨rfl, me_5 (List.mem_of_getElem? (i := 46) rfl), me_5 (List.mem_of_getElem? (i := 47) rfl)⟩⟩
theorem mk_25 : mOK m_25 0 1 := ⟨me_5 (List.mem_of_getElem? (i := 93) rfl), rfl, me_1 (List.mem_of_getElem? (i := 1) rfl), by decide +kernel, ⟨by decide +kernel, by decide +kernel, by decide +kernel⟩, by decide, Or.inl ⟨rfl, me_5 (List.mem_of_getElem? (i := 91) rfl), me_5 (List.mem_of_getElem? (i := 92) rfl)⟩⟩
theorem mk_26 : mOK m_26 0 3 := ⟨me_5 (List.mem_of_getElem? (i := 102) rfl), rfl, me_1 (List.mem_of_getElem? (i := 1) rfl), by decide +kernel, ⟨by decide +kernel, by decide +kernel, by decide +kernel⟩, by decide, Or.inl ⟨rfl, me_5 (List.mem_of_getElem? (i := 100) rfl), me_5 (List.mem_of_getElem? (i := 101) rfl)⟩⟩
theorem mk_27 : mOK m_27 0 2 := ⟨me_5 (List.mem_of_getElem? (i := 106) rfl), rfl, me_1 (List.mem_of_getElem? (i := 1) rfl), by decide +kernel, ⟨by decide +kernel, by decide +kernel, by decide +kernel⟩, by decide, Or.inl ⟨rfl, me_5 (List.mem_of_getElem? (i := 105) rfl), mp_2 (q := (m_27.1, _)) (List.mem_of_getElem? (i := 4) rfl)⟩⟩
theorem mk_28 : mOK m_28 0 2 := ⟨me_5 (List.mem_of_getElem? (i := 123) rfl), rfl, me_1 (List.mem_of_getElem? (i := 1) rfl), by decide +kernel, ⟨by decide +kernel, by decide +kernel, by decide +kernel⟩, by decide, Or.inl ⟨rfl, me_5 (List.mem_of_getElem? (i := 121) rfl), me_5 (List.mem_of_getElem? (i := 122) rfl)⟩⟩
theorem mk_29 : mOK m_29 0 2 := ⟨me_5 (List.mem_of_getElem? (i := 128) rfl), rfl, me_1 (List.mem_of_getElem? (i := 1) rfl), by decide +kernel, ⟨by decide +kernel, by decide +kernel, by decide +kernel⟩, by decide, Or.inl ⟨rfl, me_5 (List.mem_of_getElem? (i := 126) rfl), me_5 (List.mem_of_getElem? (i := 127) rfl)⟩⟩
theorem mk_30 : mOK m_30 0 3 := ⟨me_5 (List.mem_of_getElem? (i := 136) rfl), rfl, me_1 (List.mem_of_getElem? (i := 1) rfl), by decide +kernel, ⟨by decide +kernel, by decide +kernel, by decide +kernel⟩, by decide, Or.inl ⟨rfl, me_5 (List.mem_of_getElem? (i := 134) rfl), me_5 (List.mem_of_getElem? (i := 135) rfl)⟩⟩
theorem mk_31 : mOK m_31 0 2 := ⟨me_5 (List.mem_of_getElem? (i := 141) rfl), rfl, me_1 (List.mem_of_getElem? (i := 1) rfl), by decide +kernel, ⟨by decide +kernel, by decide +kernel, by decide +kernel⟩, by decide, Or.inl ⟨rfl, me_5 (List.mem_of_getElem? (i := 139) rfl), me_5 (List.mem_of_getElem? (i := 140) rfl)⟩⟩
theorem mk_32 : mOK m_32 0 3 := ⟨me_5 (List.mem_of_getElem? (i := 145) rfl), rfl, me_1 (List.mem_of_getElem? (i := 1) rfl), by decide +kernel, ⟨by decide +kernel, by decide +kernel, by decide +kernel⟩, by decide, Or.inl ⟨rfl, me_5 (List.mem_of_getElem? (i := 143) rfl), me_5 (List.mem_of_getElem? (i := 144) rfl)⟩⟩
theorem mk_33 : mOK m_33 0 1 := ⟨me_5 (List.mem_of_getElem? (i := 149) rfl), rfl, me_1 (List.mem_of_getElem? (i := 1) rfl), by decide +kernel, ⟨by decide +kernel, by decide +kernel, by decide +kernel⟩, by decide, Or.inl ⟨rfl, me_5 (List.mem_of_getElem? (i := 147) rfl), me_5 (List.mem_of_getElem? (i := 148) rfl)⟩⟩
theorem mk_34 : mOK m_34 0 2 := ⟨me_5 (List.mem_of_getElem? (i := 153) rfl), rfl, me_1 (List.mem_of_getElem? (i := 1) rfl), by decide +kernel, ⟨by decide +kernel, by decide +kernel, by decide +kernel⟩, by decide, Or.inl ⟨rfl, me_5 (List.mem_of_getElem? (i := 151) rfl), me_5 (List.mem_of_getElem? (i := 152) rfl)⟩⟩
theorem mk_35 : mOK m_35 0 4 := ⟨me_5 (List.mem_of_getElem? (i := 157) rfl), rfl, me_1 (List.mem_of_getElem? (i := 1) rfl), by decide +kernel, ⟨by decide +kernel, by decide +kernel, by decide +kernel⟩, by decide, Or.inl ⟨rfl, me_5 (List.mem_of_getElem? (i := 155) rfl), me_5 (List.mem_of_getElem? (i := 156) rfl)⟩⟩
theorem mk_36 : mOK m_36 0 1 := ⟨me_5 (List.mem_of_getElem? (i := 162) rfl), rfl, me_1 (List.mem_of_getElem? (i := 1) rfl), by decide +kernel, ⟨by decide +kernel, by decide +kernel, by decide +kernel⟩, by decide, Or.inl ⟨rfl, me_5 (List.mem_of_getElem? (i := 160) rfl), me_5 (List.mem_of_getElem? (i := 161) rfl)⟩⟩
theorem mk_37 : mOK m_37 0 2 := ⟨me_5 (List.mem_of_getElem? (i := 171) rfl), rfl, me_1 (List.mem_of_getElem? (i := 1) rfl), by decide +kernel, ⟨by decide +kernel, by decide +kernel, by decide +kernel⟩, by decide, Or.inl ⟨rfl, me_5 (List.mem_of_getElem? (i := 169) rfl), me_5 (List.mem_of_getElem? (i := 170) rfl)⟩⟩
theorem mk_38 : mOK m_38 0 2 := ⟨me_5 (List.mem_of_getElem? (i := 175) rfl), rfl, me_1 (List.mem_of_getElem? (i := 1) rfl), by decide +kernel, ⟨by decide +kernel, by decide +kernel, by decide +kernel⟩, by decide, Or.inl ⟨rfl, me_5 (List.mem_of_getElem? (i := 173) rfl), me_5 (List.mem_of_getElem? (i := 174) rfl)⟩⟩
theorem mk_39 : mOK m_39 0 3 := ⟨me_5 (List.mem_of_getElem? (i := 179) rfl), rfl, me_1 (List.mem_of_getElem? (i := 1) rfl), by decide +kernel, ⟨by decide +kernel, by decide +kernel, by decide +kernel⟩, by decide, Or.inl ⟨rfl, me_5 (List.mem_of_getElem? (i := 177) rfl), me_5 (List.mem_of_getElem? (i := 178) rfl)⟩⟩
theorem mk_40 : mOK m_40 0 1 := ⟨me_5 (List.mem_of_getElem? (i := 192) rfl), rfl, me_1 (List.mem_of_getElem? (i := 1) rfl), by decide +kernel, ⟨by decide +kernel, by decide +kernel, by decide +kernel⟩, by decide, Or.inl ⟨rfl, me_5 (List.mem_of_getElem? (i := 190) rfl), me_5 (List.mem_of_getElem? (i := 191) rfl)⟩⟩
theorem mk_41 : mOK m_41 0 3 := ⟨me_5 (List.mem_of_getElem? (i := 196) rfl), rfl, me_1 (List.mem_of_getElem? (i := 1) rfl), by decide +kernel, ⟨by decide +kernel, by decide +kernel, by decide +kernel⟩, by decide, Or.inl ⟨rfl, me_5 (List.mem_of_getElem? (i := 194) rfl), me_5 (List.mem_of_getElem? (i := 195) rfl)⟩⟩
theorem mk_42 : mOK m_42 0 1 := ⟨me_5 (List.mem_of_getElem? (i := 206) rfl), rfl, me_1 (List.mem_of_getElem? (i := 1) rfl), by decide +kernel, ⟨by decide +kernel, by decide +kernel, by decide +kernel⟩, by decide, Or.inl ⟨rfl, me_5 (List.mem_of_getElem? (i := 204) rfl), me_5 (List.mem_of_getElem? (i := 205) rfl)⟩⟩
theorem mk_43 : mOK m_43 0 3 := ⟨me_5 (List.mem_of_getElem? (i := 216) rfl), rfl, me_1 (List.mem_of_getElem? (i := 1) rfl), by decide +kernel, ⟨by decide +kernel, by decide +kernel, by decide +kernel⟩, by decide, Or.inl ⟨rfl, me_5 (List.mem_of_getElem? (i := 214) rfl), me_5 (List.mem_of_getElem? (i := 215) rfl)⟩⟩
theorem mk_44 : mOK m_44 0 1 := ⟨me_5 (List.mem_of_getElem? (i := 220) rfl), rfl, me_1 (List.mem_of_getElem? (i := 1) rfl), by decide +kernel, ⟨by decide +kernel, by decide +kernel, by decide +kernel⟩, by decide, Or.inl ⟨rfl, me_5 (List.mem_of_getElem? (i := 218) rfl), me_5 (List.mem_of_getElem? (i := 219) rfl)⟩⟩
theorem mk_45 : mOK m_45 0 1 := ⟨me_5 (List.mem_of_getElem? (i := 225) rfl), rfl, me_1 (List.mem_of_getElem? (i := 1) rfl), by decide +kernel, ⟨by decide +kernel, by decide +kernel, by decide +kernel⟩, by decide, Or.inl ⟨rfl, me_5 (List.mem_of_getElem? (i := 223) rfl), me_5 (List.mem_of_getElem? (i := 224) rfl)⟩⟩
theorem mk_46 : mOK m_46 0 5 := ⟨me_5 (List.mem_of_getElem? (i := 237) rfl), rfl, me_1 (List.mem_of_getElem? (i := 1) rfl), by decide +kernel, ⟨by decide +kernel, by decide +kernel, by decide +kernel⟩, by decide, Or.inl ⟨rfl, me_5 (List.mem_of_getElem? (i := 235) rfl), me_5 (List.mem_of_getElem? (i := 236) rfl)⟩⟩
theorem mk_47 : mOK m_47 0 1 := ⟨me_6 (List.mem_of_getElem? (i := 2) rfl), rfl, me_1 (List.mem_of_getElem? (i := 1) rfl), by decide +kernel, ⟨by decide +kernel, by decide +kernel, by decide +kernel⟩, by decide, Or.inl ⟨rfl, me_6 (List.mem_of_getElem? (i := 0) rfl), me_6 (List.mem_of_getElem? (i := 1) rfl)⟩⟩
theorem mk_48 : mOK m_48 0 3 := ⟨me_6 (List.mem_of_getElem? (i := 20) rfl), rfl, me_1 (List.mem_of_getElem? (i := 1) rfl), by decide +kernel, ⟨by decide +kernel, by decide +kernel, by decide +kernel⟩, by decide, Or.inl ⟨rfl, me_6 (List.mem_of_getElem? (i := 18) rfl), me_6 (List.mem_of_getElem? (i := 19) rfl)⟩⟩
theorem mk_49 : mOK m_49 0 2 := ⟨me_6 (List.mem_of_getElem? (i := 24) rfl), rfl, me_1 (List.mem_of_getElem? (i := 1) rfl), by decide +kernel, ⟨by decide +kernel, by decide +kernel, by decide +kernel⟩, by decide, Or.inl ⟨rfl, me_6 (List.mem_of_getElem? (i := 22) rfl), me_6 (List.mem_of_getElem? (i := 23) rfl)⟩⟩
theorem mk_50 : mOK m_50 0 3 := ⟨me_6 (List.mem_of_getElem? (i := 28) rfl), rfl, me_1 (List.mem_of_getElem? (i := 1) rfl), by decide +kernel, ⟨by decide +kernel, by decide +kernel, by decide +kernel⟩, by decide, Or.inl ⟨rfl, me_6 (List.mem_of_getElem? (i := 27) rfl), mp_2 (q := (m_50.1, _)) (List.mem_of_getElem? (i := 7) rfl)⟩⟩
theorem mk_51 : mOK m_51 0 3 := ⟨me_6 (List.mem_of_getElem? (i := 50) rfl), rfl, me_1 (List.mem_of_getElem? (i := 1) rfl), by decide +kernel, ⟨by decide +kernel, by decide +kernel, by decide +kernel⟩, by decide, Or.inl ⟨rfl, me_6 (List.mem_of_getElem? (i := 48) rfl), me_6 (List.mem_of_getElem? (i := 49) rfl)⟩⟩
theorem mk_52 : mOK m_52 0 4 := ⟨me_6 (List.mem_of_getElem? (i := 54) rfl), rfl, me_1 (List.mem_of_getElem? (i := 1) rfl), by decide +kernel, ⟨by decide +kernel, by decide +kernel, by decide +kernel⟩, by decide, Or.inl ⟨rfl, me_6 (List.mem_of_getElem? (i := 53) rfl), mp_2 (q := (m_52.1, _)) (List.mem_of_getElem? (i := 10) rfl)⟩⟩
theorem mk_53 : mOK m_53 1 1 := ⟨me_6 (List.mem_of_getElem? (i := 57) rfl), rfl, me_1 (List.mem_of_getElem? (i := 1) rfl), by decide +kernel, ⟨by decide +kernel, by decide +kernel, by decide +kernel⟩, by decide, Or.inr (Or.inl ⟨rfl, me_6 (List.mem_of_getElem? (i := 56) rfl)⟩)⟩
theorem mk_54 : mOK m_54 0 1 := ⟨me_6 (List.mem_of_getElem? (i := 61) rfl), rfl, me_1 (List.mem_of_getElem? (i := 1) rfl), by decide +kernel, ⟨by decide +kernel, by decide +kernel, by decide +kernel⟩, by decide, Or.inl ⟨rfl, me_6 (List.mem_of_getElem? (i := 60) rfl), mp_2 (q := (m_54.1, _)) (List.mem_of_getElem? (i := 11) rfl)⟩⟩
theorem mk_55 : mOK m_55 0 2 := ⟨me_6 (List.mem_of_getElem? (i := 65) rfl), rfl, me_1 (List.mem_of_getElem? (i := 1) rfl), by decide +kernel, ⟨by decide +kernel, by decide +kernel, by decide +kernel⟩, by decide, Or.inl ⟨rfl, me_6 (List.mem_of_getElem? (i := 63) rfl), me_6 (List.mem_of_getElem? (i := 64) rfl)⟩⟩
theorem mk_56 : mOK m_56 0 3 := ⟨me_6 (List.mem_of_getElem? (i := 69) rfl), rfl, me_1 (List.mem_of_getElem? (i := 1) rfl), by decide +kernel, ⟨by decide +kernel, by decide +kernel, by decide +kernel⟩, by decide, Or.inl ⟨rfl, me_6 (List.mem_of_getElem? (i := 67) rfl), me_6 (List.mem_of_getElem? (i := 68) rfl)⟩⟩
theorem mk_57 : mOK m_57 0 1 := ⟨me_6 (List.mem_of_getElem? (i := 73) rfl), rfl, me_1 (List.mem_of_getElem? (i := 1) rfl), by decide +kernel, ⟨by decide +kernel, by decide +kernel, by decide +kernel⟩, by decide, Or.inl ⟨rfl, me_6 (List.mem_of_getElem? (i := 71) rfl), me_6 (List.mem_of_getElem? (i := 72) rfl)⟩⟩
theorem mk_58 : mOK m_58 0 0 := ⟨me_6 (List.mem_of_getElem? (i := 89) rfl), rfl, me_1 (List.mem_of_getElem? (i := 1) rfl), by decide +kernel, ⟨by decide +kernel, by decide +kernel, by decide +kernel⟩, by decide, Or.inl ⟨rfl, me_6 (List.mem_of_getElem? (i := 87) rfl), me_6 (List.mem_of_getElem? (i := 88) rfl)⟩⟩
theorem mk_59 : mOK m_59 0 3 := ⟨me_6 (List.mem_of_getElem? (i := 94) rfl), rfl, me_1 (List.mem_of_getElem? (i := 1) rfl), by decide +kernel, ⟨by decide +kernel, by decide +kernel, by decide +kernel⟩, by decide, Or.inl ⟨rfl, me_6 (List.mem_of_getElem? (i := 92) rfl), me_6 (List.mem_of_getElem? (i := 93) rfl)⟩⟩
theorem mk_60 : mOK m_60 0 4 := ⟨me_6 (List.mem_of_getElem? (i := 115) rfl), rfl, me_1 (List.mem_of_getElem? (i := 1) rfl), by decide +kernel, ⟨by decide +kernel, by decide +kernel, by decide +kernel⟩, by decide, Or.inl ⟨rfl, me_6 (List.mem_of_getElem? (i := 113) rfl), me_6 (List.mem_of_getElem? (i := 114) rfl)⟩⟩
theorem mk_61 : mOK m_61 0 1 := ⟨me_6 (List.mem_of_getElem? (i := 119) rfl), rfl, me_1 (List.mem_of_getElem? (i := 1) rfl), by decide +kernel, ⟨by decide +kernel, by decide +kernel, by decide +kernel⟩, by decide, Or.inl ⟨rfl, me_6 (List.mem_of_getElem? (i := 117) rfl), me_6 (List.mem_of_getElem? (i := 118) rfl)⟩⟩
theorem mk_62 : mOK m_62 0 1 := ⟨me_6 (List.mem_of_getElem? (i := 129) rfl), rfl, me_1 (List.mem_of_getElem? (i := 1) rfl), by decide +kernel, ⟨by decide +kernel, by decide +kernel, by decide +kernel⟩, by decide, Or.inl ⟨rfl, me_6 (List.mem_of_getElem? (i := 127) rfl), me_6 (List.mem_of_getElem? (i := 128) rfl)⟩⟩
theorem mk_63 : mOK m_63 0 1 := ⟨me_6 (List.mem_of_getElem? (i := 154) rfl), rfl, me_1 (List.mem_of_getElem? (i := 1) rfl), by decide +kernel, ⟨by decide +kernel, by decide +kernel, by decide +kernel⟩, by decide, Or.inl ⟨rfl, me_6 (List.mem_of_getElem? (i := 152) rfl), me_6 (List.mem_of_getElem? (i := 153) rfl)⟩⟩
theorem mk_64 : mOK m_64 0 1 := ⟨me_6 (List.mem_of_getElem? (i := 158) rfl), rfl, me_1 (List.mem_of_getElem? (i := 1) rfl), by decide +kernel, ⟨by decide +kernel, by decide +kernel, by decide +kernel⟩, by decide, Or.inl ⟨rfl, me_6 (List.mem_of_getElem? (i := 156) rfl), me_6 (List.mem_of_getElem? (i := 157) rfl)⟩⟩
theorem mk_65 : mOK m_65 0 2 := ⟨me_6 (List.mem_of_getElem? (i := 170) rfl), rfl, me_1 (List.mem_of_getElem? (i := 1) rfl), by decide +kernel, ⟨by decide +kernel, by decide +kernel, by decide +kernel⟩, by decide, Or.inl ⟨rfl, me_6 (List.mem_of_getElem? (i := 169) rfl), mp_3 (q := (m_65.1, _)) (List.mem_of_getElem? (i := 2) rfl)⟩⟩
theorem mk_66 : mOK m_66 0 0 := ⟨me_6 (List.mem_of_getElem? (i := 177) rfl), rfl, me_1 (List.mem_of_getElem? (i := 1) rfl), by decide +kernel, ⟨by decide +kernel, by decide +kernel, by decide +kernel⟩, by decide, Or.inl ⟨rfl, me_6 (List.mem_of_getElem? (i := 175) rfl), me_6 (List.mem_of_getElem? (i := 176) rfl)⟩⟩
theorem mk_67 : mOK m_67 0 2 := ⟨me_6 (List.mem_of_getElem? (i := 181) rfl), rfl, me_1 (List.mem_of_getElem? (i := 1) rfl), by decide +kernel, ⟨by decide +kernel, by decide +kernel, by decide +kernel⟩, by decide, Or.inl ⟨rfl, me_6 (List.mem_of_getElem? (i := 179) rfl), me_6 (List.mem_of_getElem? (i := 180) rfl)⟩⟩
theorem mk_68 : mOK m_68 0 1 := ⟨me_6 (List.mem_of_getElem? (i := 185) rfl), rfl, me_1 (List.mem_of_getElem? (i := 1) rfl), by decide +kernel, ⟨by decide +kernel, by decide +kernel, by decide +kernel⟩, by decide, Or.inl ⟨rfl, me_6 (List.mem_of_getElem? (i := 183) rfl), me_6 (List.mem_of_getElem? (i := 184) rfl)⟩⟩
theorem mk_69 : mOK m_69 0 1 := ⟨me_7 (List.mem_of_getElem? (i := 7) rfl), rfl, me_1 (List.mem_of_getElem? (i := 1) rfl), by decide +kernel, ⟨by decide +kernel, by decide +kernel, by decide +kernel⟩, by decide, Or.inl ⟨rfl, me_7 (List.mem_of_getElem? (i := 5) rfl), me_7 (List.mem_of_getElem? (i := 6) rfl)⟩⟩
theorem mk_70 : mOK m_70 0 2 := ⟨me_7 (List.mem_of_getElem? (i := 11) rfl), rfl, me_1 (List.mem_of_getElem? (i := 1) rfl), by decide +kernel, ⟨by decide +kernel, by decide +kernel, by decide +kernel⟩, by decide, Or.inl ⟨rfl, me_7 (List.mem_of_getElem? (i := 9) rfl), me_7 (List.mem_of_getElem? (i := 10) rfl)⟩⟩
theorem mk_71 : mOK m_71 0 0 := ⟨me_7 (List.mem_of_getElem? (i := 15) rfl), rfl, me_1 (List.mem_of_getElem? (i := 1) rfl), by decide +kernel, ⟨by decide +kernel, by decide +kernel, by decide +kernel⟩, by decide, Or.inl ⟨rfl, me_7 (List.mem_of_getElem? (i := 13) rfl), me_7 (List.mem_of_getElem? (i := 14) rfl)⟩⟩
theorem mk_72 : mOK m_72 0 0 := ⟨me_7 (List.mem_of_getElem? (i := 19) rfl), rfl, me_1 (List.mem_of_getElem? (i := 1) rfl), by decide +kernel, ⟨by decide +kernel, by decide +kernel, by decide +kernel⟩, by decide, Or.inl ⟨rfl, me_7 (List.mem_of_getElem? (i := 17) rfl), me_7 (List.mem_of_getElem? (i := 18) rfl)⟩⟩
theorem mk_73 : mOK m_73 2 0 := ⟨me_1 (List.mem_of_getElem? (i := 34) rfl), rfl, me_1 (List.mem_of_getElem? (i := 2) rfl), by decide +kernel, ⟨by decide +kernel, by decide +kernel, by decide +kernel⟩, by decide, Or.inr (Or.inr ⟨rfl, rfl, rfl, me_1 (List.mem_of_getElem? (i := 33) rfl)⟩)⟩
theorem mk_74 : mOK m_74 0 1 := ⟨me_3 (List.mem_of_getElem? (i := 114) rfl), rfl, me_1 (List.mem_of_getElem? (i := 2) rfl), by decide +kernel, ⟨by decide +kernel, by decide +kernel, by decide +kernel⟩, by decide, Or.inl ⟨rfl, me_3 (List.mem_of_getElem? (i := 112) rfl), me_3 (List.mem_of_getElem? (i := 113) rfl)⟩⟩
theorem mk_75 : mOK m_75 0 3 := ⟨me_3 (List.mem_of_getElem? (i := 122) rfl), rfl, me_1 (List.mem_of_getElem? (i := 2) rfl), by decide +kernel, ⟨by decide +kernel, by decide +kernel, by decide +kernel⟩, by decide, Or.inl ⟨rfl, me_3 (List.mem_of_getElem? (i := 120) rfl), me_3 (List.mem_of_getElem? (i := 121) rfl)⟩⟩
theorem mk_76 : mOK m_76 0 2 := ⟨me_3 (List.mem_of_getElem? (i := 141) rfl), rfl, me_1 (List.mem_of_getElem? (i := 2) rfl), by decide +kernel, ⟨by decide +kernel, by decide +kernel, by decide +kernel⟩, by decide, Or.inl ⟨rfl, me_3 (List.mem_of_getElem? (i := 139) rfl), me_3 (List.mem_of_getElem? (i := 140) rfl)⟩⟩
theorem mk_77 : mOK m_77 0 1 := ⟨me_3 (List.mem_of_getElem? (i := 145) rfl), rfl, me_1 (List.mem_of_getElem? (i := 2) rfl), by decide +kernel, ⟨by decide +kernel, by decide +kernel, by decide +kernel⟩, by decide, Or.inl ⟨rfl, me_3 (List.mem_of_getElem? (i := 143) rfl), me_3 (List.mem_of_getElem? (i := 144) rfl)⟩⟩
theorem mk_78 : mOK m_78 0 3 := ⟨me_3 (List.mem_of_getElem? (i := 149) rfl), rfl, me_1 (List.mem_of_getElem? (i := 2) rfl), by decide +kernel, ⟨by decide +kernel, by decide +kernel, by decide +kernel⟩, by decide, Or.inl ⟨rfl, me_3 (List.mem_of_getElem? (i := 147) rfl), me_3 (List.mem_of_getElem? (i := 148) rfl)⟩⟩
theorem mk_79 : mOK m_79 0 3 := ⟨me_3 (List.mem_of_getElem? (i := 153) rfl), rfl, me_1 (List.mem_of_getElem? (i := 2) rfl), by decide +kernel, ⟨by decide +kernel, by decide +kernel, by decide +kernel⟩, by decide, Or.inl ⟨rfl, me_3 (List.mem_of_getElem? (i := 151) rfl), me_3 (List.mem_of_getElem? (i := 152) rfl)⟩⟩
theorem mk_80 : mOK m_80 1 2 := ⟨me_3 (List.mem_of_getElem? (i := 156) rfl), rfl, me_1 (List.mem_of_getElem? (i := 2) rfl), by decide +kernel, ⟨by decide +kernel, by decide +kernel, by decide +kernel⟩, by decide, Or.inr (Or.inl ⟨rfl, me_3 (List.mem_of_getElem? (i := 155) rfl)⟩)⟩
theorem mk_81 : mOK m_81 0 2 := ⟨me_3 (List.mem_of_getElem? (i := 168) rfl), rfl, me_1 (List.mem_of_getElem? (i := 2) rfl), by decide +kernel, ⟨by decide +kernel, by decide +kernel, by decide +kernel⟩, by decide, Or.inl ⟨rfl, me_3 (List.mem_of_getElem? (i := 166) rfl), me_3 (List.mem_of_getElem? (i := 167) rfl)⟩⟩
theorem mk_82 : mOK m_82 0 2 := ⟨me_3 (List.mem_of_getElem? (i := 178) rfl), rfl, me_1 (List.mem_of_getElem? (i := 2) rfl), by decide +kernel, ⟨by decide +kernel, by decide +kernel, by decide +kernel⟩, by decide, Or.inl ⟨rfl, me_3 (List.mem_of_getElem? (i := 176) rfl), me_3 (List.mem_of_getElem? (i := 177) rfl)⟩⟩
theorem mk_83 : mOK m_83 0 5 := ⟨me_3 (List.mem_of_getElem? (i := 183) rfl), rfl, me_1 (List.mem_of_getElem? (i := 2) rfl), by decide +kernel, ⟨by decide +kernel, by decide +kernel, by decide +kernel⟩, by decide, Or.inl ⟨rfl, me_3 (List.mem_of_getElem? (i := 181) rfl), me_3 (List.mem_of_getElem? (i := 182) rfl)⟩⟩
theorem mk_84 : mOK m_84 0 2 := ⟨me_6 (List.mem_of_getElem? (i := 133) rfl), rfl, me_1 (List.mem_of_getElem? (i := 2) rfl), by decide +kernel, ⟨by decide +kernel, by decide +kernel, by decide +kernel⟩, by decide, Or.inl ⟨rfl, me_6 (List.mem_of_getElem? (i := 131) rfl), me_6 (List.mem_of_getElem? (i := 132) rfl)⟩⟩
theorem mk_85 : mOK m_85 2 0 := ⟨me_1 (List.mem_of_getElem? (i := 56) rfl), rfl, me_1 (List.mem_of_getElem? (i := 4) rfl), by decide +kernel, ⟨by decide +kernel, by decide +kernel, by decide +kernel⟩, by decide, Or.inr (Or.inr ⟨rfl, rfl, rfl, me_1 (List.mem_of_getElem? (i := 55) rfl)⟩)⟩
theorem mk_86 : mOK m_86 0 0 := ⟨me_3 (List.mem_of_getElem? (i := 227) rfl), rfl, me_1 (List.mem_of_getElem? (i := 4) rfl), by decide +kernel, ⟨by decide +kernel, by decide +kernel, by decide +kernel⟩, by decide, Or.inl ⟨rfl, me_3 (List.mem_of_getElem? (i := 225) rfl), me_3 (List.mem_of_getElem? (i := 226) rfl)⟩⟩
theorem mk_87 : mOK m_87 0 1 := ⟨me_4 (List.mem_of_getElem? (i := 121) rfl), rfl, me_1 (List.mem_of_getElem? (i := 4) rfl), by decide +kernel, ⟨by decide +kernel, by decide +kernel, by decide +kernel⟩, by decide, Or.inl ⟨rfl, me_4 (List.mem_of_getElem? (i := 119) rfl), me_4 (List.mem_of_getElem? (i := 120) rfl)⟩⟩
theorem mk_88 : mOK m_88 0 3 := ⟨me_5 (List.mem_of_getElem? (i := 60) rfl), rfl, me_1 (List.mem_of_getElem? (i := 4) rfl), by decide +kernel, ⟨by decide +kernel, by decide +kernel, by decide +kernel⟩, by decide, Or.inl ⟨rfl, me_5 (List.mem_of_getElem? (i := 58) rfl), me_5 (List.mem_of_getElem? (i := 59) rfl)⟩⟩
theorem mk_89 : mOK m_89 0 3 := ⟨me_5 (List.mem_of_getElem? (i := 71) rfl), rfl, me_1 (List.mem_of_getElem? (i := 4) rfl), by decide +kernel, ⟨by decide +kernel, by decide +kernel, by decide +kernel⟩, by decide, Or.inl ⟨rfl, me_5 (List.mem_of_getElem? (i := 69) rfl), me_5 (List.mem_of_getElem? (i := 70) rfl)⟩⟩
theorem mk_90 : mOK m_90 0 3 := ⟨me_5 (List.mem_of_getElem? (i := 110) rfl), rfl, me_1 (List.mem_of_getElem? (i := 4) rfl), by decide +kernel, ⟨by decide +kernel, by decide +kernel, by decide +kernel⟩, by decide, Or.inl ⟨rfl, me_5 (List.mem_of_getElem? (i := 108) rfl), me_5 (List.mem_of_getElem? (i := 109) rfl)⟩⟩
theorem mk_91 : mOK m_91 0 2 := ⟨me_5 (List.mem_of_getElem? (i := 114) rfl), rfl, me_1 (List.mem_of_getElem? (i := 4) rfl), by decide +kernel, ⟨by decide +kernel, by decide +kernel, by decide +kernel⟩, by decide, Or.inl ⟨rfl, me_5 (List.mem_of_getElem? (i := 112) rfl), me_5 (List.mem_of_getElem? (i := 113) rfl)⟩⟩
theorem mk_92 : mOK m_92 0 3 := ⟨me_5 (List.mem_of_getElem? (i := 119) rfl), rfl, me_1 (List.mem_of_getElem? (i := 4) rfl), by decide +kernel, ⟨by decide +kernel, by decide +kernel, by decide +kernel⟩, by decide, Or.inl ⟨rfl, me_5 (List.mem_of_getElem? (i := 117) rfl), me_5 (List.mem_of_getElem? (i := 118) rfl)⟩⟩
theorem mk_93 : mOK m_93 2 0 := ⟨me_1 (List.mem_of_getElem? (i := 62) rfl), rfl, me_1 (List.mem_of_getElem? (i := 5) rfl), by decide +kernel, ⟨by decide +kernel, by decide +kernel, by decide +kernel⟩, by decide, Or.inr (Or.inr ⟨rfl, rfl, rfl, me_1 (List.mem_of_getElem? (i := 61) rfl)⟩)⟩
theorem mk_94 : mOK m_94 0 0 := ⟨me_3 (List.mem_of_getElem? (i := 231) rfl), rfl, me_1 (List.mem_of_getElem? (i := 5) rfl), by decide +kernel, ⟨by decide +kernel, by decide +kernel, by decide +kernel⟩, by decide, Or.inl ⟨rfl, me_3 (List.mem_of_getElem? (i := 229) rfl), me_3 (List.mem_of_getElem? (i := 230) rfl)⟩⟩
theorem mk_95 : mOK m_95 0 5 := ⟨me_4 (List.mem_of_getElem? (i := 45) rfl), rfl, me_1 (List.mem_of_getElem? (i := 5) rfl), by decide +kernel, ⟨by decide +kernel, by decide +kernel, by decide +kernel⟩, by decide, Or.inl ⟨rfl, me_4 (List.mem_of_getElem? (i := 43) rfl), me_4 (List.mem_of_getElem? (i := 44) rfl)⟩⟩
theorem mk_96 : mOK m_96 0 2 := ⟨me_4 (List.mem_of_getElem? (i := 63) rfl), rfl, me_1 (List.mem_of_getElem? (i := 5) rfl), by decide +kernel, ⟨by decide +kernel, by decide +kernel, by decide +kernel⟩, by decide, Or.inl ⟨rfl, me_4 (List.mem_of_getElem? (i := 61) rfl), me_4 (List.mem_of_getElem? (i := 62) rfl)⟩⟩
theorem mk_97 : mOK m_97 0 1 := ⟨me_4 (List.mem_of_getElem? (i := 67) rfl), rfl, me_1 (List.mem_of_getElem? (i := 5) rfl), by decide +kernel, ⟨by decide +kernel, by decide +kernel, by decide +kernel⟩, by decide, Or.inl ⟨rfl, me_4 (List.mem_of_getElem? (i := 65) rfl), me_4 (List.mem_of_getElem? (i := 66) rfl)⟩⟩
theorem mk_98 : mOK m_98 0 1 := ⟨me_4 (List.mem_of_getElem? (i := 79) rfl), rfl, me_1 (List.mem_of_getElem? (i := 5) rfl), by decide +kernel, ⟨by decide +kernel, by decide +kernel, by decide +kernel⟩, by decide, Or.inl ⟨rfl, me_4 (List.mem_of_getElem? (i := 77) rfl), me_4 (List.mem_of_getElem? (i := 78) rfl)⟩⟩
theorem mk_99 : mOK m_99 0 1 := ⟨me_4 (List.mem_of_getElem? (i := 125) rfl), rfl, me_1 (List.mem_of_getElem? (i := 5) rfl), by decide +kernel, ⟨by decide +kernel, by decide +kernel, by decide +kernel⟩, by decide, Or.inl ⟨rfl, me_4 (List.mem_of_getElem? (i := 123) rfl), me_4 (List.mem_of_getElem? (i := 124) rfl)⟩⟩
theorem mk_100 : mOK m_100 0 1 := ⟨me_4 (List.mem_of_getElem? (i := 235) rfl), rfl, me_1 (List.mem_of_getElem? (i := 5) rfl), by decide +kernel, ⟨by decide +kernel, by decide +kernel, by decide +kernel⟩, by decide, Or.inl ⟨rfl, me_4 (List.mem_of_getElem? (i := 233) rfl), me_4 (List.mem_of_getElem? (i := 234) rfl)⟩⟩
theorem mk_101 : mOK m_101 0 1 := ⟨me_5 (List.mem_of_getElem? (i := 28) rfl), rfl, me_1 (List.mem_of_getElem? (i := 5) rfl), by decide +kernel, ⟨by decide +kernel, by decide +kernel, by decide +kernel⟩, by decide, Or.inl ⟨rfl, me_5 (List.mem_of_getElem? (i := 26) rfl), me_5 (List.mem_of_getElem? (i := 27) rfl)⟩⟩
theorem mk_102 : mOK m_102 0 1 := ⟨me_5 (List.mem_of_getElem? (i := 32) rfl), rfl, me_1 (List.mem_of_getElem? (i := 5) rfl), by decide +kernel, ⟨by decide +kernel, by decide +kernel, by decide +kernel⟩, by decide, Or.inl ⟨rfl, me_5 (List.mem_of_getElem? (i := 30) rfl), me_5 (List.mem_of_getElem? (i := 31) rfl)⟩⟩
theorem mk_103 : mOK m_103 0 1 := ⟨me_5 (List.mem_of_getElem? (i := 36) rfl), rfl, me_1 (List.mem_of_getElem? (i := 5) rfl), by decide +kernel, ⟨by decide +kernel, by decide +kernel, by decide +kernel⟩, by decide, Or.inl ⟨rfl, me_5 (List.mem_of_getElem? (i := 34) rfl), me_5 (List.mem_of_getElem? (i := 35) rfl)⟩⟩
theorem mk_104 : mOK m_104 0 2 := ⟨me_5 (List.mem_of_getElem? (i := 67) rfl), rfl, me_1 (List.mem_of_getElem? (i := 5) rfl), by decide +kernel, ⟨by decide +kernel, by decide +kernel, by decide +kernel⟩, by decide, Or.inl ⟨rfl, me_5 (List.mem_of_getElem? (i := 65) rfl), me_5 (List.mem_of_getElem? (i := 66) rfl)⟩⟩
theorem mk_105 : mOK m_105 0 1 := ⟨me_5 (List.mem_of_getElem? (i := 132) rfl), rfl, me_1 (List.mem_of_getElem? (i := 5) rfl), by decide +kernel, ⟨by decide +kernel, by decide +kernel, by decide +kernel⟩, by decide, Or.inl ⟨rfl, me_5 (List.mem_of_getElem? (i := 130) rfl), me_5 (List.mem_of_getElem? (i := 131) rfl)⟩⟩
theorem mk_106 : mOK m_106 0 1 := ⟨me_6 (List.mem_of_getElem? (i := 163) rfl), rfl, me_1 (List.mem_of_getElem? (i := 5) rfl), by decide +kernel, ⟨by decide +kernel, by decide +kernel, by decide +kernel⟩, by decide, Or.inl ⟨rfl, me_6 (List.mem_of_getElem? (i := 161) rfl), me_6 (List.mem_of_getElem? (i := 162) rfl)⟩⟩
theorem mk_107 : mOK m_107 2 0 := ⟨me_1 (List.mem_of_getElem? (i := 128) rfl), rfl, me_1 (List.mem_of_getElem? (i := 6) rfl), by decide +kernel, ⟨by decide +kernel, by decide +kernel, by decide +kernel⟩, by decide, Or.inr (Or.inr ⟨rfl, rfl, rfl, me_1 (List.mem_of_getElem? (i := 127) rfl)⟩)⟩
theorem mk_108 : mOK m_108 0 1 := ⟨me_4 (List.mem_of_getElem? (i := 96) rfl), rfl, me_1 (List.mem_of_getElem? (i := 6) rfl), by decide +kernel, ⟨by decide +kernel, by decide +kernel, by decide +kernel⟩, by decide, Or.inl ⟨rfl, me_4 (List.mem_of_getElem? (i := 94) rfl), me_4 (List.mem_of_getElem? (i := 95) rfl)⟩⟩
theorem mk_109 : mOK m_109 0 6 := ⟨me_4 (List.mem_of_getElem? (i := 108) rfl), rfl, me_1 (List.mem_of_getElem? (i := 6) rfl), by decide +kernel, ⟨by decide +kernel, by decide +kernel, by decide +kernel⟩, by decide, Or.inl ⟨rfl, me_4 (List.mem_of_getElem? (i := 106) rfl), me_4 (List.mem_of_getElem? (i := 107) rfl)⟩⟩
theorem mk_110 : mOK m_110 0 1 := ⟨me_4 (List.mem_of_getElem? (i := 130) rfl), rfl, me_1 (List.mem_of_getElem? (i := 6) rfl), by decide +kernel, ⟨by decide +kernel, by decide +kernel, by decide +kernel⟩, by decide, Or.inl ⟨rfl, me_4 (List.mem_of_getElem? (i := 128) rfl), me_4 (List.mem_of_getElem? (i := 129) rfl)⟩⟩
theorem mk_111 : mOK m_111 0 1 := ⟨me_4 (List.mem_of_getElem? (i := 223) rfl), rfl, me_1 (List.mem_of_getElem? (i := 6) rfl), by decide +kernel, ⟨by decide +kernel, by decide +kernel, by decide +kernel⟩, by decide, Or.inl ⟨rfl, me_4 (List.mem_of_getElem? (i := 221) rfl), me_4 (List.mem_of_getElem? (i := 222) rfl)⟩⟩
theorem mk_112 : mOK m_112 0 0 := ⟨me_5 (List.mem_of_getElem? (i := 9) rfl), rfl, me_1 (List.mem_of_getElem? (i := 6) rfl), by decide +kernel, ⟨by decide +kernel, by decide +kernel, by decide +kernel⟩, by decide, Or.inl ⟨rfl, me_5 (List.mem_of_getElem? (i := 7) rfl), me_5 (List.mem_of_getElem? (i := 8) rfl)⟩⟩
theorem mk_113 : mOK m_113 0 1 := ⟨me_5 (List.mem_of_getElem? (i := 166) rfl), rfl, me_1 (List.mem_of_getElem? (i := 6) rfl), by decide +kernel, ⟨by decide +kernel, by decide +kernel, by decide +kernel⟩, by decide, Or.inl ⟨rfl, me_5 (List.mem_of_getElem? (i := 164) rfl), me_5 (List.mem_of_getElem? (i := 165) rfl)⟩⟩
theorem mk_114 : mOK m_114 2 2 := ⟨me_1 (List.mem_of_getElem? (i := 180) rfl), rfl, me_1 (List.mem_of_getElem? (i := 7) rfl), by decide +kernel, ⟨by decide +kernel, by decide +kernel, by decide +kernel⟩, by decide, Or.inr (Or.inr ⟨rfl, rfl, rfl, me_1 (List.mem_of_getElem? (i := 179) rfl)⟩)⟩
theorem mk_115 : mOK m_115 0 2 := ⟨me_4 (List.mem_of_getElem? (i := 100) rfl), rfl, me_1 (List.mem_of_getElem? (i := 7) rfl), by decide +kernel, ⟨by decide +kernel, by decide +kernel, by decide +kernel⟩, by decide, Or.inl ⟨rfl, me_4 (List.mem_of_getElem? (i := 98) rfl), me_4 (List.mem_of_getElem? (i := 99) rfl)⟩⟩
theorem mk_116 : mOK m_116 0 2 := ⟨me_4 (List.mem_of_getElem? (i := 104) rfl), rfl, me_1 (List.mem_of_getElem? (i := 7) rfl), by decide +kernel, ⟨by decide +kernel, by decide +kernel, by decide +kernel⟩, by decide, Or.inl ⟨rfl, me_4 (List.mem_of_getElem? (i := 102) rfl), me_4 (List.mem_of_getElem? (i := 103) rfl)⟩⟩
theorem mk_117 : mOK m_117 0 0 := ⟨me_4 (List.mem_of_getElem? (i := 112) rfl), rfl, me_1 (List.mem_of_getElem? (i := 7) rfl), by decide +kernel, ⟨by decide +kernel, by decide +kernel, by decide +kernel⟩, by decide, Or.inl ⟨rfl, me_4 (List.mem_of_getElem? (i := 110) rfl), me_4 (List.mem_of_getElem? (i := 111) rfl)⟩⟩
theorem mk_118 : mOK m_118 0 1 := ⟨me_4 (List.mem_of_getElem? (i := 135) rfl), rfl, me_1 (List.mem_of_getElem? (i := 7) rfl), by decide +kernel, ⟨by decide +kernel, by decide +kernel, by decide +kernel⟩, by decide, Or.inl ⟨rfl, me_4 (List.mem_of_getElem? (i := 133) rfl), me_4 (List.mem_of_getElem? (i := 134) rfl)⟩⟩
theorem mk_119 : mOK m_119 0 0 := ⟨me_4 (List.mem_of_getElem? (i := 215) rfl), rfl, me_1 (List.mem_of_getElem? (i := 7) rfl), by decide +kernel, ⟨by decide +kernel, by decide +kernel, by decide +kernel⟩, by decide, Or.inl ⟨rfl, me_4 (List.mem_of_getElem? (i := 213) rfl), me_4 (List.mem_of_getElem? (i := 214) rfl)⟩⟩
theorem mk_120 : mOK m_120 0 1 := ⟨me_4 (List.mem_of_getElem? (i := 219) rfl), rfl, me_1 (List.mem_of_getElem? (i := 7) rfl), by decide +kernel, ⟨by decide +kernel, by decide +kernel, by decide +kernel⟩, by decide, Or.inl ⟨rfl, me_4 (List.mem_of_getElem? (i := 217) rfl), me_4 (List.mem_of_getElem? (i := 218) rfl)⟩⟩
theorem mk_121 : mOK m_121 0 1 := ⟨me_4 (List.mem_of_getElem? (i := 227) rfl), rfl, me_1 (List.mem_of_getElem? (i := 7) rfl), by decide +kernel, ⟨by decide +kernel, by decide +kernel, by decide +kernel⟩, by decide, Or.inl ⟨rfl, me_4 (List.mem_of_getElem? (i := 225) rfl), me_4 (List.mem_of_getElem? (i := 226) rfl)⟩⟩
theorem mk_122 : mOK m_122 0 0 := ⟨me_4 (List.mem_of_getElem? (i := 231) rfl), rfl, me_1 (List.mem_of_getElem? (i := 7) rfl), by decide +kernel, ⟨by decide +kernel, by decide +kernel, by decide +kernel⟩, by decide, Or.inl ⟨rfl, me_4 (List.mem_of_getElem? (i := 229) rfl), me_4 (List.mem_of_getElem? (i := 230) rfl)⟩⟩
theorem mk_123 : mOK m_123 0 0 := ⟨me_4 (List.mem_of_getElem? (i := 239) rfl), rfl, me_1 (List.mem_of_getElem? (i := 7) rfl), by decide +kernel, ⟨by decide +kernel, by decide +kernel, by decide +kernel⟩, by decide, Or.inl ⟨rfl, me_4 (List.mem_of_getElem? (i := 237) rfl), me_4 (List.mem_of_getElem? (i := 238) rfl)⟩⟩
theorem mk_124 : mOK m_124 0 1 := ⟨me_5 (List.mem_of_getElem? (i := 19) rfl), rfl, me_1 (List.mem_of_getElem? (i := 7) rfl), by decide +kernel, ⟨by decide +kernel, by decide +kernel, by decide +kernel⟩, by decide, Or.inl ⟨rfl, me_5 (List.mem_of_getElem? (i := 17) rfl), me_5 (List.mem_of_getElem? (i := 18) rfl)⟩⟩
theorem mk_125 : mOK m_125 0 1 := ⟨me_5 (List.mem_of_getElem? (i := 52) rfl), rfl, me_1 (List.mem_of_getElem? (i := 7) rfl), by decide +kernel, ⟨by decide +kernel, by decide +kernel, by decide +kernel⟩, by decide, Or.inl ⟨rfl, me_5 (List.mem_of_getElem? (i := 50) rfl), me_5 (List.mem_of_getElem? (i := 51) rfl)⟩⟩
theorem mk_126 : mOK m_126 0 1 := ⟨me_5 (List.mem_of_getElem? (i := 56) rfl), rfl, me_1 (List.mem_of_getElem? (i := 7) rfl), by decide +kernel, ⟨by decide +kernel, by decide +kernel, by decide +kernel⟩, by decide, Or.inl ⟨rfl, me_5 (List.mem_of_getElem? (i := 54) rfl), me_5 (List.mem_of_getElem? (i := 55) rfl)⟩⟩
theorem mk_127 : mOK m_127 0 1 := ⟨me_5 (List.mem_of_getElem? (i := 75) rfl), rfl, me_1 (List.mem_of_getElem? (i := 7) rfl), by decide +kernel, ⟨by decide +kernel, by decide +kernel, by decide +kernel⟩, by decide, Or.inl ⟨rfl, me_5 (List.mem_of_getElem? (i := 73) rfl), me_5 (List.mem_of_getElem? (i := 74) rfl)⟩⟩
theorem mk_128 : mOK m_128 0 1 := ⟨me_5 (List.mem_of_getElem? (i := 80) rfl), rfl, me_1 (List.mem_of_getElem? (i := 7) rfl), by decide +kernel, ⟨by decide +kernel, by decide +kernel, by decide +kernel⟩, by decide, Or.inl ⟨rfl, me_5 (List.mem_of_getElem? (i := 78) rfl), me_5 (List.mem_of_getElem? (i := 79) rfl)⟩⟩
theorem mk_129 : mOK m_129 0 2 := ⟨me_5 (List.mem_of_getElem? (i := 84) rfl), rfl, me_1 (List.mem_of_getElem? (i := 7) rfl), by decide +kernel, ⟨by decide +kernel, by decide +kernel, by decide +kernel⟩, by decide, Or.inl ⟨rfl, me_5 (List.mem_of_getElem? (i := 83) rfl), mp_2 (q := (m_129.1, _)) (List.mem_of_getElem? (i := 2) rfl)⟩⟩
theorem mk_130 : mOK m_130 0 1 := ⟨me_5 (List.mem_of_getElem? (i := 88) rfl), rfl, me_1 (List.mem_of_getElem? (i := 7) rfl), by decide +kernel, ⟨by decide +kernel, by decide +kernel, by decide +kernel⟩, by decide, Or.inl ⟨rfl, me_5 (List.mem_of_getElem? (i := 87) rfl), mp_2 (q := (m_130.1, _)) (List.mem_of_getElem? (i := 3) rfl)⟩⟩
theorem mk_131 : mOK m_131 0 1 := ⟨me_5 (List.mem_of_getElem? (i := 97) rfl), rfl, me_1 (List.mem_of_getElem? (i := 7) rfl), by decide +kernel, ⟨by decide +kernel, by decide +kernel, by decide +kernel⟩, by decide, Or.inl ⟨rfl, me_5 (List.mem_of_getElem? (i := 95) rfl), me_5 (List.mem_of_getElem? (i := 96) rfl)⟩⟩
theorem mk_132 : mOK m_132 0 2 := ⟨me_5 (List.mem_of_getElem? (i := 183) rfl), rfl, me_1 (List.mem_of_getElem? (i := 7) rfl), by decide +kernel, ⟨by decide +kernel, by decide +kernel, by decide +kernel⟩, by decide, Or.inl ⟨rfl, me_5 (List.mem_of_getElem? (i := 181) rfl), me_5 (List.mem_of_getElem? (i := 182) rfl)⟩⟩
theorem mk_133 : mOK m_133 0 1 := ⟨me_5 (List.mem_of_getElem? (i := 229) rfl), rfl, me_1 (List.mem_of_getElem? (i := 7) rfl), by decide +kernel, ⟨by decide +kernel, by decide +kernel, by decide +kernel⟩, by decide, Or.inl ⟨rfl, me_5 (List.mem_of_getElem? (i := 227) rfl), me_5 (List.mem_of_getElem? (i := 228) rfl)⟩⟩
theorem mk_134 : mOK m_134 1 3 := ⟨me_5 (List.mem_of_getElem? (i := 233) rfl), rfl, me_1 (List.mem_of_getElem? (i := 7) rfl), by decide +kernel, ⟨by decide +kernel, by decide +kernel, by decide +kernel⟩, by decide, Or.inr (Or.inl ⟨rfl, me_5 (List.mem_of_getElem? (i := 232) rfl)⟩)⟩
theorem mk_135 : mOK m_135 0 1 := ⟨me_6 (List.mem_of_getElem? (i := 124) rfl), rfl, me_1 (List.mem_of_getElem? (i := 7) rfl), by decide +kernel, ⟨by decide +kernel, by decide +kernel, by decide +kernel⟩, by decide, Or.inl ⟨rfl, me_6 (List.mem_of_getElem? (i := 122) rfl), me_6 (List.mem_of_getElem? (i := 123) rfl)⟩⟩
theorem mk_136 : mOK m_136 2 0 := ⟨me_1 (List.mem_of_getElem? (i := 219) rfl), rfl, me_1 (List.mem_of_getElem? (i := 8) rfl), by decide +kernel, ⟨by decide +kernel, by decide +kernel, by decide +kernel⟩, by decide, Or.inr (Or.inr ⟨rfl, rfl, rfl, me_1 (List.mem_of_getElem? (i := 218) rfl)⟩)⟩
theorem mk_137 : mOK m_137 0 0 := ⟨me_3 (List.mem_of_getElem? (i := 235) rfl), rfl, me_1 (List.mem_of_getElem? (i := 8) rfl), by decide +kernel, ⟨by decide +kernel, by decide +kernel, by decide +kernel⟩, by decide, Or.inl ⟨rfl, me_3 (List.mem_of_getElem? (i := 233) rfl), me_3 (List.mem_of_getElem? (i := 234) rfl)⟩⟩
theorem mk_138 : mOK m_138 0 1 := ⟨me_4 (List.mem_of_getElem? (i := 139) rfl), rfl, me_1 (List.mem_of_getElem? (i := 8) rfl), by decide +kernel, ⟨by decide +kernel, by decide +kernel, by decide +kernel⟩, by decide, Or.inl ⟨rfl, me_4 (List.mem_of_getElem? (i := 137) rfl), me_4 (List.mem_of_getElem? (i := 138) rfl)⟩⟩
theorem mk_139 : mOK m_139 0 4 := ⟨me_4 (List.mem_of_getElem? (i := 167) rfl), rfl, me_1 (List.mem_of_getElem? (i := 8) rfl), by decide +kernel, ⟨by decide +kernel, by decide +kernel, by decide +kernel⟩, by decide, Or.inl ⟨rfl, me_4 (List.mem_of_getElem? (i := 165) rfl), me_4 (List.mem_of_getElem? (i := 166) rfl)⟩⟩
theorem mk_140 : mOK m_140 0 2 := ⟨me_4 (List.mem_of_getElem? (i := 171) rfl), rfl, me_1 (List.mem_of_getElem? (i := 8) rfl), by decide +kernel, ⟨by decide +kernel, by decide +kernel, by decide +kernel⟩, by decide, Or.inl ⟨rfl, me_4 (List.mem_of_getElem? (i := 169) rfl), me_4 (List.mem_of_getElem? (i := 170) rfl)⟩⟩
theorem mk_141 : mOK m_141 0 1 := ⟨me_4 (List.mem_of_getElem? (i := 175) rfl), rfl, me_1 (List.mem_of_getElem? (i := 8) rfl), by decide +kernel, ⟨by decide +kernel, by decide +kernel, by decide +kernel⟩, by decide, Or.inl ⟨rfl, me_4 (List.mem_of_getElem? (i := 173) rfl), me_4 (List.mem_of_getElem? (i := 174) rfl)⟩⟩
theorem mk_142 : mOK m_142 2 0 := ⟨me_2 (List.mem_of_getElem? (i := 50) rfl), rfl, me_1 (List.mem_of_getElem? (i := 9) rfl), by decide +kernel, ⟨by decide +kernel, by decide +kernel, by decide +kernel⟩, by decide, Or.inr (Or.inr ⟨rfl, rfl, rfl, me_2 (List.mem_of_getElem? (i := 49) rfl)⟩)⟩
theorem mk_143 : mOK m_143 0 2 := ⟨me_3 (List.mem_of_getElem? (i := 202) rfl), rfl, me_1 (List.mem_of_getElem? (i := 9) rfl), by decide +kernel, ⟨by decide +kernel, by decide +kernel, by decide +kernel⟩, by decide, Or.inl ⟨rfl, me_3 (List.mem_of_getElem? (i := 200) rfl), me_3 (List.mem_of_getElem? (i := 201) rfl)⟩⟩
theorem mk_144 : mOK m_144 0 0 := ⟨me_3 (List.mem_of_getElem? (i := 209) rfl), rfl, me_1 (List.mem_of_getElem? (i := 9) rfl), by decide +kernel, ⟨by decide +kernel, by decide +kernel, by decide +kernel⟩, by decide, Or.inl ⟨rfl, me_3 (List.mem_of_getElem? (i := 207) rfl), me_3 (List.mem_of_getElem? (i := 208) rfl)⟩⟩
theorem mk_145 : mOK m_145 0 0 := ⟨me_3 (List.mem_of_getElem? (i := 213) rfl), rfl, me_1 (List.mem_of_getElem? (i := 9) rfl), by decide +kernel, ⟨by decide +kernel, by decide +kernel, by decide +kernel⟩, by decide, Or.inl ⟨rfl, me_3 (List.mem_of_getElem? (i := 212) rfl), mp_1 (q := (m_145.1, _)) (List.mem_of_getElem? (i := 4) rfl)⟩⟩
theorem mk_146 : mOK m_146 0 0 := ⟨me_3 (List.mem_of_getElem? (i := 218) rfl), rfl, me_1 (List.mem_of_getElem? (i := 9) rfl), by decide +kernel, ⟨by decide +kernel, by decide +kernel, by decide +kernel⟩, by decide, Or.inl ⟨rfl, me_3 (List.mem_of_getElem? (i := 217) rfl), mp_1 (q := (m_146.1, _)) (List.mem_of_getElem? (i := 5) rfl)⟩⟩
theorem mk_147 : mOK m_147 0 0 := ⟨me_3 (List.mem_of_getElem? (i := 239) rfl), rfl, me_1 (List.mem_of_getElem? (i := 9) rfl), by decide +kernel, ⟨by decide +kernel, by decide +kernel, by decide +kernel⟩, by decide, Or.inl ⟨rfl, me_3 (List.mem_of_getElem? (i := 237) rfl), me_3 (List.mem_of_getElem? (i := 238) rfl)⟩⟩
theorem mk_148 : mOK m_148 0 0 := ⟨me_4 (List.mem_of_getElem? (i := 3) rfl), rfl, me_1 (List.mem_of_getElem? (i := 9) rfl), by decide +kernel, ⟨by decide +kernel, by decide +kernel, by decide +kernel⟩, by decide, Or.inl ⟨rfl, me_4 (List.mem_of_getElem? (i := 1) rfl), me_4 (List.mem_of_getElem? (i := 2) rfl)⟩⟩
theorem mk_149 : mOK m_149 0 0 := ⟨me_4 (List.mem_of_getElem? (i := 11) rfl), rfl, me_1 (List.mem_of_getElem? (i := 9) rfl), by decide +kernel, ⟨by decide +kernel, by decide +kernel, by decide +kernel⟩, by decide, Or.inl ⟨rfl, me_4 (List.mem_of_getElem? (i := 9) rfl), me_4 (List.mem_of_getElem? (i := 10) rfl)⟩⟩
theorem mk_150 : mOK m_150 0 1 := ⟨me_4 (List.mem_of_getElem? (i := 15) rfl), rfl, me_1 (List.mem_of_getElem? (i := 9) rfl), by decide +kernel, ⟨by decide +kernel, by decide +kernel, by decide +kernel⟩, by decide, Or.inl ⟨rfl, me_4 (List.mem_of_getElem? (i := 13) rfl), me_4 (List.mem_of_getElem? (i := 14) rfl)⟩⟩
theorem mk_151 : mOK m_151 0 3 := ⟨me_4 (List.mem_of_getElem? (i := 23) rfl), rfl, me_1 (List.mem_of_getElem? (i := 9) rfl), by decide +kernel, ⟨by decide +kernel, by decide +kernel, by decide +kernel⟩, by decide, Or.inl ⟨rfl, me_4 (List.mem_of_getElem? (i := 21) rfl), me_4 (List.mem_of_getElem? (i := 22) rfl)⟩⟩
theorem mk_152 : mOK m_152 0 1 := ⟨me_4 (List.mem_of_getElem? (i := 27) rfl), rfl, me_1 (List.mem_of_getElem? (i := 9) rfl), by decide +kernel, ⟨by decide +kernel, by decide +kernel, by decide +kernel⟩, by decide, Or.inl ⟨rfl, me_4 (List.mem_of_getElem? (i := 25) rfl), me_4 (List.mem_of_getElem? (i := 26) rfl)⟩⟩
theorem mk_153 : mOK m_153 0 1 := ⟨me_4 (List.mem_of_getElem? (i := 31) rfl), rfl, me_1 (List.mem_of_getElem? (i := 9) rfl), by decide +kernel, ⟨by decide +kernel, by decide +kernel, by decide +kernel⟩, by decide, Or.inl ⟨rfl, me_4 (List.mem_of_getElem? (i := 29) rfl), me_4 (List.mem_of_getElem? (i := 30) rfl)⟩⟩
theorem mk_154 : mOK m_154 0 2 := ⟨me_4 (List.mem_of_getElem? (i := 36) rfl), rfl, me_1 (List.mem_of_getElem? (i := 9) rfl), by decide +kernel, ⟨by decide +kernel, by decide +kernel, by decide +kernel⟩, by decide, Or.inl ⟨rfl, me_4 (List.mem_of_getElem? (i := 34) rfl), me_4 (List.mem_of_getElem? (i := 35) rfl)⟩⟩
theorem mk_155 : mOK m_155 0 0 := ⟨me_4 (List.mem_of_getElem? (i := 40) rfl), rfl, me_1 (List.mem_of_getElem? (i := 9) rfl), by decide +kernel, ⟨by decide +kernel, by decide +kernel, by decide +kernel⟩, by decide, Or.inl ⟨rfl, me_4 (List.mem_of_getElem? (i := 38) rfl), me_4 (List.mem_of_getElem? (i := 39) rfl)⟩⟩
theorem mk_156 : mOK m_156 0 1 := ⟨me_4 (List.mem_of_getElem? (i := 59) rfl), rfl, me_1 (List.mem_of_getElem? (i := 9) rfl), by decide +kernel, ⟨by decide +kernel, by decide +kernel, by decide +kernel⟩, by decide, Or.inl ⟨rfl, me_4 (List.mem_of_getElem? (i := 57) rfl), me_4 (List.mem_of_getElem? (i := 58) rfl)⟩⟩
theorem mk_157 : mOK m_157 0 4 := ⟨me_4 (List.mem_of_getElem? (i := 71) rfl), rfl, me_1 (List.mem_of_getElem? (i := 9) rfl), by decide +kernel, ⟨by decide +kernel, by decide +kernel, by decide +kernel⟩, by decide, Or.inl ⟨rfl, me_4 (List.mem_of_getElem? (i := 69) rfl), me_4 (List.mem_of_getElem? (i := 70) rfl)⟩⟩
theorem mk_158 : mOK m_158 0 1 := ⟨me_4 (List.mem_of_getElem? (i := 87) rfl), rfl, me_1 (List.mem_of_getElem? (i := 9) rfl), by decide +kernel, ⟨by decide +kernel, by decide +kernel, by decide +kernel⟩, by decide, Or.inl ⟨rfl, me_4 (List.mem_of_getElem? (i := 85) rfl), me_4 (List.mem_of_getElem? (i := 86) rfl)⟩⟩
theorem mk_159 : mOK m_159 0 0 := ⟨me_4 (List.mem_of_getElem? (i := 91) rfl), rfl, me_1 (List.mem_of_getElem? (i := 9) rfl), by decide +kernel, ⟨by decide +kernel, by decide +kernel, by decide +kernel⟩, by decide, Or.inl ⟨rfl, me_4 (List.mem_of_getElem? (i := 89) rfl), me_4 (List.mem_of_getElem? (i := 90) rfl)⟩⟩
theorem mk_160 : mOK m_160 0 1 := ⟨me_4 (List.mem_of_getElem? (i := 193) rfl), rfl, me_1 (List.mem_of_getElem? (i := 9) rfl), by decide +kernel, ⟨by decide +kernel, by decide +kernel, by decide +kernel⟩, by decide, Or.inl ⟨rfl, me_4 (List.mem_of_getElem? (i := 191) rfl), me_4 (List.mem_of_getElem? (i := 192) rfl)⟩⟩
theorem mk_161 : mOK m_161 0 0 := ⟨me_4 (List.mem_of_getElem? (i := 198) rfl), rfl, me_1 (List.mem_of_getElem? (i := 9) rfl), by decide +kernel, ⟨by decide +kernel, by decide +kernel, by decide +kernel⟩, by decide, Or.inl ⟨rfl, me_4 (List.mem_of_getElem? (i := 196) rfl), me_4 (List.mem_of_getElem? (i := 197) rfl)⟩⟩
theorem mk_162 : mOK m_162 2 2 := ⟨me_2 (List.mem_of_getElem? (i := 136) rfl), rfl, me_1 (List.mem_of_getElem? (i := 14) rfl), by decide +kernel, ⟨by decide +kernel, by decide +kernel, by decide +kernel⟩, by decide, Or.inr (Or.inr ⟨rfl, rfl, rfl, me_2 (List.mem_of_getElem? (i := 135) rfl)⟩)⟩
theorem mk_163 : mOK m_163 0 0 := ⟨me_3 (List.mem_of_getElem? (i := 223) rfl), rfl, me_1 (List.mem_of_getElem? (i := 14) rfl), by decide +kernel, ⟨by decide +kernel, by decide +kernel, by decide +kernel⟩, by decide, Or.inl ⟨rfl, me_3 (List.mem_of_getElem? (i := 221) rfl), me_3 (List.mem_of_getElem? (i := 222) rfl)⟩⟩
theorem mk_164 : mOK m_164 0 0 := ⟨me_4 (List.mem_of_getElem? (i := 7) rfl), rfl, me_1 (List.mem_of_getElem? (i := 14) rfl), by decide +kernel, ⟨by decide +kernel, by decide +kernel, by decide +kernel⟩, by decide, Or.inl ⟨rfl, me_4 (List.mem_of_getElem? (i := 6) rfl), mp_1 (q := (m_164.1, _)) (List.mem_of_getElem? (i := 6) rfl)⟩⟩
theorem mk_165 : mOK m_165 0 0 := ⟨me_4 (List.mem_of_getElem? (i := 19) rfl), rfl, me_1 (List.mem_of_getElem? (i := 14) rfl), by decide +kernel, ⟨by decide +kernel, by decide +kernel, by decide +kernel⟩, by decide, Or.inl ⟨rfl, me_4 (List.mem_of_getElem? (i := 18) rfl), mp_1 (q := (m_165.1, _)) (List.mem_of_getElem? (i := 7) rfl)⟩⟩
theorem mk_166 : mOK m_166 0 0 := ⟨me_4 (List.mem_of_getElem? (i := 50) rfl), rfl, me_1 (List.mem_of_getElem? (i := 14) rfl), by decide +kernel, ⟨by decide +kernel, by decide +kernel, by decide +kernel⟩, by decide, Or.inl ⟨rfl, me_4 (List.mem_of_getElem? (i := 49) rfl), mp_1 (q := (m_166.1, _)) (List.mem_of_getElem? (i := 8) rfl)⟩⟩
theorem mk_167 : mOK m_167 0 0 := ⟨me_4 (List.mem_of_getElem? (i := 54) rfl), rfl, me_1 (List.mem_of_getElem? (i := 14) rfl), by decide +kernel, ⟨by decide +kernel, by decide +kernel, by decide +kernel⟩, by decide, Or.inl ⟨rfl, me_4 (List.mem_of_getElem? (i := 53) rfl), mp_1 (q := (m_167.1, _)) (List.mem_of_getElem? (i := 9) rfl)⟩⟩
theorem mk_168 : mOK m_168 0 0 := ⟨me_4 (List.mem_of_getElem? (i := 75) rfl), rfl, me_1 (List.mem_of_getElem? (i := 14) rfl), by decide +kernel, ⟨by decide +kernel, by decide +kernel, by decide +kernel⟩, by decide, Or.inl ⟨rfl, me_4 (List.mem_of_getElem? (i := 74) rfl), mp_1 (q := (m_168.1, _)) (List.mem_of_getElem? (i := 10) rfl)⟩⟩
theorem mk_169 : mOK m_169 0 0 := ⟨me_4 (List.mem_of_getElem? (i := 83) rfl), rfl, me_1 (List.mem_of_getElem? (i := 14) rfl), by decide +kernel, ⟨by decide +kernel, by decide +kernel, by decide +kernel⟩, by decide, Or.inl ⟨rfl, me_4 (List.mem_of_getElem? (i := 82) rfl), mp_1 (q := (m_169.1, _)) (List.mem_of_getElem? (i := 11) rfl)⟩⟩
theorem mk_170 : mOK m_170 2 3 := ⟨me_2 (List.mem_of_getElem? (i := 152) rfl), rfl, me_1 (List.mem_of_getElem? (i := 15) rfl), by decide +kernel, ⟨by decide +kernel, by decide +kernel, by decide +kernel⟩, by decide, Or.inr (Or.inr ⟨rfl, rfl, rfl, me_2 (List.mem_of_getElem? (i := 151) rfl)⟩)⟩
theorem mk_171 : mOK m_171 0 0 := ⟨me_4 (List.mem_of_getElem? (i := 152) rfl), rfl, me_1 (List.mem_of_getElem? (i := 15) rfl), by decide +kernel, ⟨by decide +kernel, by decide +kernel, by decide +kernel⟩, by decide, Or.inl ⟨rfl, me_4 (List.mem_of_getElem? (i := 150) rfl), me_4 (List.mem_of_getElem? (i := 151) rfl)⟩⟩
theorem mk_172 : mOK m_172 0 0 := ⟨me_4 (List.mem_of_getElem? (i := 160) rfl), rfl, me_1 (List.mem_of_getElem? (i := 15) rfl), by decide +kernel, ⟨by decide +kernel, by decide +kernel, by decide +kernel⟩, by decide, Or.inl ⟨rfl, me_4 (List.mem_of_getElem? (i := 159) rfl), mp_1 (q := (m_172.1, _)) (List.mem_of_getElem? (i := 14) rfl)⟩⟩
theorem mk_173 : mOK m_173 0 0 := ⟨me_4 (List.mem_of_getElem? (i := 179) rfl), rfl, me_1 (List.mem_of_getElem? (i := 15) rfl), by decide +kernel, ⟨by decide +kernel, by decide +kernel, by decide +kernel⟩, by decide, Or.inl ⟨rfl, me_4 (List.mem_of_getElem? (i := 178) rfl), mp_1 (q := (m_173.1, _)) (List.mem_of_getElem? (i := 15) rfl)⟩⟩
theorem mk_174 : mOK m_174 1 1 := ⟨me_4 (List.mem_of_getElem? (i := 183) rfl), rfl, me_1 (List.mem_of_getElem? (i := 15) rfl), by decide +kernel, ⟨by decide +kernel, by decide +kernel, by decide +kernel⟩, by decide, Or.inr (Or.inl ⟨rfl, me_4 (List.mem_of_getElem? (i := 182) rfl)⟩)⟩
theorem mk_175 : mOK m_175 0 1 := ⟨me_4 (List.mem_of_getElem? (i := 188) rfl), rfl, me_1 (List.mem_of_getElem? (i := 15) rfl), by decide +kernel, ⟨by decide +kernel, by decide +kernel, by decide +kernel⟩, by decide, Or.inl ⟨rfl, me_4 (List.mem_of_getElem? (i := 187) rfl), mp_2 (q := (m_175.1, _)) (List.mem_of_getElem? (i := 0) rfl)⟩⟩
theorem mk_176 : mOK m_176 0 1 := ⟨me_4 (List.mem_of_getElem? (i := 202) rfl), rfl, me_1 (List.mem_of_getElem? (i := 15) rfl), by decide +kernel, ⟨by decide +kernel, by decide +kernel, by decide +kernel⟩, by decide, Or.inl ⟨rfl, me_4 (List.mem_of_getElem? (i := 201) rfl), mp_2 (q := (m_176.1, _)) (List.mem_of_getElem? (i := 1) rfl)⟩⟩
theorem mk_177 : mOK m_177 2 1 := ⟨me_2 (List.mem_of_getElem? (i := 174) rfl), rfl, me_1 (List.mem_of_getElem? (i := 16) rfl), by decide +kernel, ⟨by decide +kernel, by decide +kernel, by decide +kernel⟩, by decide, Or.inr (Or.inr ⟨rfl, rfl, rfl, me_2 (List.mem_of_getElem? (i := 173) rfl)⟩)⟩
theorem mk_178 : mOK m_178 0 1 := ⟨me_5 (List.mem_of_getElem? (i := 200) rfl), rfl, me_1 (List.mem_of_getElem? (i := 16) rfl), by decide +kernel, ⟨by decide +kernel, by decide +kernel, by decide +kernel⟩, by decide, Or.inl ⟨rfl, me_5 (List.mem_of_getElem? (i := 198) rfl), me_5 (List.mem_of_getElem? (i := 199) rfl)⟩⟩
theorem mk_179 : mOK m_179 0 2 := ⟨me_5 (List.mem_of_getElem? (i := 210) rfl), rfl, me_1 (List.mem_of_getElem? (i := 16) rfl), by decide +kernel, ⟨by decide +kernel, by decide +kernel, by decide +kernel⟩, by decide, Or.inl ⟨rfl, me_5 (List.mem_of_getElem? (i := 208) rfl), me_5 (List.mem_of_getElem? (i := 209) rfl)⟩⟩
theorem mk_180 : mOK m_180 0 1 := ⟨me_6 (List.mem_of_getElem? (i := 6) rfl), rfl, me_1 (List.mem_of_getElem? (i := 16) rfl), by decide +kernel, ⟨by decide +kernel, by decide +kernel, by decide +kernel⟩, by decide, Or.inl ⟨rfl, me_6 (List.mem_of_getElem? (i := 4) rfl), me_6 (List.mem_of_getElem? (i := 5) rfl)⟩⟩
theorem mk_181 : mOK m_181 0 1 := ⟨me_6 (List.mem_of_getElem? (i := 11) rfl), rfl, me_1 (List.mem_of_getElem? (i := 16) rfl), by decide +kernel, ⟨by decide +kernel, by decide +kernel, by decide +kernel⟩, by decide, Or.inl ⟨rfl, me_6 (List.mem_of_getElem? (i := 10) rfl), mp_2 (q := (m_181.1, _)) (List.mem_of_getElem? (i := 5) rfl)⟩⟩
theorem mk_182 : mOK m_182 0 3 := ⟨me_6 (List.mem_of_getElem? (i := 16) rfl), rfl, me_1 (List.mem_of_getElem? (i := 16) rfl), by decide +kernel, ⟨by decide +kernel, by decide +kernel, by decide +kernel⟩, by decide, Or.inl ⟨rfl, me_6 (List.mem_of_getElem? (i := 15) rfl), mp_2 (q := (m_182.1, _)) (List.mem_of_getElem? (i := 6) rfl)⟩⟩
theorem mk_183 : mOK m_183 0 3 := ⟨me_6 (List.mem_of_getElem? (i := 32) rfl), rfl, me_1 (List.mem_of_getElem? (i := 16) rfl), by decide +kernel, ⟨by decide +kernel, by decide +kernel, by decide +kernel⟩, by decide, Or.inl ⟨rfl, me_6 (List.mem_of_getElem? (i := 30) rfl), me_6 (List.mem_of_getElem? (i := 31) rfl)⟩⟩
theorem mk_184 : mOK m_184 0 4 := ⟨me_6 (List.mem_of_getElem? (i := 40) rfl), rfl, me_1 (List.mem_of_getElem? (i := 16) rfl), by decide +kernel, ⟨by decide +kernel, by decide +kernel, by decide +kernel⟩, by decide, Or.inl ⟨rfl, me_6 (List.mem_of_getElem? (i := 39) rfl), mp_2 (q := (m_184.1, _)) (List.mem_of_getElem? (i := 8) rfl)⟩⟩
theorem mk_185 : mOK m_185 0 4 := ⟨me_6 (List.mem_of_getElem? (i := 46) rfl), rfl, me_1 (List.mem_of_getElem? (i := 16) rfl), by decide +kernel, ⟨by decide +kernel, by decide +kernel, by decide +kernel⟩, by decide, Or.inl ⟨rfl, me_6 (List.mem_of_getElem? (i := 45) rfl), mp_2 (q := (m_185.1, _)) (List.mem_of_getElem? (i := 9) rfl)⟩⟩
theorem mk_186 : mOK m_186 0 1 := ⟨me_6 (List.mem_of_getElem? (i := 77) rfl), rfl, me_1 (List.mem_of_getElem? (i := 16) rfl), by decide +kernel, ⟨by decide +kernel, by decide +kernel, by decide +kernel⟩, by decide, Or.inl ⟨rfl, me_6 (List.mem_of_getElem? (i := 75) rfl), me_6 (List.mem_of_getElem? (i := 76) rfl)⟩⟩
theorem mk_187 : mOK m_187 0 1 := ⟨me_6 (List.mem_of_getElem? (i := 84) rfl), rfl, me_1 (List.mem_of_getElem? (i := 16) rfl), by decide +kernel, ⟨by decide +kernel, by decide +kernel, by decide +kernel⟩, by decide, Or.inl ⟨rfl, me_6 (List.mem_of_getElem? (i := 83) rfl), mp_2 (q := (m_187.1, _)) (List.mem_of_getElem? (i := 12) rfl)⟩⟩
theorem mk_188 : mOK m_188 0 3 := ⟨me_6 (List.mem_of_getElem? (i := 98) rfl), rfl, me_1 (List.mem_of_getElem? (i := 16) rfl), by decide +kernel, ⟨by decide +kernel, by decide +kernel, by decide +kernel⟩, by decide, Or.inl ⟨rfl, me_6 (List.mem_of_getElem? (i := 96) rfl), me_6 (List.mem_of_getElem? (i := 97) rfl)⟩⟩
theorem mk_189 : mOK m_189 0 6 := ⟨me_6 (List.mem_of_getElem? (i := 102) rfl), rfl, me_1 (List.mem_of_getElem? (i := 16) rfl), by decide +kernel, ⟨by decide +kernel, by decide +kernel, by decide +kernel⟩, by decide, Or.inl ⟨rfl, me_6 (List.mem_of_getElem? (i := 101) rfl), mp_2 (q := (m_189.1, _)) (List.mem_of_getElem? (i := 13) rfl)⟩⟩
theorem mk_190 : mOK m_190 0 2 := ⟨me_6 (List.mem_of_getElem? (i := 106) rfl), rfl, me_1 (List.mem_of_getElem? (i := 16) rfl), by decide +kernel, ⟨by decide +kernel, by decide +kernel, by decide +kernel⟩, by decide, Or.inl ⟨rfl, me_6 (List.mem_of_getElem? (i := 105) rfl), mp_2 (q := (m_190.1, _)) (List.mem_of_getElem? (i := 14) rfl)⟩⟩
theorem mk_191 : mOK m_191 0 7 := ⟨me_6 (List.mem_of_getElem? (i := 111) rfl), rfl, me_1 (List.mem_of_getElem? (i := 16) rfl), by decide +kernel, ⟨by decide +kernel, by decide +kernel, by decide +kernel⟩, by decide, Or.inl ⟨rfl, me_6 (List.mem_of_getElem? (i := 110) rfl), mp_2 (q := (m_191.1, _)) (List.mem_of_getElem? (i := 15) rfl)⟩⟩
theorem mk_192 : mOK m_192 0 2 := ⟨me_6 (List.mem_of_getElem? (i := 137) rfl), rfl, me_1 (List.mem_of_getElem? (i := 16) rfl), by decide +kernel, ⟨by decide +kernel, by decide +kernel, by decide +kernel⟩, by decide, Or.inl ⟨rfl, me_6 (List.mem_of_getElem? (i := 135) rfl), me_6 (List.mem_of_getElem? (i := 136) rfl)⟩⟩
theorem mk_193 : mOK m_193 0 2 := ⟨me_6 (List.mem_of_getElem? (i := 141) rfl), rfl, me_1 (List.mem_of_getElem? (i := 16) rfl), by decide +kernel, ⟨by decide +kernel, by decide +kernel, by decide +kernel⟩, by decide, Or.inl ⟨rfl, me_6 (List.mem_of_getElem? (i := 140) rfl), mp_3 (q := (m_193.1, _)) (List.mem_of_getElem? (i := 0) rfl)⟩⟩
theorem mk_194 : mOK m_194 0 2 := ⟨me_6 (List.mem_of_getElem? (i := 149) rfl), rfl, me_1 (List.mem_of_getElem? (i := 16) rfl), by decide +kernel, ⟨by decide +kernel, by decide +kernel, by decide +kernel⟩, by decide, Or.inl ⟨rfl, me_6 (List.mem_of_getElem? (i := 148) rfl), mp_3 (q := (m_194.1, _)) (List.mem_of_getElem? (i := 1) rfl)⟩⟩
theorem mk_195 : mOK m_195 2 1 := ⟨me_2 (List.mem_of_getElem? (i := 237) rfl), rfl, me_1 (List.mem_of_getElem? (i := 17) rfl), by decide +kernel, ⟨by decide +kernel, by decide +kernel, by decide +kernel⟩, by decide, Or.inr (Or.inr ⟨rfl, rfl, rfl, me_2 (List.mem_of_getElem? (i := 236) rfl)⟩)⟩
theorem mk_196 : mOK m_196 0 1 := ⟨me_6 (List.mem_of_getElem? (i := 189) rfl), rfl, me_1 (List.mem_of_getElem? (i := 17) rfl), by decide +kernel, ⟨by decide +kernel, by decide +kernel, by decide +kernel⟩, by decide, Or.inl ⟨rfl, me_6 (List.mem_of_getElem? (i := 187) rfl), me_6 (List.mem_of_getElem? (i := 188) rfl)⟩⟩
theorem mk_197 : mOK m_197 0 1 := ⟨me_6 (List.mem_of_getElem? (i := 195) rfl), rfl, me_1 (List.mem_of_getElem? (i := 17) rfl), by decide +kernel, ⟨by decide +kernel, by decide +kernel, by decide +kernel⟩, by decide, Or.inl ⟨rfl, me_6 (List.mem_of_getElem? (i := 194) rfl), mp_3 (q := (m_197.1, _)) (List.mem_of_getElem? (i := 3) rfl)⟩⟩
theorem mk_198 : mOK m_198 0 1 := ⟨me_6 (List.mem_of_getElem? (i := 199) rfl), rfl, me_1 (List.mem_of_getElem? (i := 17) rfl), by decide +kernel, ⟨by decide +kernel, by decide +kernel, by decide +kernel⟩, by decide, Or.inl ⟨rfl, me_6 (List.mem_of_getElem? (i := 198) rfl), mp_3 (q := (m_198.1, _)) (List.mem_of_getElem? (i := 4) rfl)⟩⟩
theorem mk_199 : mOK m_199 0 3 := ⟨me_6 (List.mem_of_getElem? (i := 203) rfl), rfl, me_1 (List.mem_of_getElem? (i := 17) rfl), by decide +kernel, ⟨by decide +kernel, by decide +kernel, by decide +kernel⟩, by decide, Or.inl ⟨rfl, me_6 (List.mem_of_getElem? (i := 202) rfl), mp_3 (q := (m_199.1, _)) (List.mem_of_getElem? (i := 5) rfl)⟩⟩
theorem mk_200 : mOK m_200 0 1 := ⟨me_6 (List.mem_of_getElem? (i := 212) rfl), rfl, me_1 (List.mem_of_getElem? (i := 17) rfl), by decide +kernel, ⟨by decide +kernel, by decide +kernel, by decide +kernel⟩, by decide, Or.inl ⟨rfl, me_6 (List.mem_of_getElem? (i := 211) rfl), mp_3 (q := (m_200.1, _)) (List.mem_of_getElem? (i := 6) rfl)⟩⟩
theorem mk_201 : mOK m_201 0 3 := ⟨me_6 (List.mem_of_getElem? (i := 217) rfl), rfl, me_1 (List.mem_of_getElem? (i := 17) rfl), by decide +kernel, ⟨by decide +kernel, by decide +kernel, by decide +kernel⟩, by decide, Or.inl ⟨rfl, me_6 (List.mem_of_getElem? (i := 216) rfl), mp_3 (q := (m_201.1, _)) (List.mem_of_getElem? (i := 7) rfl)⟩⟩
theorem mk_202 : mOK m_202 0 1 := ⟨me_6 (List.mem_of_getElem? (i := 223) rfl), rfl, me_1 (List.mem_of_getElem? (i := 17) rfl), by decide +kernel, ⟨by decide +kernel, by decide +kernel, by decide +kernel⟩, by decide, Or.inl ⟨rfl, me_6 (List.mem_of_getElem? (i := 222) rfl), mp_3 (q := (m_202.1, _)) (List.mem_of_getElem? (i := 8) rfl)⟩⟩
theorem mk_203 : mOK m_203 0 1 := ⟨me_6 (List.mem_of_getElem? (i := 227) rfl), rfl, me_1 (List.mem_of_getElem? (i := 17) rfl), by decide +kernel, ⟨by decide +kernel, by decide +kernel, by decide +kernel⟩, by decide, Or.inl ⟨rfl, me_6 (List.mem_of_getElem? (i := 226) rfl), mp_3 (q := (m_203.1, _)) (List.mem_of_getElem? (i := 9) rfl)⟩⟩
theorem mk_204 : mOK m_204 0 1 := ⟨me_6 (List.mem_of_getElem? (i := 236) rfl), rfl, me_1 (List.mem_of_getElem? (i := 17) rfl), by decide +kernel, ⟨by decide +kernel, by decide +kernel, by decide +kernel⟩, by decide, Or.inl ⟨rfl, me_6 (List.mem_of_getElem? (i := 235) rfl), mp_3 (q := (m_204.1, _)) (List.mem_of_getElem? (i := 10) rfl)⟩⟩
theorem mk_205 : mOK m_205 0 1 := ⟨me_7 (List.mem_of_getElem? (i := 3) rfl), rfl, me_1 (List.mem_of_getElem? (i := 17) rfl), by decide +kernel, ⟨by decide +kernel, by decide +kernel, by decide +kernel⟩, by decide, Or.inl ⟨rfl, me_7 (List.mem_of_getElem? (i := 1) rfl), me_7 (List.mem_of_getElem? (i := 2) rfl)⟩⟩
theorem mk_206 : mOK m_206 2 0 := ⟨me_7 (List.mem_of_getElem? (i := 24) rfl), rfl, me_1 (List.mem_of_getElem? (i := 18) rfl), by decide +kernel, ⟨by decide +kernel, by decide +kernel, by decide +kernel⟩, by decide, Or.inr (Or.inr ⟨rfl, rfl, rfl, me_7 (List.mem_of_getElem? (i := 23) rfl)⟩)⟩
theorem mk_207 : mOK m_207 0 1 := ⟨me_7 (List.mem_of_getElem? (i := 29) rfl), rfl, me_1 (List.mem_of_getElem? (i := 18) rfl), by decide +kernel, ⟨by decide +kernel, by decide +kernel, by decide +kernel⟩, by decide, Or.inl ⟨rfl, me_7 (List.mem_of_getElem? (i := 28) rfl), mp_3 (q := (m_207.1, _)) (List.mem_of_getElem? (i := 11) rfl)⟩⟩
theorem mk_208 : mOK m_208 0 0 := ⟨me_7 (List.mem_of_getElem? (i := 172) rfl), rfl, me_1 (List.mem_of_getElem? (i := 18) rfl), by decide +kernel, ⟨by decide +kernel, by decide +kernel, by decide +kernel⟩, by decide, Or.inl ⟨rfl, me_7 (List.mem_of_getElem? (i := 170) rfl), me_7 (List.mem_of_getElem? (i := 171) rfl)⟩⟩
theorem mk_209 : mOK m_209 0 0 := ⟨me_7 (List.mem_of_getElem? (i := 176) rfl), rfl, me_1 (List.mem_of_getElem? (i := 18) rfl), by decide +kernel, ⟨by decide +kernel, by decide +kernel, by decide +kernel⟩, by decide, Or.inl ⟨rfl, me_7 (List.mem_of_getElem? (i := 174) rfl), me_7 (List.mem_of_getElem? (i := 175) rfl)⟩⟩
theorem mk_210 : mOK m_210 0 0 := ⟨me_7 (List.mem_of_getElem? (i := 180) rfl), rfl, me_1 (List.mem_of_getElem? (i := 18) rfl), by decide +kernel, ⟨by decide +kernel, by decide +kernel, by decide +kernel⟩, by decide, Or.inl ⟨rfl, me_7 (List.mem_of_getElem? (i := 178) rfl), me_7 (List.mem_of_getElem? (i := 179) rfl)⟩⟩
theorem mk_211 : mOK m_211 0 3 := ⟨me_7 (List.mem_of_getElem? (i := 184) rfl), rfl, me_1 (List.mem_of_getElem? (i := 18) rfl), by decide +kernel, ⟨by decide +kernel, by decide +kernel, by decide +kernel⟩, by decide, Or.inl ⟨rfl, me_7 (List.mem_of_getElem? (i := 182) rfl), me_7 (List.mem_of_getElem? (i := 183) rfl)⟩⟩
theorem mk_212 : mOK m_212 1 1 := ⟨me_7 (List.mem_of_getElem? (i := 187) rfl), rfl, me_1 (List.mem_of_getElem? (i := 18) rfl), by decide +kernel, ⟨by decide +kernel, by decide +kernel, by decide +kernel⟩, by decide, Or.inr (Or.inl ⟨rfl, me_7 (List.mem_of_getElem? (i := 186) rfl)⟩)⟩
theorem mk_213 : mOK m_213 0 1 := ⟨me_7 (List.mem_of_getElem? (i := 191) rfl), rfl, me_1 (List.mem_of_getElem? (i := 18) rfl), by decide +kernel, ⟨by decide +kernel, by decide +kernel, by decide +kernel⟩, by decide, Or.inl ⟨rfl, me_7 (List.mem_of_getElem? (i := 190) rfl), mp_3 (q := (m_213.1, _)) (List.mem_of_getElem? (i := 12) rfl)⟩⟩
theorem mk_214 : mOK m_214 0 3 := ⟨me_7 (List.mem_of_getElem? (i := 195) rfl), rfl, me_1 (List.mem_of_getElem? (i := 18) rfl), by decide +kernel, ⟨by decide +kernel, by decide +kernel, by decide +kernel⟩, by decide, Or.inl ⟨rfl, me_7 (List.mem_of_getElem? (i := 193) rfl), me_7 (List.mem_of_getElem? (i := 194) rfl)⟩⟩
theorem mk_215 : mOK m_215 0 2 := ⟨me_7 (List.mem_of_getElem? (i := 199) rfl), rfl, me_1 (List.mem_of_getElem? (i := 18) rfl), by decide +kernel, ⟨by decide +kernel, by decide +kernel, by decide +kernel⟩, by decide, Or.inl ⟨rfl, me_7 (List.mem_of_getElem? (i := 198) rfl), mp_3 (q := (m_215.1, _)) (List.mem_of_getElem? (i := 13) rfl)⟩⟩
theorem mk_216 : mOK m_216 1 2 := ⟨me_7 (List.mem_of_getElem? (i := 202) rfl), rfl, me_1 (List.mem_of_getElem? (i := 18) rfl), by decide +kernel, ⟨by decide +kernel, by decide +kernel, by decide +kernel⟩, by decide, Or.inr (Or.inl ⟨rfl, me_7 (List.mem_of_getElem? (i := 201) rfl)⟩)⟩
theorem mk_217 : mOK m_217 0 2 := ⟨me_7 (List.mem_of_getElem? (i := 206) rfl), rfl, me_1 (List.mem_of_getElem? (i := 18) rfl), by decide +kernel, ⟨by decide +kernel, by decide +kernel, by decide +kernel⟩, by decide, Or.inl ⟨rfl, me_7 (List.mem_of_getElem? (i := 204) rfl), me_7 (List.mem_of_getElem? (i := 205) rfl)⟩⟩
theorem mk_218 : mOK m_218 0 5 := ⟨me_7 (List.mem_of_getElem? (i := 211) rfl), rfl, me_1 (List.mem_of_getElem? (i := 18) rfl), by decide +kernel, ⟨by decide +kernel, by decide +kernel, by decide +kernel⟩, by decide, Or.inl ⟨rfl, me_7 (List.mem_of_getElem? (i := 209) rfl), me_7 (List.mem_of_getElem? (i := 210) rfl)⟩⟩
theorem mk_219 : mOK m_219 0 5 := ⟨me_7 (List.mem_of_getElem? (i := 215) rfl), rfl, me_1 (List.mem_of_getElem? (i := 18) rfl), by decide +kernel, ⟨by decide +kernel, by decide +kernel, by decide +kernel⟩, by decide, Or.inl ⟨rfl, me_7 (List.mem_of_getElem? (i := 213) rfl), me_7 (List.mem_of_getElem? (i := 214) rfl)⟩⟩
theorem mk_220 : mOK m_220 0 1 := ⟨me_7 (List.mem_of_getElem? (i := 219) rfl), rfl, me_1 (List.mem_of_getElem? (i := 18) rfl), by decide +kernel, ⟨by decide +kernel, by decide +kernel, by decide +kernel⟩, by decide, Or.inl ⟨rfl, me_7 (List.mem_of_getElem? (i := 218) rfl), mp_3 (q := (m_220.1, _)) (List.mem_of_getElem? (i := 14) rfl)⟩⟩
theorem mk_221 : mOK m_221 0 1 := ⟨me_7 (List.mem_of_getElem? (i := 223) rfl), rfl, me_1 (List.mem_of_getElem? (i := 18) rfl), by decide +kernel, ⟨by decide +kernel, by decide +kernel, by decide +kernel⟩, by decide, Or.inl ⟨rfl, me_7 (List.mem_of_getElem? (i := 221) rfl), me_7 (List.mem_of_getElem? (i := 222) rfl)⟩⟩
theorem mk_222 : mOK m_222 0 1 := ⟨me_7 (List.mem_of_getElem? (i := 227) rfl), rfl, me_1 (List.mem_of_getElem? (i := 18) rfl), by decide +kernel, ⟨by decide +kernel, by decide +kernel, by decide +kernel⟩, by decide, Or.inl ⟨rfl, me_7 (List.mem_of_getElem? (i := 225) rfl), me_7 (List.mem_of_getElem? (i := 226) rfl)⟩⟩
theorem mk_223 : mOK m_223 0 2 := ⟨me_7 (List.mem_of_getElem? (i := 231) rfl), rfl, me_1 (List.mem_of_getElem? (i := 18) rfl), by decide +kernel, ⟨by decide +kernel, by decide +kernel, by decide +kernel⟩, by decide, Or.inl ⟨rfl, me_7 (List.mem_of_getElem? (i := 230) rfl), mp_3 (q := (m_223.1, _)) (List.mem_of_getElem? (i := 15) rfl)⟩⟩
theorem mk_224 : mOK m_224 0 0 := ⟨me_7 (List.mem_of_getElem? (i := 235) rfl), rfl, me_1 (List.mem_of_getElem? (i := 18) rfl), by decide +kernel, ⟨by decide +kernel, by decide +kernel, by decide +kernel⟩, by decide, Or.inl ⟨rfl, me_7 (List.mem_of_getElem? (i := 234) rfl), mp_4 (q := (m_224.1, _)) (List.mem_of_getElem? (i := 0) rfl)⟩⟩
theorem mk_225 : mOK m_225 0 1 := ⟨me_7 (List.mem_of_getElem? (i := 239) rfl), rfl, me_1 (List.mem_of_getElem? (i := 18) rfl), by decide +kernel, ⟨by decide +kernel, by decide +kernel, by decide +kernel⟩, by decide, Or.inl ⟨rfl, me_7 (List.mem_of_getElem? (i := 238) rfl), mp_4 (q := (m_225.1, _)) (List.mem_of_getElem? (i := 1) rfl)⟩⟩
theorem mk_226 : mOK m_226 1 1 := ⟨me_8 (List.mem_of_getElem? (i := 2) rfl), rfl, me_1 (List.mem_of_getElem? (i := 18) rfl), by decide +kernel, ⟨by decide +kernel, by decide +kernel, by decide +kernel⟩, by decide, Or.inr (Or.inl ⟨rfl, me_8 (List.mem_of_getElem? (i := 1) rfl)⟩)⟩
theorem mk_227 : mOK m_227 1 1 := ⟨me_8 (List.mem_of_getElem? (i := 5) rfl), rfl, me_1 (List.mem_of_getElem? (i := 18) rfl), by decide +kernel, ⟨by decide +kernel, by decide +kernel, by decide +kernel⟩, by decide, Or.inr (Or.inl ⟨rfl, me_8 (List.mem_of_getElem? (i := 4) rfl)⟩)⟩
theorem mk_228 : mOK m_228 0 1 := ⟨me_8 (List.mem_of_getElem? (i := 11) rfl), rfl, me_1 (List.mem_of_getElem? (i := 18) rfl), by decide +kernel, ⟨by decide +kernel, by decide +kernel, by decide +kernel⟩, by decide, Or.inl ⟨rfl, me_8 (List.mem_of_getElem? (i := 10) rfl), mp_4 (q := (m_228.1, _)) (List.mem_of_getElem? (i := 2) rfl)⟩⟩
theorem mk_229 : mOK m_229 0 0 := ⟨me_8 (List.mem_of_getElem? (i := 15) rfl), rfl, me_1 (List.mem_of_getElem? (i := 18) rfl), by decide +kernel, ⟨by decide +kernel, by decide +kernel, by decide +kernel⟩, by decide, Or.inl ⟨rfl, me_8 (List.mem_of_getElem? (i := 14) rfl), mp_4 (q := (m_229.1, _)) (List.mem_of_getElem? (i := 3) rfl)⟩⟩
theorem mk_230 : mOK m_230 0 1 := ⟨me_8 (List.mem_of_getElem? (i := 20) rfl), rfl, me_1 (List.mem_of_getElem? (i := 18) rfl), by decide +kernel, ⟨by decide +kernel, by decide +kernel, by decide +kernel⟩, by decide, Or.inl ⟨rfl, me_8 (List.mem_of_getElem? (i := 19) rfl), mp_4 (q := (m_230.1, _)) (List.mem_of_getElem? (i := 4) rfl)⟩⟩
theorem mk_231 : mOK m_231 0 1 := ⟨me_8 (List.mem_of_getElem? (i := 26) rfl), rfl, me_1 (List.mem_of_getElem? (i := 18) rfl), by decide +kernel, ⟨by decide +kernel, by decide +kernel, by decide +kernel⟩, by decide, Or.inl ⟨rfl, me_8 (List.mem_of_getElem? (i := 25) rfl), mp_4 (q := (m_231.1, _)) (List.mem_of_getElem? (i := 5) rfl)⟩⟩
theorem mk_232 : mOK m_232 0 0 := ⟨me_8 (List.mem_of_getElem? (i := 30) rfl), rfl, me_1 (List.mem_of_getElem? (i := 18) rfl), by decide +kernel, ⟨by decide +kernel, by decide +kernel, by decide +kernel⟩, by decide, Or.inl ⟨rfl, me_8 (List.mem_of_getElem? (i := 29) rfl), mp_4 (q := (m_232.1, _)) (List.mem_of_getElem? (i := 6) rfl)⟩⟩
theorem mk_233 : mOK m_233 0 3 := ⟨me_8 (List.mem_of_getElem? (i := 34) rfl), rfl, me_1 (List.mem_of_getElem? (i := 18) rfl), by decide +kernel, ⟨by decide +kernel, by decide +kernel, by decide +kernel⟩, by decide, Or.inl ⟨rfl, me_8 (List.mem_of_getElem? (i := 33) rfl), mp_4 (q := (m_233.1, _)) (List.mem_of_getElem? (i := 7) rfl)⟩⟩
theorem mk_234 : mOK m_234 0 2 := ⟨me_8 (List.mem_of_getElem? (i := 38) rfl), rfl, me_1 (List.mem_of_getElem? (i := 18) rfl), by decide +kernel, ⟨by decide +kernel, by decide +kernel, by decide +kernel⟩, by decide, Or.inl ⟨rfl, me_8 (List.mem_of_getElem? (i := 37) rfl), mp_4 (q := (m_234.1, _)) (List.mem_of_getElem? (i := 8) rfl)⟩⟩
theorem mk_235 : mOK m_235 0 0 := ⟨me_8 (List.mem_of_getElem? (i := 42) rfl), rfl, me_1 (List.mem_of_getElem? (i := 18) rfl), by decide +kernel, ⟨by decide +kernel, by decide +kernel, by decide +kernel⟩, by decide, Or.inl ⟨rfl, me_8 (List.mem_of_getElem? (i := 41) rfl), mp_4 (q := (m_235.1, _)) (List.mem_of_getElem? (i := 9) rfl)⟩⟩
theorem mk_236 : mOK m_236 0 2 := ⟨me_8 (List.mem_of_getElem? (i := 46) rfl), rfl, me_1 (List.mem_of_getElem? (i := 18) rfl), by decide +kernel, ⟨by decide +kernel, by decide +kernel, by decide +kernel⟩, by decide, Or.inl ⟨rfl, me_8 (List.mem_of_getElem? (i := 45) rfl), mp_4 (q := (m_236.1, _)) (List.mem_of_getElem? (i := 10) rfl)⟩⟩
theorem mk_237 : mOK m_237 0 1 := ⟨me_8 (List.mem_of_getElem? (i := 50) rfl), rfl, me_1 (List.mem_of_getElem? (i := 18) rfl), by decide +kernel, ⟨by decide +kernel, by decide +kernel, by decide +kernel⟩, by decide, Or.inl ⟨rfl, me_8 (List.mem_of_getElem? (i := 49) rfl), mp_4 (q := (m_237.1, _)) (List.mem_of_getElem? (i := 11) rfl)⟩⟩
theorem mk_238 : mOK m_238 0 0 := ⟨me_8 (List.mem_of_getElem? (i := 54) rfl), rfl, me_1 (List.mem_of_getElem? (i := 18) rfl), by decide +kernel, ⟨by decide +kernel, by decide +kernel, by decide +kernel⟩, by decide, Or.inl ⟨rfl, me_8 (List.mem_of_getElem? (i := 53) rfl), mp_4 (q := (m_238.1, _)) (List.mem_of_getElem? (i := 12) rfl)⟩⟩
theorem mk_239 : mOK m_239 0 1 := ⟨me_8 (List.mem_of_getElem? (i := 58) rfl), rfl, me_1 (List.mem_of_getElem? (i := 18) rfl), by decide +kernel, ⟨by decide +kernel, by decide +kernel, by decide +kernel⟩, by decide, Or.inl ⟨rfl, me_8 (List.mem_of_getElem? (i := 57) rfl), mp_4 (q := (m_239.1, _)) (List.mem_of_getElem? (i := 13) rfl)⟩⟩
theorem mk_240 : mOK m_240 0 2 := ⟨me_8 (List.mem_of_getElem? (i := 62) rfl), rfl, me_1 (List.mem_of_getElem? (i := 18) rfl), by decide +kernel, ⟨by decide +kernel, by decide +kernel, by decide +kernel⟩, by decide, Or.inl ⟨rfl, me_8 (List.mem_of_getElem? (i := 61) rfl), mp_4 (q := (m_240.1, _)) (List.mem_of_getElem? (i := 14) rfl)⟩⟩
theorem mk_241 : mOK m_241 0 0 := ⟨me_8 (List.mem_of_getElem? (i := 66) rfl), rfl, me_1 (List.mem_of_getElem? (i := 18) rfl), by decide +kernel, ⟨by decide +kernel, by decide +kernel, by decide +kernel⟩, by decide, Or.inl ⟨rfl, me_8 (List.mem_of_getElem? (i := 65) rfl), mp_4 (q := (m_241.1, _)) (List.mem_of_getElem? (i := 15) rfl)⟩⟩
theorem mk_242 : mOK m_242 0 1 := ⟨me_8 (List.mem_of_getElem? (i := 70) rfl), rfl, me_1 (List.mem_of_getElem? (i := 18) rfl), by decide +kernel, ⟨by decide +kernel, by decide +kernel, by decide +kernel⟩, by decide, Or.inl ⟨rfl, me_8 (List.mem_of_getElem? (i := 69) rfl), mp_5 (q := (m_242.1, _)) (List.mem_of_getElem? (i := 0) rfl)⟩⟩
theorem mk_243 : mOK m_243 0 1 := ⟨me_8 (List.mem_of_getElem? (i := 74) rfl), rfl, me_1 (List.mem_of_getElem? (i := 18) rfl), by decide +kernel, ⟨by decide +kernel, by decide +kernel, by decide +kernel⟩, by decide, Or.inl ⟨rfl, me_8 (List.mem_of_getElem? (i := 73) rfl), mp_5 (q := (m_243.1, _)) (List.mem_of_getElem? (i := 1) rfl)⟩⟩
theorem mk_244 : mOK m_244 0 1 := ⟨me_8 (List.mem_of_getElem? (i := 78) rfl), rfl, me_1 (List.mem_of_getElem? (i := 18) rfl), by decide +kernel, ⟨by decide +kernel, by decide +kernel, by decide +kernel⟩, by decide, Or.inl ⟨rfl, me_8 (List.mem_of_getElem? (i := 77) rfl), mp_5 (q := (m_244.1, _)) (List.mem_of_getElem? (i := 2) rfl)⟩⟩
theorem mk_245 : mOK m_245 0 1 := ⟨me_8 (List.mem_of_getElem? (i := 82) rfl), rfl, me_1 (List.mem_of_getElem? (i := 18) rfl), by decide +kernel, ⟨by decide +kernel, by decide +kernel, by decide +kernel⟩, by decide, Or.inl ⟨rfl, me_8 (List.mem_of_getElem? (i := 81) rfl), mp_5 (q := (m_245.1, _)) (List.mem_of_getElem? (i := 3) rfl)⟩⟩
theorem mk_246 : mOK m_246 0 1 := ⟨me_8 (List.mem_of_getElem? (i := 86) rfl), rfl, me_1 (List.mem_of_getElem? (i := 18) rfl), by decide +kernel, ⟨by decide +kernel, by decide +kernel, by decide +kernel⟩, by decide, Or.inl ⟨rfl, me_8 (List.mem_of_getElem? (i := 84) rfl), me_8 (List.mem_of_getElem? (i := 85) rfl)⟩⟩
theorem mk_247 : mOK m_247 0 0 := ⟨me_8 (List.mem_of_getElem? (i := 90) rfl), rfl, me_1 (List.mem_of_getElem? (i := 18) rfl), by decide +kernel, ⟨by decide +kernel, by decide +kernel, by decide +kernel⟩, by decide, Or.inl ⟨rfl, me_8 (List.mem_of_getElem? (i := 89) rfl), mp_5 (q := (m_247.1, _)) (List.mem_of_getElem? (i := 4) rfl)⟩⟩
theorem mk_248 : mOK m_248 0 2 := ⟨me_8 (List.mem_of_getElem? (i := 94) rfl), rfl, me_1 (List.mem_of_getElem? (i := 18) rfl), by decide +kernel, ⟨by decide +kernel, by decide +kernel, by decide +kernel⟩, by decide, Or.inl ⟨rfl, me_8 (List.mem_of_getElem? (i := 93) rfl), mp_5 (q := (m_248.1, _)) (List.mem_of_getElem? (i := 5) rfl)⟩⟩
theorem mk_249 : mOK m_249 0 1 := ⟨me_8 (List.mem_of_getElem? (i := 98) rfl), rfl, me_1 (List.mem_of_getElem? (i := 18) rfl), by decide +kernel, ⟨by decide +kernel, by decide +kernel, by decide +kernel⟩, by decide, Or.inl ⟨rfl, me_8 (List.mem_of_getElem? (i := 97) rfl), mp_5 (q := (m_249.1, _)) (List.mem_of_getElem? (i := 6) rfl)⟩⟩
theorem mk_250 : mOK m_250 0 1 := ⟨me_8 (List.mem_of_getElem? (i := 102) rfl), rfl, me_1 (List.mem_of_getElem? (i := 18) rfl), by decide +kernel, ⟨by decide +kernel, by decide +kernel, by decide +kernel⟩, by decide, Or.inl ⟨rfl, me_8 (List.mem_of_getElem? (i := 101) rfl), mp_5 (q := (m_250.1, _)) (List.mem_of_getElem? (i := 7) rfl)⟩⟩
theorem mk_251 : mOK m_251 0 1 := ⟨me_8 (List.mem_of_getElem? (i := 106) rfl), rfl, me_1 (List.mem_of_getElem? (i := 18) rfl), by decide +kernel, ⟨by decide +kernel, by decide +kernel, by decide +kernel⟩, by decide, Or.inl ⟨rfl, me_8 (List.mem_of_getElem? (i := 104) rfl), me_8 (List.mem_of_getElem? (i := 105) rfl)⟩⟩
theorem mk_252 : mOK m_252 0 1 := ⟨me_8 (List.mem_of_getElem? (i := 110) rfl), rfl, me_1 (List.mem_of_getElem? (i := 18) rfl), by decide +kernel, ⟨by decide +kernel, by decide +kernel, by decide +kernel⟩, by decide, Or.inl ⟨rfl, me_8 (List.mem_of_getElem? (i := 109) rfl), mp_5 (q := (m_252.1, _)) (List.mem_of_getElem? (i := 8) rfl)⟩⟩
theorem mk_253 : mOK m_253 0 1 := ⟨me_8 (List.mem_of_getElem? (i := 114) rfl), rfl, me_1 (List.mem_of_getElem? (i := 18) rfl), by decide +kernel, ⟨by decide +kernel, by decide +kernel, by decide +kernel⟩, by decide, Or.inl ⟨rfl, me_8 (List.mem_of_getElem? (i := 113) rfl), mp_5 (q := (m_253.1, _)) (List.mem_of_getElem? (i := 9) rfl)⟩⟩
theorem mk_254 : mOK m_254 0 2 := ⟨me_8 (List.mem_of_getElem? (i := 118) rfl), rfl, me_1 (List.mem_of_getElem? (i := 18) rfl), by decide +kernel, ⟨by decide +kernel, by decide +kernel, by decide +kernel⟩, by decide, Or.inl ⟨rfl, me_8 (List.mem_of_getElem? (i := 117) rfl), mp_5 (q := (m_254.1, _)) (List.mem_of_getElem? (i := 10) rfl)⟩⟩
theorem mk_255 : mOK m_255 1 1 := ⟨me_8 (List.mem_of_getElem? (i := 121) rfl), rfl, me_1 (List.mem_of_getElem? (i := 18) rfl), by decide +kernel, ⟨by decide +kernel, by decide +kernel, by decide +kernel⟩, by decide, Or.inr (Or.inl ⟨rfl, me_8 (List.mem_of_getElem? (i := 120) rfl)⟩)⟩
theorem mk_256 : mOK m_256 0 1 := ⟨me_8 (List.mem_of_getElem? (i := 125) rfl), rfl, me_1 (List.mem_of_getElem? (i := 18) rfl), by decide +kernel, ⟨by decide +kernel, by decide +kernel, by decide +kernel⟩, by decide, Or.inl ⟨rfl, me_8 (List.mem_of_getElem? (i := 124) rfl), mp_5 (q := (m_256.1, _)) (List.mem_of_getElem? (i := 11) rfl)⟩⟩
theorem mk_257 : mOK m_257 0 2 := ⟨me_8 (List.mem_of_getElem? (i := 129) rfl), rfl, me_1 (List.mem_of_getElem? (i := 18) rfl), by decide +kernel, ⟨by decide +kernel, by decide +kernel, by decide +kernel⟩, by decide, Or.inl ⟨rfl, me_8 (List.mem_of_getElem? (i := 128) rfl), mp_5 (q := (m_257.1, _)) (List.mem_of_getElem? (i := 12) rfl)⟩⟩
theorem mk_258 : mOK m_258 1 2 := ⟨me_8 (List.mem_of_getElem? (i := 132) rfl), rfl, me_1 (List.mem_of_getElem? (i := 18) rfl), by decide +kernel, ⟨by decide +kernel, by decide +kernel, by decide +kernel⟩, by decide, Or.inr (Or.inl ⟨rfl, me_8 (List.mem_of_getElem? (i := 131) rfl)⟩)⟩
theorem mk_259 : mOK m_259 0 1 := ⟨me_8 (List.mem_of_getElem? (i := 136) rfl), rfl, me_1 (List.mem_of_getElem? (i := 18) rfl), by decide +kernel, ⟨by decide +kernel, by decide +kernel, by decide +kernel⟩, by decide, Or.inl ⟨rfl, me_8 (List.mem_of_getElem? (i := 135) rfl), mp_5 (q := (m_259.1, _)) (List.mem_of_getElem? (i := 13) rfl)⟩⟩
theorem mk_260 : mOK m_260 0 1 := ⟨me_8 (List.mem_of_getElem? (i := 140) rfl), rfl, me_1 (List.mem_of_getElem? (i := 18) rfl), by decide +kernel, ⟨by decide +kernel, by decide +kernel, by decide +kernel⟩, by decide, Or.inl ⟨rfl, me_8 (List.mem_of_getElem? (i := 139) rfl), mp_5 (q := (m_260.1, _)) (List.mem_of_getElem? (i := 14) rfl)⟩⟩
theorem mk_261 : mOK m_261 0 1 := ⟨me_8 (List.mem_of_getElem? (i := 144) rfl), rfl, me_1 (List.mem_of_getElem? (i := 18) rfl), by decide +kernel, ⟨by decide +kernel, by decide +kernel, by decide +kernel⟩, by decide, Or.inl ⟨rfl, me_8 (List.mem_of_getElem? (i := 143) rfl), mp_5 (q := (m_261.1, _)) (List.mem_of_getElem? (i := 15) rfl)⟩⟩
theorem mk_262 : mOK m_262 0 2 := ⟨me_8 (List.mem_of_getElem? (i := 148) rfl), rfl, me_1 (List.mem_of_getElem? (i := 18) rfl), by decide +kernel, ⟨by decide +kernel, by decide +kernel, by decide +kernel⟩, by decide, Or.inl ⟨rfl, me_8 (List.mem_of_getElem? (i := 147) rfl), mp_6 (q := (m_262.1, _)) (List.mem_of_getElem? (i := 0) rfl)⟩⟩
theorem mk_263 : mOK m_263 0 1 := ⟨me_8 (List.mem_of_getElem? (i := 152) rfl), rfl, me_1 (List.mem_of_getElem? (i := 18) rfl), by decide +kernel, ⟨by decide +kernel, by decide +kernel, by decide +kernel⟩, by decide, Or.inl ⟨rfl, me_8 (List.mem_of_getElem? (i := 151) rfl), mp_6 (q := (m_263.1, _)) (List.mem_of_getElem? (i := 1) rfl)⟩⟩
theorem mk_264 : mOK m_264 0 1 := ⟨me_8 (List.mem_of_getElem? (i := 156) rfl), rfl, me_1 (List.mem_of_getElem? (i := 18) rfl), by decide +kernel, ⟨by decide +kernel, by decide +kernel, by decide +kernel⟩, by decide, Or.inl ⟨rfl, me_8 (List.mem_of_getElem? (i := 155) rfl), mp_6 (q := (m_264.1, _)) (List.mem_of_getElem? (i := 2) rfl)⟩⟩
theorem mk_265 : mOK m_265 0 2 := ⟨me_8 (List.mem_of_getElem? (i := 160) rfl), rfl, me_1 (List.mem_of_getElem? (i := 18) rfl), by decide +kernel, ⟨by decide +kernel, by decide +kernel, by decide +kernel⟩, by decide, Or.inl ⟨rfl, me_8 (List.mem_of_getElem? (i := 159) rfl), mp_6 (q := (m_265.1, _)) (List.mem_of_getElem? (i := 3) rfl)⟩⟩
theorem mk_266 : mOK m_266 1 1 := ⟨me_8 (List.mem_of_getElem? (i := 163) rfl), rfl, me_1 (List.mem_of_getElem? (i := 18) rfl), by decide +kernel, ⟨by decide +kernel, by decide +kernel, by decide +kernel⟩, by decide, Or.inr (Or.inl ⟨rfl, me_8 (List.mem_of_getElem? (i := 162) rfl)⟩)⟩
theorem mk_267 : mOK m_267 0 0 := ⟨me_8 (List.mem_of_getElem? (i := 167) rfl), rfl, me_1 (List.mem_of_getElem? (i := 18) rfl), by decide +kernel, ⟨by decide +kernel, by decide +kernel, by decide +kernel⟩, by decide, Or.inl ⟨rfl, me_8 (List.mem_of_getElem? (i := 166) rfl), mp_6 (q := (m_267.1, _)) (List.mem_of_getElem? (i := 4) rfl)⟩⟩
theorem mk_268 : mOK m_268 0 3 := ⟨me_8 (List.mem_of_getElem? (i := 171) rfl), rfl, me_1 (List.mem_of_getElem? (i := 18) rfl), by decide +kernel, ⟨by decide +kernel, by decide +kernel, by decide +kernel⟩, by decide, Or.inl ⟨rfl, me_8 (List.mem_of_getElem? (i := 169) rfl), me_8 (List.mem_of_getElem? (i := 170) rfl)⟩⟩
theorem mk_269 : mOK m_269 0 1 := ⟨me_8 (List.mem_of_getElem? (i := 175) rfl), rfl, me_1 (List.mem_of_getElem? (i := 18) rfl), by decide +kernel, ⟨by decide +kernel, by decide +kernel, by decide +kernel⟩, by decide, Or.inl ⟨rfl, me_8 (List.mem_of_getElem? (i := 174) rfl), mp_6 (q := (m_269.1, _)) (List.mem_of_getElem? (i := 5) rfl)⟩⟩
theorem mk_270 : mOK m_270 0 2 := ⟨me_8 (List.mem_of_getElem? (i := 179) rfl), rfl, me_1 (List.mem_of_getElem? (i := 18) rfl), by decide +kernel, ⟨by decide +kernel, by decide +kernel, by decide +kernel⟩, by decide, Or.inl ⟨rfl, me_8 (List.mem_of_getElem? (i := 177) rfl), me_8 (List.mem_of_getElem? (i := 178) rfl)⟩⟩
theorem mk_271 : mOK m_271 0 1 := ⟨me_8 (List.mem_of_getElem? (i := 183) rfl), rfl, me_1 (List.mem_of_getElem? (i := 18) rfl), by decide +kernel, ⟨by decide +kernel, by decide +kernel, by decide +kernel⟩, by decide, Or.inl ⟨rfl, me_8 (List.mem_of_getElem? (i := 182) rfl), mp_6 (q := (m_271.1, _)) (List.mem_of_getElem? (i := 6) rfl)⟩⟩
theorem mk_272 : mOK m_272 0 3 := ⟨me_8 (List.mem_of_getElem? (i := 187) rfl), rfl, me_1 (List.mem_of_getElem? (i := 18) rfl), by decide +kernel, ⟨by decide +kernel, by decide +kernel, by decide +kernel⟩, by decide, Or.inl ⟨rfl, me_8 (List.mem_of_getElem? (i := 185) rfl), me_8 (List.mem_of_getElem? (i := 186) rfl)⟩⟩
theorem mk_273 : mOK m_273 0 2 := ⟨me_8 (List.mem_of_getElem? (i := 191) rfl), rfl, me_1 (List.mem_of_getElem? (i := 18) rfl), by decide +kernel, ⟨by decide +kernel, by decide +kernel, by decide +kernel⟩, by decide, Or.inl ⟨rfl, me_8 (List.mem_of_getElem? (i := 190) rfl), mp_6 (q := (m_273.1, _)) (List.mem_of_getElem? (i := 7) rfl)⟩⟩
theorem mk_274 : mOK m_274 0 4 := ⟨me_8 (List.mem_of_getElem? (i := 195) rfl), rfl, me_1 (List.mem_of_getElem? (i := 18) rfl), by decide +kernel, ⟨by decide +kernel, by decide +kernel, by decide +kernel⟩, by decide, Or.inl ⟨rfl, me_8 (List.mem_of_getElem? (i := 193) rfl), me_8 (List.mem_of_getElem? (i := 194) rfl)⟩⟩
theorem mk_275 : mOK m_275 0 2 := ⟨me_8 (List.mem_of_getElem? (i := 199) rfl), rfl, me_1 (List.mem_of_getElem? (i := 18) rfl), by decide +kernel, ⟨by decide +kernel, by decide +kernel, by decide +kernel⟩, by decide, Or.inl ⟨rfl, me_8 (List.mem_of_getElem? (i := 198) rfl), mp_6 (q := (m_275.1, _)) (List.mem_of_getElem? (i := 8) rfl)⟩⟩
theorem mk_276 : mOK m_276 0 2 := ⟨me_8 (List.mem_of_getElem? (i := 203) rfl), rfl, me_1 (List.mem_of_getElem? (i := 18) rfl), by decide +kernel, ⟨by decide +kernel, by decide +kernel, by decide +kernel⟩, by decide, Or.inl ⟨rfl, me_8 (List.mem_of_getElem? (i := 202) rfl), mp_6 (q := (m_276.1, _)) (List.mem_of_getElem? (i := 9) rfl)⟩⟩
theorem mk_277 : mOK m_277 0 3 := ⟨me_8 (List.mem_of_getElem? (i := 207) rfl), rfl, me_1 (List.mem_of_getElem? (i := 18) rfl), by decide +kernel, ⟨by decide +kernel, by decide +kernel, by decide +kernel⟩, by decide, Or.inl ⟨rfl, me_8 (List.mem_of_getElem? (i := 206) rfl), mp_6 (q := (m_277.1, _)) (List.mem_of_getElem? (i := 10) rfl)⟩⟩
theorem mk_278 : mOK m_278 1 2 := ⟨me_8 (List.mem_of_getElem? (i := 210) rfl), rfl, me_1 (List.mem_of_getElem? (i := 18) rfl), by decide +kernel, ⟨by decide +kernel, by decide +kernel, by decide +kernel⟩, by decide, Or.inr (Or.inl ⟨rfl, me_8 (List.mem_of_getElem? (i := 209) rfl)⟩)⟩
theorem mk_279 : mOK m_279 0 3 := ⟨me_8 (List.mem_of_getElem? (i := 217) rfl), rfl, me_1 (List.mem_of_getElem? (i := 18) rfl), by decide +kernel, ⟨by decide +kernel, by decide +kernel, by decide +kernel⟩, by decide, Or.inl ⟨rfl, me_8 (List.mem_of_getElem? (i := 216) rfl), mp_6 (q := (m_279.1, _)) (List.mem_of_getElem? (i := 11) rfl)⟩⟩
theorem mk_280 : mOK m_280 0 2 := ⟨me_8 (List.mem_of_getElem? (i := 221) rfl), rfl, me_1 (List.mem_of_getElem? (i := 18) rfl), by decide +kernel, ⟨by decide +kernel, by decide +kernel, by decide +kernel⟩, by decide, Or.inl ⟨rfl, me_8 (List.mem_of_getElem? (i := 220) rfl), mp_6 (q := (m_280.1, _)) (List.mem_of_getElem? (i := 12) rfl)⟩⟩
theorem mk_281 : mOK m_281 0 1 := ⟨me_8 (List.mem_of_getElem? (i := 225) rfl), rfl, me_1 (List.mem_of_getElem? (i := 18) rfl), by decide +kernel, ⟨by decide +kernel, by decide +kernel, by decide +kernel⟩, by decide, Or.inl ⟨rfl, me_8 (List.mem_of_getElem? (i := 224) rfl), mp_6 (q := (m_281.1, _)) (List.mem_of_getElem? (i := 13) rfl)⟩⟩
theorem mk_282 : mOK m_282 0 3 := ⟨me_8 (List.mem_of_getElem? (i := 229) rfl), rfl, me_1 (List.mem_of_getElem? (i := 18) rfl), by decide +kernel, ⟨by decide +kernel, by decide +kernel, by decide +kernel⟩, by decide, Or.inl ⟨rfl, me_8 (List.mem_of_getElem? (i := 228) rfl), mp_6 (q := (m_282.1, _)) (List.mem_of_getElem? (i := 14) rfl)⟩⟩
theorem mk_283 : mOK m_283 0 1 := ⟨me_8 (List.mem_of_getElem? (i := 234) rfl), rfl, me_1 (List.mem_of_getElem? (i := 18) rfl), by decide +kernel, ⟨by decide +kernel, by decide +kernel, by decide +kernel⟩, by decide, Or.inl ⟨rfl, me_8 (List.mem_of_getElem? (i := 232) rfl), me_8 (List.mem_of_getElem? (i := 233) rfl)⟩⟩
theorem mk_284 : mOK m_284 1 3 := ⟨me_8 (List.mem_of_getElem? (i := 238) rfl), rfl, me_1 (List.mem_of_getElem? (i := 18) rfl), by decide +kernel, ⟨by decide +kernel, by decide +kernel, by decide +kernel⟩, by decide, Or.inr (Or.inl ⟨rfl, me_8 (List.mem_of_getElem? (i := 237) rfl)⟩)⟩
theorem mk_285 : mOK m_285 0 1 := ⟨me_9 (List.mem_of_getElem? (i := 2) rfl), rfl, me_1 (List.mem_of_getElem? (i := 18) rfl), by decide +kernel, ⟨by decide +kernel, by decide +kernel, by decide +kernel⟩, by decide, Or.inl ⟨rfl, me_9 (List.mem_of_getElem? (i := 1) rfl), mp_6 (q := (m_285.1, _)) (List.mem_of_getElem? (i := 15) rfl)⟩⟩
theorem mk_286 : mOK m_286 0 3 := ⟨me_9 (List.mem_of_getElem? (i := 6) rfl), rfl, me_1 (List.mem_of_getElem? (i := 18) rfl), by decide +kernel, ⟨by decide +kernel, by decide +kernel, by decide +kernel⟩, by decide, Or.inl ⟨rfl, me_9 (List.mem_of_getElem? (i := 4) rfl), me_9 (List.mem_of_getElem? (i := 5) rfl)⟩⟩
theorem mk_287 : mOK m_287 0 2 := ⟨me_9 (List.mem_of_getElem? (i := 10) rfl), rfl, me_1 (List.mem_of_getElem? (i := 18) rfl), by decide +kernel, ⟨by decide +kernel, by decide +kernel, by decide +kernel⟩, by decide, Or.inl ⟨rfl, me_9 (List.mem_of_getElem? (i := 9) rfl), mp_7 (q := (m_287.1, _)) (List.mem_of_getElem? (i := 0) rfl)⟩⟩
theorem mk_288 : mOK m_288 0 3 := ⟨me_9 (List.mem_of_getElem? (i := 15) rfl), rfl, me_1 (List.mem_of_getElem? (i := 18) rfl), by decide +kernel, ⟨by decide +kernel, by decide +kernel, by decide +kernel⟩, by decide, Or.inl ⟨rfl, me_9 (List.mem_of_getElem? (i := 14) rfl), mp_7 (q := (m_288.1, _)) (List.mem_of_getElem? (i := 1) rfl)⟩⟩
theorem mk_289 : mOK m_289 0 2 := ⟨me_9 (List.mem_of_getElem? (i := 19) rfl), rfl, me_1 (List.mem_of_getElem? (i := 18) rfl), by decide +kernel, ⟨by decide +kernel, by decide +kernel, by decide +kernel⟩, by decide, Or.inl ⟨rfl, me_9 (List.mem_of_getElem? (i := 18) rfl), mp_7 (q := (m_289.1, _)) (List.mem_of_getElem? (i := 2) rfl)⟩⟩
theorem mk_290 : mOK m_290 0 2 := ⟨me_9 (List.mem_of_getElem? (i := 24) rfl), rfl, me_1 (List.mem_of_getElem? (i := 18) rfl), by decide +kernel, ⟨by decide +kernel, by decide +kernel, by decide +kernel⟩, by decide, Or.inl ⟨rfl, me_9 (List.mem_of_getElem? (i := 22) rfl), me_9 (List.mem_of_getElem? (i := 23) rfl)⟩⟩
theorem mk_291 : mOK m_291 0 2 := ⟨me_9 (List.mem_of_getElem? (i := 28) rfl), rfl, me_1 (List.mem_of_getElem? (i := 18) rfl), by decide +kernel, ⟨by decide +kernel, by decide +kernel, by decide +kernel⟩, by decide, Or.inl ⟨rfl, me_9 (List.mem_of_getElem? (i := 26) rfl), me_9 (List.mem_of_getElem? (i := 27) rfl)⟩⟩
theorem mk_292 : mOK m_292 0 3 := ⟨me_9 (List.mem_of_getElem? (i := 32) rfl), rfl, me_1 (List.mem_of_getElem? (i := 18) rfl), by decide +kernel, ⟨by decide +kernel, by decide +kernel, by decide +kernel⟩, by decide, Or.inl ⟨rfl, me_9 (List.mem_of_getElem? (i := 30) rfl), me_9 (List.mem_of_getElem? (i := 31) rfl)⟩⟩
theorem mk_293 : mOK m_293 0 2 := ⟨me_9 (List.mem_of_getElem? (i := 36) rfl), rfl, me_1 (List.mem_of_getElem? (i := 18) rfl), by decide +kernel, ⟨by decide +kernel, by decide +kernel, by decide +kernel⟩, by decide, Or.inl ⟨rfl, me_9 (List.mem_of_getElem? (i := 34) rfl), me_9 (List.mem_of_getElem? (i := 35) rfl)⟩⟩
theorem mk_294 : mOK m_294 0 3 := ⟨me_9 (List.mem_of_getElem? (i := 40) rfl), rfl, me_1 (List.mem_of_getElem? (i := 18) rfl), by decide +kernel, ⟨by decide +kernel, by decide +kernel, by decide +kernel⟩, by decide, Or.inl ⟨rfl, me_9 (List.mem_of_getElem? (i := 38) rfl), me_9 (List.mem_of_getElem? (i := 39) rfl)⟩⟩
theorem mk_295 : mOK m_295 0 1 := ⟨me_9 (List.mem_of_getElem? (i := 44) rfl), rfl, me_1 (List.mem_of_getElem? (i := 18) rfl), by decide +kernel, ⟨by decide +kernel, by decide +kernel, by decide +kernel⟩, by decide, Or.inl ⟨rfl, me_9 (List.mem_of_getElem? (i := 42) rfl), me_9 (List.mem_of_getElem? (i := 43) rfl)⟩⟩
theorem mk_296 : mOK m_296 0 2 := ⟨me_9 (List.mem_of_getElem? (i := 49) rfl), rfl, me_1 (List.mem_of_getElem? (i := 18) rfl), by decide +kernel, ⟨by decide +kernel, by decide +kernel, by decide +kernel⟩, by decide, Or.inl ⟨rfl, me_9 (List.mem_of_getElem? (i := 47) rfl), me_9 (List.mem_of_getElem? (i := 48) rfl)⟩⟩
theorem mk_297 : mOK m_297 0 4 := ⟨me_9 (List.mem_of_getElem? (i := 53) rfl), rfl, me_1 (List.mem_of_getElem? (i := 18) rfl), by decide +kernel, ⟨by decide +kernel, by decide +kernel, by decide +kernel⟩, by decide, Or.inl ⟨rfl, me_9 (List.mem_of_getElem? (i := 51) rfl), me_9 (List.mem_of_getElem? (i := 52) rfl)⟩⟩
theorem mk_298 : mOK m_298 0 1 := ⟨me_9 (List.mem_of_getElem? (i := 57) rfl), rfl, me_1 (List.mem_of_getElem? (i := 18) rfl), by decide +kernel, ⟨by decide +kernel, by decide +kernel, by decide +kernel⟩, by decide, Or.inl ⟨rfl, me_9 (List.mem_of_getElem? (i := 55) rfl), me_9 (List.mem_of_getElem? (i := 56) rfl)⟩⟩
theorem mk_299 : mOK m_299 0 2 := ⟨me_9 (List.mem_of_getElem? (i := 61) rfl), rfl, me_1 (List.mem_of_getElem? (i := 18) rfl), by decide +kernel, ⟨by decide +kernel, by decide +kernel, by decide +kernel⟩, by decide, Or.inl ⟨rfl, me_9 (List.mem_of_getElem? (i := 59) rfl), me_9 (List.mem_of_getElem? (i := 60) rfl)⟩⟩
theorem mk_300 : mOK m_300 0 2 := ⟨me_9 (List.mem_of_getElem? (i := 65) rfl), rfl, me_1 (List.mem_of_getElem? (i := 18) rfl), by decide +kernel, ⟨by decide +kernel, by decide +kernel, by decide +kernel⟩, by decide, Or.inl ⟨rfl, me_9 (List.mem_of_getElem? (i := 63) rfl), me_9 (List.mem_of_getElem? (i := 64) rfl)⟩⟩
theorem mk_301 : mOK m_301 0 3 := ⟨me_9 (List.mem_of_getElem? (i := 69) rfl), rfl, me_1 (List.mem_of_getElem? (i := 18) rfl), by decide +kernel, ⟨by decide +kernel, by decide +kernel, by decide +kernel⟩, by decide, Or.inl ⟨rfl, me_9 (List.mem_of_getElem? (i := 67) rfl), me_9 (List.mem_of_getElem? (i := 68) rfl)⟩⟩
theorem mk_302 : mOK m_302 0 2 := ⟨me_9 (List.mem_of_getElem? (i := 73) rfl), rfl, me_1 (List.mem_of_getElem? (i := 18) rfl), by decide +kernel, ⟨by decide +kernel, by decide +kernel, by decide +kernel⟩, by decide, Or.inl ⟨rfl, me_9 (List.mem_of_getElem? (i := 72) rfl), mp_7 (q := (m_302.1, _)) (List.mem_of_getElem? (i := 3) rfl)⟩⟩
theorem mk_303 : mOK m_303 0 1 := ⟨me_9 (List.mem_of_getElem? (i := 77) rfl), rfl, me_1 (List.mem_of_getElem? (i := 18) rfl), by decide +kernel, ⟨by decide +kernel, by decide +kernel, by decide +kernel⟩, by decide, Or.inl ⟨rfl, me_9 (List.mem_of_getElem? (i := 75) rfl), me_9 (List.mem_of_getElem? (i := 76) rfl)⟩⟩
theorem mk_304 : mOK m_304 0 3 := ⟨me_9 (List.mem_of_getElem? (i := 81) rfl), rfl, me_1 (List.mem_of_getElem? (i := 18) rfl), by decide +kernel, ⟨by decide +kernel, by decide +kernel, by decide +kernel⟩, by decide, Or.inl ⟨rfl, me_9 (List.mem_of_getElem? (i := 79) rfl), me_9 (List.mem_of_getElem? (i := 80) rfl)⟩⟩
theorem mk_305 : mOK m_305 1 1 := ⟨me_9 (List.mem_of_getElem? (i := 84) rfl), rfl, me_1 (List.mem_of_getElem? (i := 18) rfl), by decide +kernel, ⟨by decide +kernel, by decide +kernel, by decide +kernel⟩, by decide, Or.inr (Or.inl ⟨rfl, me_9 (List.mem_of_getElem? (i := 83) rfl)⟩)⟩
theorem mk_306 : mOK m_306 0 1 := ⟨me_9 (List.mem_of_getElem? (i := 88) rfl), rfl, me_1 (List.mem_of_getElem? (i := 18) rfl), by decide +kernel, ⟨by decide +kernel, by decide +kernel, by decide +kernel⟩, by decide, Or.inl ⟨rfl, me_9 (List.mem_of_getElem? (i := 87) rfl), mp_7 (q := (m_306.1, _)) (List.mem_of_getElem? (i := 4) rfl)⟩⟩
theorem mk_307 : mOK m_307 0 1 := ⟨me_9 (List.mem_of_getElem? (i := 92) rfl), rfl, me_1 (List.mem_of_getElem? (i := 18) rfl), by decide +kernel, ⟨by decide +kernel, by decide +kernel, by decide +kernel⟩, by decide, Or.inl ⟨rfl, me_9 (List.mem_of_getElem? (i := 91) rfl), mp_7 (q := (m_307.1, _)) (List.mem_of_getElem? (i := 5) rfl)⟩⟩
theorem mk_308 : mOK m_308 0 1 := ⟨me_9 (List.mem_of_getElem? (i := 96) rfl), rfl, me_1 (List.mem_of_getElem? (i := 18) rfl), by decide +kernel, ⟨by decide +kernel, by decide +kernel, by decide +kernel⟩, by decide, Or.inl ⟨rfl, me_9 (List.mem_of_getElem? (i := 94) rfl), me_9 (List.mem_of_getElem? (i := 95) rfl)⟩⟩
theorem mk_309 : mOK m_309 0 3 := ⟨me_9 (List.mem_of_getElem? (i := 100) rfl), rfl, me_1 (List.mem_of_getElem? (i := 18) rfl), by decide +kernel, ⟨by decide +kernel, by decide +kernel, by decide +kernel⟩, by decide, Or.inl ⟨rfl, me_9 (List.mem_of_getElem? (i := 98) rfl), me_9 (List.mem_of_getElem? (i := 99) rfl)⟩⟩
theorem mk_310 : mOK m_310 0 1 := ⟨me_9 (List.mem_of_getElem? (i := 104) rfl), rfl, me_1 (List.mem_of_getElem? (i := 18) rfl), by decide +kernel, ⟨by decide +kernel, by decide +kernel, by decide +kernel⟩, by decide, Or.inl ⟨rfl, me_9 (List.mem_of_getElem? (i := 102) rfl), me_9 (List.mem_of_getElem? (i := 103) rfl)⟩⟩
theorem mk_311 : mOK m_311 0 1 := ⟨me_9 (List.mem_of_getElem? (i := 108) rfl), rfl, me_1 (List.mem_of_getElem? (i := 18) rfl), by decide +kernel, ⟨by decide +kernel, by decide +kernel, by decide +kernel⟩, by decide, Or.inl ⟨rfl, me_9 (List.mem_of_getElem? (i := 106) rfl), me_9 (List.mem_of_getElem? (i := 107) rfl)⟩⟩
theorem mk_312 : mOK m_312 0 2 := ⟨me_9 (List.mem_of_getElem? (i := 112) rfl), rfl, me_1 (List.mem_of_getElem? (i := 18) rfl), by decide +kernel, ⟨by decide +kernel, by decide +kernel, by decide +kernel⟩, by decide, Or.inl ⟨rfl, me_9 (List.mem_of_getElem? (i := 111) rfl), mp_7 (q := (m_312.1, _)) (List.mem_of_getElem? (i := 6) rfl)⟩⟩
theorem mk_313 : mOK m_313 0 3 := ⟨me_9 (List.mem_of_getElem? (i := 116) rfl), rfl, me_1 (List.mem_of_getElem? (i := 18) rfl), by decide +kernel, ⟨by decide +kernel, by decide +kernel, by decide +kernel⟩, by decide, Or.inl ⟨rfl, me_9 (List.mem_of_getElem? (i := 115) rfl), mp_7 (q := (m_313.1, _)) (List.mem_of_getElem? (i := 7) rfl)⟩⟩
theorem mk_314 : mOK m_314 0 1 := ⟨me_9 (List.mem_of_getElem? (i := 120) rfl), rfl, me_1 (List.mem_of_getElem? (i := 18) rfl), by decide +kernel, ⟨by decide +kernel, by decide +kernel, by decide +kernel⟩, by decide, Or.inl ⟨rfl, me_9 (List.mem_of_getElem? (i := 119) rfl), mp_7 (q := (m_314.1, _)) (List.mem_of_getElem? (i := 8) rfl)⟩⟩
theorem mk_315 : mOK m_315 0 1 := ⟨me_9 (List.mem_of_getElem? (i := 124) rfl), rfl, me_1 (List.mem_of_getElem? (i := 18) rfl), by decide +kernel, ⟨by decide +kernel, by decide +kernel, by decide +kernel⟩, by decide, Or.inl ⟨rfl, me_9 (List.mem_of_getElem? (i := 123) rfl), mp_7 (q := (m_315.1, _)) (List.mem_of_getElem? (i := 9) rfl)⟩⟩
theorem mk_316 : mOK m_316 0 5 := ⟨me_9 (List.mem_of_getElem? (i := 128) rfl), rfl, me_1 (List.mem_of_getElem? (i := 18) rfl), by decide +kernel, ⟨by decide +kernel, by decide +kernel, by decide +kernel⟩, by decide, Or.inl ⟨rfl, me_9 (List.mem_of_getElem? (i := 126) rfl), me_9 (List.mem_of_getElem? (i := 127) rfl)⟩⟩
theorem mk_317 : mOK m_317 0 1 := ⟨me_9 (List.mem_of_getElem? (i := 132) rfl), rfl, me_1 (List.mem_of_getElem? (i := 18) rfl), by decide +kernel, ⟨by decide +kernel, by decide +kernel, by decide +kernel⟩, by decide, Or.inl ⟨rfl, me_9 (List.mem_of_getElem? (i := 130) rfl), me_9 (List.mem_of_getElem? (i := 131) rfl)⟩⟩
theorem mk_318 : mOK m_318 0 2 := ⟨me_9 (List.mem_of_getElem? (i := 136) rfl), rfl, me_1 (List.mem_of_getElem? (i := 18) rfl), by decide +kernel, ⟨by decide +kernel, by decide +kernel, by decide +kernel⟩, by decide, Or.inl ⟨rfl, me_9 (List.mem_of_getElem? (i := 135) rfl), mp_7 (q := (m_318.1, _)) (List.mem_of_getElem? (i := 10) rfl)⟩⟩
theorem mk_319 : mOK m_319 0 3 := ⟨me_9 (List.mem_of_getElem? (i := 140) rfl), rfl, me_1 (List.mem_of_getElem? (i := 18) rfl), by decide +kernel, ⟨by decide +kernel, by decide +kernel, by decide +kernel⟩, by decide, Or.inl ⟨rfl, me_9 (List.mem_of_getElem? (i := 138) rfl), me_9 (List.mem_of_getElem? (i := 139) rfl)⟩⟩
theorem mk_320 : mOK m_320 0 2 := ⟨me_9 (List.mem_of_getElem? (i := 144) rfl), rfl, me_1 (List.mem_of_getElem? (i := 18) rfl), by decide +kernel, ⟨by decide +kernel, by decide +kernel, by decide +kernel⟩, by decide, Or.inl ⟨rfl, me_9 (List.mem_of_getElem? (i := 142) rfl), me_9 (List.mem_of_getElem? (i := 143) rfl)⟩⟩
theorem mk_321 : mOK m_321 0 3 := ⟨me_9 (List.mem_of_getElem? (i := 148) rfl), rfl, me_1 (List.mem_of_getElem? (i := 18) rfl), by decide +kernel, ⟨by decide +kernel, by decide +kernel, by decide +kernel⟩, by decide, Or.inl ⟨rfl, me_9 (List.mem_of_getElem? (i := 147) rfl), mp_7 (q := (m_321.1, _)) (List.mem_of_getElem? (i := 11) rfl)⟩⟩
theorem mk_322 : mOK m_322 0 3 := ⟨me_9 (List.mem_of_getElem? (i := 153) rfl), rfl, me_1 (List.mem_of_getElem? (i := 18) rfl), by decide +kernel, ⟨by decide +kernel, by decide +kernel, by decide +kernel⟩, by decide, Or.inl ⟨rfl, me_9 (List.mem_of_getElem? (i := 152) rfl), mp_7 (q := (m_322.1, _)) (List.mem_of_getElem? (i := 12) rfl)⟩⟩
theorem mk_323 : mOK m_323 1 1 := ⟨me_9 (List.mem_of_getElem? (i := 156) rfl), rfl, me_1 (List.mem_of_getElem? (i := 18) rfl), by decide +kernel, ⟨by decide +kernel, by decide +kernel, by decide +kernel⟩, by decide, Or.inr (Or.inl ⟨rfl, me_9 (List.mem_of_getElem? (i := 155) rfl)⟩)⟩
theorem mk_324 : mOK m_324 0 1 := ⟨me_9 (List.mem_of_getElem? (i := 160) rfl), rfl, me_1 (List.mem_of_getElem? (i := 18) rfl), by decide +kernel, ⟨by decide +kernel, by decide +kernel, by decide +kernel⟩, by decide, Or.inl ⟨rfl, me_9 (List.mem_of_getElem? (i := 159) rfl), mp_7 (q := (m_324.1, _)) (List.mem_of_getElem? (i := 13) rfl)⟩⟩
theorem mk_325 : mOK m_325 0 3 := ⟨me_9 (List.mem_of_getElem? (i := 164) rfl), rfl, me_1 (List.mem_of_getElem? (i := 18) rfl), by decide +kernel, ⟨by decide +kernel, by decide +kernel, by decide +kernel⟩, by decide, Or.inl ⟨rfl, me_9 (List.mem_of_getElem? (i := 162) rfl), me_9 (List.mem_of_getElem? (i := 163) rfl)⟩⟩
theorem mk_326 : mOK m_326 0 4 := ⟨me_9 (List.mem_of_getElem? (i := 168) rfl), rfl, me_1 (List.mem_of_getElem? (i := 18) rfl), by decide +kernel, ⟨by decide +kernel, by decide +kernel, by decide +kernel⟩, by decide, Or.inl ⟨rfl, me_9 (List.mem_of_getElem? (i := 167) rfl), mp_7 (q := (m_326.1, _)) (List.mem_of_getElem? (i := 14) rfl)⟩⟩
theorem mk_327 : mOK m_327 1 2 := ⟨me_9 (List.mem_of_getElem? (i := 172) rfl), rfl, me_1 (List.mem_of_getElem? (i := 18) rfl), by decide +kernel, ⟨by decide +kernel, by decide +kernel, by decide +kernel⟩, by decide, Or.inr (Or.inl ⟨rfl, me_9 (List.mem_of_getElem? (i := 171) rfl)⟩)⟩
theorem mk_328 : mOK m_328 0 2 := ⟨me_9 (List.mem_of_getElem? (i := 176) rfl), rfl, me_1 (List.mem_of_getElem? (i := 18) rfl), by decide +kernel, ⟨by decide +kernel, by decide +kernel, by decide +kernel⟩, by decide, Or.inl ⟨rfl, me_9 (List.mem_of_getElem? (i := 174) rfl), me_9 (List.mem_of_getElem? (i := 175) rfl)⟩⟩
theorem mk_329 : mOK m_329 0 3 := ⟨me_9 (List.mem_of_getElem? (i := 180) rfl), rfl, me_1 (List.mem_of_getElem? (i := 18) rfl), by decide +kernel, ⟨by decide +kernel, by decide +kernel, by decide +kernel⟩, by decide, Or.inl ⟨rfl, me_9 (List.mem_of_getElem? (i := 178) rfl), me_9 (List.mem_of_getElem? (i := 179) rfl)⟩⟩
theorem mk_330 : mOK m_330 0 1 := ⟨me_9 (List.mem_of_getElem? (i := 184) rfl), rfl, me_1 (List.mem_of_getElem? (i := 18) rfl), by decide +kernel, ⟨by decide +kernel, by decide +kernel, by decide +kernel⟩, by decide, Or.inl ⟨rfl, me_9 (List.mem_of_getElem? (i := 182) rfl), me_9 (List.mem_of_getElem? (i := 183) rfl)⟩⟩
theorem mk_331 : mOK m_331 0 1 := ⟨me_9 (List.mem_of_getElem? (i := 188) rfl), rfl, me_1 (List.mem_of_getElem? (i := 18) rfl), by decide +kernel, ⟨by decide +kernel, by decide +kernel, by decide +kernel⟩, by decide, Or.inl ⟨rfl, me_9 (List.mem_of_getElem? (i := 187) rfl), mp_7 (q := (m_331.1, _)) (List.mem_of_getElem? (i := 15) rfl)⟩⟩
theorem mk_332 : mOK m_332 0 0 := ⟨me_9 (List.mem_of_getElem? (i := 192) rfl), rfl, me_1 (List.mem_of_getElem? (i := 18) rfl), by decide +kernel, ⟨by decide +kernel, by decide +kernel, by decide +kernel⟩, by decide, Or.inl ⟨rfl, me_9 (List.mem_of_getElem? (i := 190) rfl), me_9 (List.mem_of_getElem? (i := 191) rfl)⟩⟩
theorem mk_333 : mOK m_333 0 3 := ⟨me_9 (List.mem_of_getElem? (i := 196) rfl), rfl, me_1 (List.mem_of_getElem? (i := 18) rfl), by decide +kernel, ⟨by decide +kernel, by decide +kernel, by decide +kernel⟩, by decide, Or.inl ⟨rfl, me_9 (List.mem_of_getElem? (i := 194) rfl), me_9 (List.mem_of_getElem? (i := 195) rfl)⟩⟩
theorem mk_334 : mOK m_334 0 3 := ⟨me_9 (List.mem_of_getElem? (i := 200) rfl), rfl, me_1 (List.mem_of_getElem? (i := 18) rfl), by decide +kernel, ⟨by decide +kernel, by decide +kernel, by decide +kernel⟩, by decide, Or.inl ⟨rfl, me_9 (List.mem_of_getElem? (i := 199) rfl), mp_8 (q := (m_334.1, _)) (List.mem_of_getElem? (i := 0) rfl)⟩⟩
theorem mk_335 : mOK m_335 0 3 := ⟨me_9 (List.mem_of_getElem? (i := 204) rfl), rfl, me_1 (List.mem_of_getElem? (i := 18) rfl), by decide +kernel, ⟨by decide +kernel, by decide +kernel, by decide +kernel⟩, by decide, Or.inl ⟨rfl, me_9 (List.mem_of_getElem? (i := 203) rfl), mp_8 (q := (m_335.1, _)) (List.mem_of_getElem? (i := 1) rfl)⟩⟩
theorem mk_336 : mOK m_336 0 2 := ⟨me_9 (List.mem_of_getElem? (i := 208) rfl), rfl, me_1 (List.mem_of_getElem? (i := 18) rfl), by decide +kernel, ⟨by decide +kernel, by decide +kernel, by decide +kernel⟩, by decide, Or.inl ⟨rfl, me_9 (List.mem_of_getElem? (i := 207) rfl), mp_8 (q := (m_336.1, _)) (List.mem_of_getElem? (i := 2) rfl)⟩⟩
theorem mk_337 : mOK m_337 0 2 := ⟨me_9 (List.mem_of_getElem? (i := 212) rfl), rfl, me_1 (List.mem_of_getElem? (i := 18) rfl), by decide +kernel, ⟨by decide +kernel, by decide +kernel, by decide +kernel⟩, by decide, Or.inl ⟨rfl, me_9 (List.mem_of_getElem? (i := 211) rfl), mp_8 (q := (m_337.1, _)) (List.mem_of_getElem? (i := 3) rfl)⟩⟩
theorem mk_338 : mOK m_338 0 2 := ⟨me_9 (List.mem_of_getElem? (i := 216) rfl), rfl, me_1 (List.mem_of_getElem? (i := 18) rfl), by decide +kernel, ⟨by decide +kernel, by decide +kernel, by decide +kernel⟩, by decide, Or.inl ⟨rfl, me_9 (List.mem_of_getElem? (i := 215) rfl), mp_8 (q := (m_338.1, _)) (List.mem_of_getElem? (i := 4) rfl)⟩⟩
theorem mk_339 : mOK m_339 0 4 := ⟨me_9 (List.mem_of_getElem? (i := 220) rfl), rfl, me_1 (List.mem_of_getElem? (i := 18) rfl), by decide +kernel, ⟨by decide +kernel, by decide +kernel, by decide +kernel⟩, by decide, Or.inl ⟨rfl, me_9 (List.mem_of_getElem? (i := 218) rfl), me_9 (List.mem_of_getElem? (i := 219) rfl)⟩⟩
theorem mk_340 : mOK m_340 0 1 := ⟨me_9 (List.mem_of_getElem? (i := 224) rfl), rfl, me_1 (List.mem_of_getElem? (i := 18) rfl), by decide +kernel, ⟨by decide +kernel, by decide +kernel, by decide +kernel⟩, by decide, Or.inl ⟨rfl, me_9 (List.mem_of_getElem? (i := 222) rfl), me_9 (List.mem_of_getElem? (i := 223) rfl)⟩⟩
theorem mk_341 : mOK m_341 0 1 := ⟨me_9 (List.mem_of_getElem? (i := 228) rfl), rfl, me_1 (List.mem_of_getElem? (i := 18) rfl), by decide +kernel, ⟨by decide +kernel, by decide +kernel, by decide +kernel⟩, by decide, Or.inl ⟨rfl, me_9 (List.mem_of_getElem? (i := 226) rfl), me_9 (List.mem_of_getElem? (i := 227) rfl)⟩⟩
theorem mk_342 : mOK m_342 0 1 := ⟨me_9 (List.mem_of_getElem? (i := 232) rfl), rfl, me_1 (List.mem_of_getElem? (i := 18) rfl), by decide +kernel, ⟨by decide +kernel, by decide +kernel, by decide +kernel⟩, by decide, Or.inl ⟨rfl, me_9 (List.mem_of_getElem? (i := 231) rfl), mp_8 (q := (m_342.1, _)) (List.mem_of_getElem? (i := 5) rfl)⟩⟩
theorem mk_343 : mOK m_343 0 1 := ⟨me_9 (List.mem_of_getElem? (i := 236) rfl), rfl, me_1 (List.mem_of_getElem? (i := 18) rfl), by decide +kernel, ⟨by decide +kernel, by decide +kernel, by decide +kernel⟩, by decide, Or.inl ⟨rfl, me_9 (List.mem_of_getElem? (i := 235) rfl), mp_8 (q := (m_343.1, _)) (List.mem_of_getElem? (i := 6) rfl)⟩⟩
theorem mk_344 : mOK m_344 0 1 := ⟨me_10 (List.mem_of_getElem? (i := 0) rfl), rfl, me_1 (List.mem_of_getElem? (i := 18) rfl), by decide +kernel, ⟨by decide +kernel, by decide +kernel, by decide +kernel⟩, by decide, Or.inl ⟨rfl, me_9 (List.mem_of_getElem? (i := 238) rfl), me_9 (List.mem_of_getElem? (i := 239) rfl)⟩⟩
theorem mk_345 : mOK m_345 0 1 := ⟨me_10 (List.mem_of_getElem? (i := 4) rfl), rfl, me_1 (List.mem_of_getElem? (i := 18) rfl), by decide +kernel, ⟨by decide +kernel, by decide +kernel, by decide +kernel⟩, by decide, Or.inl ⟨rfl, me_10 (List.mem_of_getElem? (i := 2) rfl), me_10 (List.mem_of_getElem? (i := 3) rfl)⟩⟩
theorem mk_346 : mOK m_346 0 1 := ⟨me_10 (List.mem_of_getElem? (i := 9) rfl), rfl, me_1 (List.mem_of_getElem? (i := 18) rfl), by decide +kernel, ⟨by decide +kernel, by decide +kernel, by decide +kernel⟩, by decide, Or.inl ⟨rfl, me_10 (List.mem_of_getElem? (i := 8) rfl), mp_8 (q := (m_346.1, _)) (List.mem_of_getElem? (i := 7) rfl)⟩⟩
theorem mk_347 : mOK m_347 0 2 := ⟨me_10 (List.mem_of_getElem? (i := 13) rfl), rfl, me_1 (List.mem_of_getElem? (i := 18) rfl), by decide +kernel, ⟨by decide +kernel, by decide +kernel, by decide +kernel⟩, by decide, Or.inl ⟨rfl, me_10 (List.mem_of_getElem? (i := 12) rfl), mp_8 (q := (m_347.1, _)) (List.mem_of_getElem? (i := 8) rfl)⟩⟩
theorem mk_348 : mOK m_348 0 0 := ⟨me_10 (List.mem_of_getElem? (i := 17) rfl), rfl, me_1 (List.mem_of_getElem? (i := 18) rfl), by decide +kernel, ⟨by decide +kernel, by decide +kernel, by decide +kernel⟩, by decide, Or.inl ⟨rfl, me_10 (List.mem_of_getElem? (i := 15) rfl), me_10 (List.mem_of_getElem? (i := 16) rfl)⟩⟩
theorem mk_349 : mOK m_349 0 2 := ⟨me_10 (List.mem_of_getElem? (i := 21) rfl), rfl, me_1 (List.mem_of_getElem? (i := 18) rfl), by decide +kernel, ⟨by decide +kernel, by decide +kernel, by decide +kernel⟩, by decide, Or.inl ⟨rfl, me_10 (List.mem_of_getElem? (i := 19) rfl), me_10 (List.mem_of_getElem? (i := 20) rfl)⟩⟩
theorem mk_350 : mOK m_350 0 1 := ⟨me_10 (List.mem_of_getElem? (i := 25) rfl), rfl, me_1 (List.mem_of_getElem? (i := 18) rfl), by decide +kernel, ⟨by decide +kernel, by decide +kernel, by decide +kernel⟩, by decide, Or.inl ⟨rfl, me_10 (List.mem_of_getElem? (i := 23) rfl), me_10 (List.mem_of_getElem? (i := 24) rfl)⟩⟩
theorem mk_351 : mOK m_351 0 1 := ⟨me_10 (List.mem_of_getElem? (i := 30) rfl), rfl, me_1 (List.mem_of_getElem? (i := 18) rfl), by decide +kernel, ⟨by decide +kernel, by decide +kernel, by decide +kernel⟩, by decide, Or.inl ⟨rfl, me_10 (List.mem_of_getElem? (i := 29) rfl), mp_8 (q := (m_351.1, _)) (List.mem_of_getElem? (i := 9) rfl)⟩⟩
theorem mk_352 : mOK m_352 0 1 := ⟨me_10 (List.mem_of_getElem? (i := 34) rfl), rfl, me_1 (List.mem_of_getElem? (i := 18) rfl), by decide +kernel, ⟨by decide +kernel, by decide +kernel, by decide +kernel⟩, by decide, Or.inl ⟨rfl, me_10 (List.mem_of_getElem? (i := 33) rfl), mp_8 (q := (m_352.1, _)) (List.mem_of_getElem? (i := 10) rfl)⟩⟩
theorem mk_353 : mOK m_353 0 4 := ⟨me_10 (List.mem_of_getElem? (i := 38) rfl), rfl, me_1 (List.mem_of_getElem? (i := 18) rfl), by decide +kernel, ⟨by decide +kernel, by decide +kernel, by decide +kernel⟩, by decide, Or.inl ⟨rfl, me_10 (List.mem_of_getElem? (i := 37) rfl), mp_8 (q := (m_353.1, _)) (List.mem_of_getElem? (i := 11) rfl)⟩⟩
theorem mk_354 : mOK m_354 1 1 := ⟨me_10 (List.mem_of_getElem? (i := 41) rfl), rfl, me_1 (List.mem_of_getElem? (i := 18) rfl), by decide +kernel, ⟨by decide +kernel, by decide +kernel, by decide +kernel⟩, by decide, Or.inr (Or.inl ⟨rfl, me_10 (List.mem_of_getElem? (i := 40) rfl)⟩)⟩
theorem mk_355 : mOK m_355 0 1 := ⟨me_10 (List.mem_of_getElem? (i := 45) rfl), rfl, me_1 (List.mem_of_getElem? (i := 18) rfl), by decide +kernel, ⟨by decide +kernel, by decide +kernel, by decide +kernel⟩, by decide, Or.inl ⟨rfl, me_10 (List.mem_of_getElem? (i := 44) rfl), mp_8 (q := (m_355.1, _)) (List.mem_of_getElem? (i := 12) rfl)⟩⟩
theorem mk_356 : mOK m_356 0 1 := ⟨me_10 (List.mem_of_getElem? (i := 49) rfl), rfl, me_1 (List.mem_of_getElem? (i := 18) rfl), by decide +kernel, ⟨by decide +kernel, by decide +kernel, by decide +kernel⟩, by decide, Or.inl ⟨rfl, me_10 (List.mem_of_getElem? (i := 48) rfl), mp_8 (q := (m_356.1, _)) (List.mem_of_getElem? (i := 13) rfl)⟩⟩
theorem mk_357 : mOK m_357 0 1 := ⟨me_10 (List.mem_of_getElem? (i := 53) rfl), rfl, me_1 (List.mem_of_getElem? (i := 18) rfl), by decide +kernel, ⟨by decide +kernel, by decide +kernel, by decide +kernel⟩, by decide, Or.inl ⟨rfl, me_10 (List.mem_of_getElem? (i := 52) rfl), mp_8 (q := (m_357.1, _)) (List.mem_of_getElem? (i := 14) rfl)⟩⟩
theorem mk_358 : mOK m_358 0 1 := ⟨me_10 (List.mem_of_getElem? (i := 58) rfl), rfl, me_1 (List.mem_of_getElem? (i := 18) rfl), by decide +kernel, ⟨by decide +kernel, by decide +kernel, by decide +kernel⟩, by decide, Or.inl ⟨rfl, me_10 (List.mem_of_getElem? (i := 57) rfl), mp_8 (q := (m_358.1, _)) (List.mem_of_getElem? (i := 15) rfl)⟩⟩
theorem mk_359 : mOK m_359 0 1 := ⟨me_10 (List.mem_of_getElem? (i := 62) rfl), rfl, me_1 (List.mem_of_getElem? (i := 18) rfl), by decide +kernel, ⟨by decide +kernel, by decide +kernel, by decide +kernel⟩, by decide, Or.inl ⟨rfl, me_10 (List.mem_of_getElem? (i := 61) rfl), mp_9 (q := (m_359.1, _)) (List.mem_of_getElem? (i := 0) rfl)⟩⟩
theorem mk_360 : mOK m_360 0 1 := ⟨me_10 (List.mem_of_getElem? (i := 66) rfl), rfl, me_1 (List.mem_of_getElem? (i := 18) rfl), by decide +kernel, ⟨by decide +kernel, by decide +kernel, by decide +kernel⟩, by decide, Or.inl ⟨rfl, me_10 (List.mem_of_getElem? (i := 64) rfl), me_10 (List.mem_of_getElem? (i := 65) rfl)⟩⟩
theorem mk_361 : mOK m_361 0 2 := ⟨me_10 (List.mem_of_getElem? (i := 70) rfl), rfl, me_1 (List.mem_of_getElem? (i := 18) rfl), by decide +kernel, ⟨by decide +kernel, by decide +kernel, by decide +kernel⟩, by decide, Or.inl ⟨rfl, me_10 (List.mem_of_getElem? (i := 68) rfl), me_10 (List.mem_of_getElem? (i := 69) rfl)⟩⟩
theorem mk_362 : mOK m_362 0 0 := ⟨me_10 (List.mem_of_getElem? (i := 74) rfl), rfl, me_1 (List.mem_of_getElem? (i := 18) rfl), by decide +kernel, ⟨by decide +kernel, by decide +kernel, by decide +kernel⟩, by decide, Or.inl ⟨rfl, me_10 (List.mem_of_getElem? (i := 72) rfl), me_10 (List.mem_of_getElem? (i := 73) rfl)⟩⟩
theorem mk_363 : mOK m_363 0 2 := ⟨me_10 (List.mem_of_getElem? (i := 78) rfl), rfl, me_1 (List.mem_of_getElem? (i := 18) rfl), by decide +kernel, ⟨by decide +kernel, by decide +kernel, by decide +kernel⟩, by decide, Or.inl ⟨rfl, me_10 (List.mem_of_getElem? (i := 77) rfl), mp_9 (q := (m_363.1, _)) (List.mem_of_getElem? (i := 1) rfl)⟩⟩
theorem mk_364 : mOK m_364 0 0 := ⟨me_10 (List.mem_of_getElem? (i := 82) rfl), rfl, me_1 (List.mem_of_getElem? (i := 18) rfl), by decide +kernel, ⟨by decide +kernel, by decide +kernel, by decide +kernel⟩, by decide, Or.inl ⟨rfl, me_10 (List.mem_of_getElem? (i := 80) rfl), me_10 (List.mem_of_getElem? (i := 81) rfl)⟩⟩
theorem mk_365 : mOK m_365 1 2 := ⟨me_1 (List.mem_of_getElem? (i := 38) rfl), rfl, me_1 (List.mem_of_getElem? (i := 3) rfl), by decide +kernel, ⟨by decide +kernel, by decide +kernel, by decide +kernel⟩, by decide, Or.inr (Or.inl ⟨rfl, me_1 (List.mem_of_getElem? (i := 37) rfl)⟩)⟩
theorem mk_366 : mOK m_366 1 4 := ⟨me_3 (List.mem_of_getElem? (i := 126) rfl), rfl, me_1 (List.mem_of_getElem? (i := 3) rfl), by decide +kernel, ⟨by decide +kernel, by decide +kernel, by decide +kernel⟩, by decide, Or.inr (Or.inl ⟨rfl, me_3 (List.mem_of_getElem? (i := 125) rfl)⟩)⟩
theorem mk_367 : mOK m_367 1 3 := ⟨me_3 (List.mem_of_getElem? (i := 129) rfl), rfl, me_1 (List.mem_of_getElem? (i := 3) rfl), by decide +kernel, ⟨by decide +kernel, by decide +kernel, by decide +kernel⟩, by decide, Or.inr (Or.inl ⟨rfl, me_3 (List.mem_of_getElem? (i := 128) rfl)⟩)⟩
theorem mk_368 : mOK m_368 1 2 := ⟨me_6 (List.mem_of_getElem? (i := 144) rfl), rfl, me_1 (List.mem_of_getElem? (i := 3) rfl), by decide +kernel, ⟨by decide +kernel, by decide +kernel, by decide +kernel⟩, by decide, Or.inr (Or.inl ⟨rfl, me_6 (List.mem_of_getElem? (i := 143) rfl)⟩)⟩
theorem mk_369 : mOK m_369 1 1 := ⟨me_5 (List.mem_of_getElem? (i := 2) rfl), rfl, me_1 (List.mem_of_getElem? (i := 21) rfl), by decide +kernel, ⟨by decide +kernel, by decide +kernel, by decide +kernel⟩, by decide, Or.inr (Or.inl ⟨rfl, me_5 (List.mem_of_getElem? (i := 1) rfl)⟩)⟩
/-- what stands behind a link of a kind: 0 an instance method, 1 a static one, 2 an <init>, 3 Object.<init>, 4 an <init> of a nest mate, 5 a static one of a nest mate, 6 arraycopy, 7 to 10 Math, 11 12 String -/
def lY : Nat → MethodName := fun kd => match kd with | 3 => Lib.objectInit | 6 => arraycopyName | 7 => Lib.Math.max.name | 8 => Lib.Math.min.name | 9 => Lib.Math.abs.name | 10 => Lib.MathLoose.max_long.x | 11 => ⟨"java/lang/String", "length", "()I"⟩ | _ => ⟨"java/lang/String", "charAt", "(I)C"⟩
def lOK (t : Nat × Nat × Nat × Nat × Nat) : Prop := match t.2.2.1 with
  | 0 => Cond.methodLink (cN t.1) t.2.1 (mY t.2.2.2.1) ∈ lw_tbl ∧ mOK (mM t.2.2.2.1) 0 t.2.2.2.2
  | 1 => Cond.methodLink (cN t.1) t.2.1 (mY t.2.2.2.1) ∈ lw_tbl ∧ mOK (mM t.2.2.2.1) 1 t.2.2.2.2
  | 2 => Cond.methodLink (cN t.1) t.2.1 (mY t.2.2.2.1) ∈ lw_tbl ∧ mOK (mM t.2.2.2.1) 2 t.2.2.2.2
  | 4 => Cond.methodLinkNest (cN t.1) t.2.1 (mY t.2.2.2.1) "StiltMarsh" ∈ lw_tbl ∧ mOK (mM t.2.2.2.1) 2 t.2.2.2.2
  | 5 => Cond.methodLinkNest (cN t.1) t.2.1 (mY t.2.2.2.1) "StiltMarsh" ∈ lw_tbl ∧ mOK (mM t.2.2.2.1) 1 t.2.2.2.2
  | kd => 2 < kd ∧ Cond.methodLink (cN t.1) t.2.1 (lY kd) ∈ lw_tbl
set_option maxRecDepth 100000 in
theorem lk_0 : lOK (13, 9, 2, 1, 0) := ⟨me_1 (List.mem_of_getElem? (i := 24) rfl), mk_1⟩
set_option maxRecDepth 100000 in
theorem lk_1 : lOK (0, 1, 3, 0, 0) := ⟨by decide, me_1 (List.mem_of_getElem? (i := 27) rfl)⟩
set_option maxRecDepth 100000 in
theorem lk_2 : lOK (0, 32, 2, 73, 0) := ⟨me_1 (List.mem_of_getElem? (i := 32) rfl), mk_73⟩
set_option maxRecDepth 100000 in
theorem lk_3 : lOK (1, 3, 3, 0, 0) := ⟨by decide, me_1 (List.mem_of_getElem? (i := 35) rfl)⟩
set_option maxRecDepth 100000 in
theorem lk_4 : lOK (1, 22, 1, 365, 2) := ⟨me_1 (List.mem_of_getElem? (i := 36) rfl), mk_365⟩
set_option maxRecDepth 100000 in
theorem lk_5 : lOK (0, 39, 2, 85, 0) := ⟨me_1 (List.mem_of_getElem? (i := 54) rfl), mk_85⟩
set_option maxRecDepth 100000 in
theorem lk_6 : lOK (2, 3, 3, 0, 0) := ⟨by decide, me_1 (List.mem_of_getElem? (i := 57) rfl)⟩
set_option maxRecDepth 100000 in
theorem lk_7 : lOK (3, 3, 3, 0, 0) := ⟨by decide, me_1 (List.mem_of_getElem? (i := 63) rfl)⟩
set_option maxRecDepth 100000 in
theorem lk_8 : lOK (4, 3, 3, 0, 0) := ⟨by decide, me_1 (List.mem_of_getElem? (i := 129) rfl)⟩
set_option maxRecDepth 100000 in
theorem lk_9 : lOK (2, 27, 2, 114, 2) := ⟨me_1 (List.mem_of_getElem? (i := 178) rfl), mk_114⟩
set_option maxRecDepth 100000 in
theorem lk_10 : lOK (5, 3, 3, 0, 0) := ⟨by decide, me_1 (List.mem_of_getElem? (i := 181) rfl)⟩
set_option maxRecDepth 100000 in
theorem lk_11 : lOK (6, 3, 3, 0, 0) := ⟨by decide, me_1 (List.mem_of_getElem? (i := 220) rfl)⟩
set_option maxRecDepth 100000 in
theorem lk_12 : lOK (0, 53, 2, 142, 0) := ⟨me_2 (List.mem_of_getElem? (i := 48) rfl), mk_142⟩
set_option maxRecDepth 100000 in
theorem lk_13 : lOK (7, 3, 3, 0, 0) := ⟨by decide, me_2 (List.mem_of_getElem? (i := 51) rfl)⟩
set_option maxRecDepth 100000 in
theorem lk_14 : lOK (7, 21, 11, 0, 0) := ⟨by decide, me_2 (List.mem_of_getElem? (i := 53) rfl)⟩
set_option maxRecDepth 100000 in
theorem lk_15 : lOK (7, 27, 12, 0, 0) := ⟨by decide, me_2 (List.mem_of_getElem? (i := 63) rfl)⟩
set_option maxRecDepth 100000 in
theorem lk_16 : lOK (0, 60, 2, 162, 2) := ⟨me_2 (List.mem_of_getElem? (i := 134) rfl), mk_162⟩
set_option maxRecDepth 100000 in
theorem lk_17 : lOK (8, 3, 3, 0, 0) := ⟨by decide, me_2 (List.mem_of_getElem? (i := 137) rfl)⟩
set_option maxRecDepth 100000 in
theorem lk_18 : lOK (0, 73, 2, 170, 3) := ⟨me_2 (List.mem_of_getElem? (i := 150) rfl), mk_170⟩
set_option maxRecDepth 100000 in
theorem lk_19 : lOK (9, 3, 3, 0, 0) := ⟨by decide, me_2 (List.mem_of_getElem? (i := 153) rfl)⟩
set_option maxRecDepth 100000 in
theorem lk_20 : lOK (0, 82, 2, 177, 1) := ⟨me_2 (List.mem_of_getElem? (i := 172) rfl), mk_177⟩
set_option maxRecDepth 100000 in
theorem lk_21 : lOK (10, 3, 3, 0, 0) := ⟨by decide, me_2 (List.mem_of_getElem? (i := 175) rfl)⟩
set_option maxRecDepth 100000 in
theorem lk_22 : lOK (10, 46, 2, 114, 2) := ⟨me_2 (List.mem_of_getElem? (i := 178) rfl), mk_114⟩
set_option maxRecDepth 100000 in
theorem lk_23 : lOK (0, 89, 2, 195, 1) := ⟨me_2 (List.mem_of_getElem? (i := 235) rfl), mk_195⟩
set_option maxRecDepth 100000 in
theorem lk_24 : lOK (11, 3, 3, 0, 0) := ⟨by decide, me_2 (List.mem_of_getElem? (i := 238) rfl)⟩
set_option maxRecDepth 100000 in
theorem lk_25 : lOK (13, 13, 0, 2, 0) := ⟨me_3 (List.mem_of_getElem? (i := 95) rfl), mk_2⟩
set_option maxRecDepth 100000 in
theorem lk_26 : lOK (13, 18, 0, 3, 0) := ⟨me_3 (List.mem_of_getElem? (i := 99) rfl), mk_3⟩
set_option maxRecDepth 100000 in
theorem lk_27 : lOK (13, 23, 0, 4, 0) := ⟨me_3 (List.mem_of_getElem? (i := 103) rfl), mk_4⟩
set_option maxRecDepth 100000 in
theorem lk_28 : lOK (13, 27, 0, 5, 3) := ⟨me_3 (List.mem_of_getElem? (i := 107) rfl), mk_5⟩
set_option maxRecDepth 100000 in
theorem lk_29 : lOK (0, 100, 0, 74, 1) := ⟨me_3 (List.mem_of_getElem? (i := 111) rfl), mk_74⟩
set_option maxRecDepth 100000 in
theorem lk_30 : lOK (0, 104, 0, 6, 1) := ⟨me_3 (List.mem_of_getElem? (i := 115) rfl), mk_6⟩
set_option maxRecDepth 100000 in
theorem lk_31 : lOK (0, 107, 0, 75, 3) := ⟨me_3 (List.mem_of_getElem? (i := 119) rfl), mk_75⟩
set_option maxRecDepth 100000 in
theorem lk_32 : lOK (1, 28, 0, 74, 1) := ⟨me_3 (List.mem_of_getElem? (i := 123) rfl), mk_74⟩
set_option maxRecDepth 100000 in
theorem lk_33 : lOK (1, 35, 1, 366, 4) := ⟨me_3 (List.mem_of_getElem? (i := 124) rfl), mk_366⟩
set_option maxRecDepth 100000 in
theorem lk_34 : lOK (14, 13, 1, 367, 3) := ⟨me_3 (List.mem_of_getElem? (i := 127) rfl), mk_367⟩
set_option maxRecDepth 100000 in
theorem lk_35 : lOK (0, 111, 0, 7, 0) := ⟨me_3 (List.mem_of_getElem? (i := 130) rfl), mk_7⟩
set_option maxRecDepth 100000 in
theorem lk_36 : lOK (13, 34, 0, 8, 3) := ⟨me_3 (List.mem_of_getElem? (i := 134) rfl), mk_8⟩
set_option maxRecDepth 100000 in
theorem lk_37 : lOK (0, 115, 0, 76, 2) := ⟨me_3 (List.mem_of_getElem? (i := 138) rfl), mk_76⟩
set_option maxRecDepth 100000 in
theorem lk_38 : lOK (1, 32, 0, 77, 1) := ⟨me_3 (List.mem_of_getElem? (i := 142) rfl), mk_77⟩
set_option maxRecDepth 100000 in
theorem lk_39 : lOK (0, 119, 0, 78, 3) := ⟨me_3 (List.mem_of_getElem? (i := 146) rfl), mk_78⟩
set_option maxRecDepth 100000 in
theorem lk_40 : lOK (1, 38, 0, 79, 3) := ⟨me_3 (List.mem_of_getElem? (i := 150) rfl), mk_79⟩
set_option maxRecDepth 100000 in
theorem lk_41 : lOK (1, 42, 1, 80, 2) := ⟨me_3 (List.mem_of_getElem? (i := 154) rfl), mk_80⟩
set_option maxRecDepth 100000 in
theorem lk_42 : lOK (13, 39, 0, 9, 2) := ⟨me_3 (List.mem_of_getElem? (i := 157) rfl), mk_9⟩
set_option maxRecDepth 100000 in
theorem lk_43 : lOK (0, 123, 0, 10, 1) := ⟨me_3 (List.mem_of_getElem? (i := 161) rfl), mk_10⟩
set_option maxRecDepth 100000 in
theorem lk_44 : lOK (0, 127, 0, 81, 2) := ⟨me_3 (List.mem_of_getElem? (i := 165) rfl), mk_81⟩
set_option maxRecDepth 100000 in
theorem lk_45 : lOK (13, 44, 0, 11, 5) := ⟨me_3 (List.mem_of_getElem? (i := 170) rfl), mk_11⟩
set_option maxRecDepth 100000 in
theorem lk_46 : lOK (0, 131, 0, 77, 1) := ⟨me_3 (List.mem_of_getElem? (i := 174) rfl), mk_77⟩
set_option maxRecDepth 100000 in
theorem lk_47 : lOK (0, 134, 0, 82, 2) := ⟨me_3 (List.mem_of_getElem? (i := 175) rfl), mk_82⟩
set_option maxRecDepth 100000 in
theorem lk_48 : lOK (0, 138, 0, 79, 3) := ⟨me_3 (List.mem_of_getElem? (i := 179) rfl), mk_79⟩
set_option maxRecDepth 100000 in
theorem lk_49 : lOK (0, 142, 0, 83, 5) := ⟨me_3 (List.mem_of_getElem? (i := 180) rfl), mk_83⟩
set_option maxRecDepth 100000 in
theorem lk_50 : lOK (1, 48, 6, 0, 0) := ⟨by decide, me_3 (List.mem_of_getElem? (i := 184) rfl)⟩
set_option maxRecDepth 100000 in
theorem lk_51 : lOK (13, 49, 0, 12, 5) := ⟨me_3 (List.mem_of_getElem? (i := 187) rfl), mk_12⟩
set_option maxRecDepth 100000 in
theorem lk_52 : lOK (0, 149, 0, 13, 1) := ⟨me_3 (List.mem_of_getElem? (i := 191) rfl), mk_13⟩
set_option maxRecDepth 100000 in
theorem lk_53 : lOK (13, 54, 0, 14, 1) := ⟨me_3 (List.mem_of_getElem? (i := 195) rfl), mk_14⟩
set_option maxRecDepth 100000 in
theorem lk_54 : lOK (0, 153, 0, 143, 2) := ⟨me_3 (List.mem_of_getElem? (i := 199) rfl), mk_143⟩
set_option maxRecDepth 100000 in
theorem lk_55 : lOK (7, 33, 8, 0, 0) := ⟨by decide, me_3 (List.mem_of_getElem? (i := 203) rfl)⟩
set_option maxRecDepth 100000 in
theorem lk_56 : lOK (7, 51, 0, 144, 0) := ⟨me_3 (List.mem_of_getElem? (i := 206) rfl), mk_144⟩
set_option maxRecDepth 100000 in
theorem lk_57 : lOK (7, 64, 0, 145, 0) := ⟨me_3 (List.mem_of_getElem? (i := 210) rfl), mk_145⟩
set_option maxRecDepth 100000 in
theorem lk_58 : lOK (7, 67, 0, 146, 0) := ⟨me_3 (List.mem_of_getElem? (i := 215) rfl), mk_146⟩
set_option maxRecDepth 100000 in
theorem lk_59 : lOK (0, 157, 0, 163, 0) := ⟨me_3 (List.mem_of_getElem? (i := 220) rfl), mk_163⟩
set_option maxRecDepth 100000 in
theorem lk_60 : lOK (8, 19, 0, 86, 0) := ⟨me_3 (List.mem_of_getElem? (i := 224) rfl), mk_86⟩
set_option maxRecDepth 100000 in
theorem lk_61 : lOK (2, 41, 0, 94, 0) := ⟨me_3 (List.mem_of_getElem? (i := 228) rfl), mk_94⟩
set_option maxRecDepth 100000 in
theorem lk_62 : lOK (2, 48, 0, 137, 0) := ⟨me_3 (List.mem_of_getElem? (i := 232) rfl), mk_137⟩
set_option maxRecDepth 100000 in
theorem lk_63 : lOK (8, 28, 0, 147, 0) := ⟨me_3 (List.mem_of_getElem? (i := 236) rfl), mk_147⟩
set_option maxRecDepth 100000 in
theorem lk_64 : lOK (8, 34, 0, 148, 0) := ⟨me_4 (List.mem_of_getElem? (i := 0) rfl), mk_148⟩
set_option maxRecDepth 100000 in
theorem lk_65 : lOK (8, 37, 0, 164, 0) := ⟨me_4 (List.mem_of_getElem? (i := 4) rfl), mk_164⟩
set_option maxRecDepth 100000 in
theorem lk_66 : lOK (8, 49, 0, 149, 0) := ⟨me_4 (List.mem_of_getElem? (i := 8) rfl), mk_149⟩
set_option maxRecDepth 100000 in
theorem lk_67 : lOK (8, 63, 0, 150, 1) := ⟨me_4 (List.mem_of_getElem? (i := 12) rfl), mk_150⟩
set_option maxRecDepth 100000 in
theorem lk_68 : lOK (8, 67, 0, 165, 0) := ⟨me_4 (List.mem_of_getElem? (i := 16) rfl), mk_165⟩
set_option maxRecDepth 100000 in
theorem lk_69 : lOK (8, 82, 0, 151, 3) := ⟨me_4 (List.mem_of_getElem? (i := 20) rfl), mk_151⟩
set_option maxRecDepth 100000 in
theorem lk_70 : lOK (7, 84, 0, 152, 1) := ⟨me_4 (List.mem_of_getElem? (i := 24) rfl), mk_152⟩
set_option maxRecDepth 100000 in
theorem lk_71 : lOK (7, 74, 0, 153, 1) := ⟨me_4 (List.mem_of_getElem? (i := 28) rfl), mk_153⟩
set_option maxRecDepth 100000 in
theorem lk_72 : lOK (7, 78, 0, 150, 1) := ⟨me_4 (List.mem_of_getElem? (i := 32) rfl), mk_150⟩
set_option maxRecDepth 100000 in
theorem lk_73 : lOK (7, 87, 0, 154, 2) := ⟨me_4 (List.mem_of_getElem? (i := 33) rfl), mk_154⟩
set_option maxRecDepth 100000 in
theorem lk_74 : lOK (8, 86, 0, 155, 0) := ⟨me_4 (List.mem_of_getElem? (i := 37) rfl), mk_155⟩
set_option maxRecDepth 100000 in
theorem lk_75 : lOK (8, 89, 0, 95, 5) := ⟨me_4 (List.mem_of_getElem? (i := 42) rfl), mk_95⟩
set_option maxRecDepth 100000 in
theorem lk_76 : lOK (3, 46, 1, 365, 2) := ⟨me_4 (List.mem_of_getElem? (i := 46) rfl), mk_365⟩
set_option maxRecDepth 100000 in
theorem lk_77 : lOK (8, 70, 0, 166, 0) := ⟨me_4 (List.mem_of_getElem? (i := 47) rfl), mk_166⟩
set_option maxRecDepth 100000 in
theorem lk_78 : lOK (8, 73, 0, 167, 0) := ⟨me_4 (List.mem_of_getElem? (i := 51) rfl), mk_167⟩
set_option maxRecDepth 100000 in
theorem lk_79 : lOK (8, 96, 0, 152, 1) := ⟨me_4 (List.mem_of_getElem? (i := 55) rfl), mk_152⟩
set_option maxRecDepth 100000 in
theorem lk_80 : lOK (8, 99, 0, 156, 1) := ⟨me_4 (List.mem_of_getElem? (i := 56) rfl), mk_156⟩
set_option maxRecDepth 100000 in
theorem lk_81 : lOK (7, 98, 0, 96, 2) := ⟨me_4 (List.mem_of_getElem? (i := 60) rfl), mk_96⟩
set_option maxRecDepth 100000 in
theorem lk_82 : lOK (3, 58, 0, 97, 1) := ⟨me_4 (List.mem_of_getElem? (i := 64) rfl), mk_97⟩
set_option maxRecDepth 100000 in
theorem lk_83 : lOK (8, 107, 0, 157, 4) := ⟨me_4 (List.mem_of_getElem? (i := 68) rfl), mk_157⟩
set_option maxRecDepth 100000 in
theorem lk_84 : lOK (8, 76, 0, 168, 0) := ⟨me_4 (List.mem_of_getElem? (i := 72) rfl), mk_168⟩
set_option maxRecDepth 100000 in
theorem lk_85 : lOK (8, 120, 0, 98, 1) := ⟨me_4 (List.mem_of_getElem? (i := 76) rfl), mk_98⟩
set_option maxRecDepth 100000 in
theorem lk_86 : lOK (8, 79, 0, 169, 0) := ⟨me_4 (List.mem_of_getElem? (i := 80) rfl), mk_169⟩
set_option maxRecDepth 100000 in
theorem lk_87 : lOK (8, 132, 0, 158, 1) := ⟨me_4 (List.mem_of_getElem? (i := 84) rfl), mk_158⟩
set_option maxRecDepth 100000 in
theorem lk_88 : lOK (7, 104, 0, 159, 0) := ⟨me_4 (List.mem_of_getElem? (i := 88) rfl), mk_159⟩
set_option maxRecDepth 100000 in
theorem lk_89 : lOK (7, 101, 0, 149, 0) := ⟨me_4 (List.mem_of_getElem? (i := 92) rfl), mk_149⟩
set_option maxRecDepth 100000 in
theorem lk_90 : lOK (7, 108, 0, 108, 1) := ⟨me_4 (List.mem_of_getElem? (i := 93) rfl), mk_108⟩
set_option maxRecDepth 100000 in
theorem lk_91 : lOK (8, 136, 0, 115, 2) := ⟨me_4 (List.mem_of_getElem? (i := 97) rfl), mk_115⟩
set_option maxRecDepth 100000 in
theorem lk_92 : lOK (5, 49, 0, 116, 2) := ⟨me_4 (List.mem_of_getElem? (i := 101) rfl), mk_116⟩
set_option maxRecDepth 100000 in
theorem lk_93 : lOK (8, 140, 0, 109, 6) := ⟨me_4 (List.mem_of_getElem? (i := 105) rfl), mk_109⟩
set_option maxRecDepth 100000 in
theorem lk_94 : lOK (8, 44, 0, 117, 0) := ⟨me_4 (List.mem_of_getElem? (i := 109) rfl), mk_117⟩
set_option maxRecDepth 100000 in
theorem lk_95 : lOK (5, 31, 6, 0, 0) := ⟨by decide, me_4 (List.mem_of_getElem? (i := 113) rfl)⟩
set_option maxRecDepth 100000 in
theorem lk_96 : lOK (0, 160, 0, 15, 0) := ⟨me_4 (List.mem_of_getElem? (i := 114) rfl), mk_15⟩
set_option maxRecDepth 100000 in
theorem lk_97 : lOK (0, 163, 0, 87, 1) := ⟨me_4 (List.mem_of_getElem? (i := 118) rfl), mk_87⟩
set_option maxRecDepth 100000 in
theorem lk_98 : lOK (2, 49, 0, 99, 1) := ⟨me_4 (List.mem_of_getElem? (i := 122) rfl), mk_99⟩
set_option maxRecDepth 100000 in
theorem lk_99 : lOK (3, 52, 6, 0, 0) := ⟨by decide, me_4 (List.mem_of_getElem? (i := 126) rfl)⟩
set_option maxRecDepth 100000 in
theorem lk_100 : lOK (2, 53, 0, 110, 1) := ⟨me_4 (List.mem_of_getElem? (i := 127) rfl), mk_110⟩
set_option maxRecDepth 100000 in
theorem lk_101 : lOK (4, 38, 6, 0, 0) := ⟨by decide, me_4 (List.mem_of_getElem? (i := 131) rfl)⟩
set_option maxRecDepth 100000 in
theorem lk_102 : lOK (2, 56, 0, 118, 1) := ⟨me_4 (List.mem_of_getElem? (i := 132) rfl), mk_118⟩
set_option maxRecDepth 100000 in
theorem lk_103 : lOK (2, 59, 0, 138, 1) := ⟨me_4 (List.mem_of_getElem? (i := 136) rfl), mk_138⟩
set_option maxRecDepth 100000 in
theorem lk_104 : lOK (6, 38, 6, 0, 0) := ⟨by decide, me_4 (List.mem_of_getElem? (i := 140) rfl)⟩
set_option maxRecDepth 100000 in
theorem lk_105 : lOK (0, 175, 0, 16, 1) := ⟨me_4 (List.mem_of_getElem? (i := 141) rfl), mk_16⟩
set_option maxRecDepth 100000 in
theorem lk_106 : lOK (13, 59, 0, 17, 1) := ⟨me_4 (List.mem_of_getElem? (i := 145) rfl), mk_17⟩
set_option maxRecDepth 100000 in
theorem lk_107 : lOK (0, 178, 0, 171, 0) := ⟨me_4 (List.mem_of_getElem? (i := 149) rfl), mk_171⟩
set_option maxRecDepth 100000 in
theorem lk_108 : lOK (9, 27, 0, 137, 0) := ⟨me_4 (List.mem_of_getElem? (i := 153) rfl), mk_137⟩
set_option maxRecDepth 100000 in
theorem lk_109 : lOK (9, 36, 0, 147, 0) := ⟨me_4 (List.mem_of_getElem? (i := 154) rfl), mk_147⟩
set_option maxRecDepth 100000 in
theorem lk_110 : lOK (9, 42, 0, 148, 0) := ⟨me_4 (List.mem_of_getElem? (i := 155) rfl), mk_148⟩
set_option maxRecDepth 100000 in
theorem lk_111 : lOK (9, 45, 0, 153, 1) := ⟨me_4 (List.mem_of_getElem? (i := 156) rfl), mk_153⟩
set_option maxRecDepth 100000 in
theorem lk_112 : lOK (9, 49, 0, 172, 0) := ⟨me_4 (List.mem_of_getElem? (i := 157) rfl), mk_172⟩
set_option maxRecDepth 100000 in
theorem lk_113 : lOK (9, 55, 0, 150, 1) := ⟨me_4 (List.mem_of_getElem? (i := 161) rfl), mk_150⟩
set_option maxRecDepth 100000 in
theorem lk_114 : lOK (9, 63, 0, 152, 1) := ⟨me_4 (List.mem_of_getElem? (i := 162) rfl), mk_152⟩
set_option maxRecDepth 100000 in
theorem lk_115 : lOK (9, 66, 0, 155, 0) := ⟨me_4 (List.mem_of_getElem? (i := 163) rfl), mk_155⟩
set_option maxRecDepth 100000 in
theorem lk_116 : lOK (9, 69, 0, 139, 4) := ⟨me_4 (List.mem_of_getElem? (i := 164) rfl), mk_139⟩
set_option maxRecDepth 100000 in
theorem lk_117 : lOK (9, 73, 0, 140, 2) := ⟨me_4 (List.mem_of_getElem? (i := 168) rfl), mk_140⟩
set_option maxRecDepth 100000 in
theorem lk_118 : lOK (6, 44, 0, 141, 1) := ⟨me_4 (List.mem_of_getElem? (i := 172) rfl), mk_141⟩
set_option maxRecDepth 100000 in
theorem lk_119 : lOK (9, 52, 0, 173, 0) := ⟨me_4 (List.mem_of_getElem? (i := 176) rfl), mk_173⟩
set_option maxRecDepth 100000 in
theorem lk_120 : lOK (9, 77, 0, 149, 0) := ⟨me_4 (List.mem_of_getElem? (i := 180) rfl), mk_149⟩
set_option maxRecDepth 100000 in
theorem lk_121 : lOK (9, 81, 1, 174, 1) := ⟨me_4 (List.mem_of_getElem? (i := 181) rfl), mk_174⟩
set_option maxRecDepth 100000 in
theorem lk_122 : lOK (9, 87, 0, 144, 0) := ⟨me_4 (List.mem_of_getElem? (i := 184) rfl), mk_144⟩
set_option maxRecDepth 100000 in
theorem lk_123 : lOK (9, 90, 0, 175, 1) := ⟨me_4 (List.mem_of_getElem? (i := 185) rfl), mk_175⟩
set_option maxRecDepth 100000 in
theorem lk_124 : lOK (9, 97, 0, 154, 2) := ⟨me_4 (List.mem_of_getElem? (i := 189) rfl), mk_154⟩
set_option maxRecDepth 100000 in
theorem lk_125 : lOK (9, 107, 0, 160, 1) := ⟨me_4 (List.mem_of_getElem? (i := 190) rfl), mk_160⟩
set_option maxRecDepth 100000 in
theorem lk_126 : lOK (9, 115, 0, 156, 1) := ⟨me_4 (List.mem_of_getElem? (i := 194) rfl), mk_156⟩
set_option maxRecDepth 100000 in
theorem lk_127 : lOK (9, 119, 0, 161, 0) := ⟨me_4 (List.mem_of_getElem? (i := 195) rfl), mk_161⟩
set_option maxRecDepth 100000 in
theorem lk_128 : lOK (9, 94, 0, 176, 1) := ⟨me_4 (List.mem_of_getElem? (i := 199) rfl), mk_176⟩
set_option maxRecDepth 100000 in
theorem lk_129 : lOK (0, 179, 0, 138, 1) := ⟨me_4 (List.mem_of_getElem? (i := 203) rfl), mk_138⟩
set_option maxRecDepth 100000 in
theorem lk_130 : lOK (13, 63, 0, 18, 1) := ⟨me_4 (List.mem_of_getElem? (i := 204) rfl), mk_18⟩
set_option maxRecDepth 100000 in
theorem lk_131 : lOK (13, 67, 0, 19, 1) := ⟨me_4 (List.mem_of_getElem? (i := 208) rfl), mk_19⟩
set_option maxRecDepth 100000 in
theorem lk_132 : lOK (0, 214, 0, 119, 0) := ⟨me_4 (List.mem_of_getElem? (i := 212) rfl), mk_119⟩
set_option maxRecDepth 100000 in
theorem lk_133 : lOK (5, 120, 0, 120, 1) := ⟨me_4 (List.mem_of_getElem? (i := 216) rfl), mk_120⟩
set_option maxRecDepth 100000 in
theorem lk_134 : lOK (5, 101, 0, 111, 1) := ⟨me_4 (List.mem_of_getElem? (i := 220) rfl), mk_111⟩
set_option maxRecDepth 100000 in
theorem lk_135 : lOK (5, 114, 0, 121, 1) := ⟨me_4 (List.mem_of_getElem? (i := 224) rfl), mk_121⟩
set_option maxRecDepth 100000 in
theorem lk_136 : lOK (0, 218, 0, 122, 0) := ⟨me_4 (List.mem_of_getElem? (i := 228) rfl), mk_122⟩
set_option maxRecDepth 100000 in
theorem lk_137 : lOK (5, 105, 0, 100, 1) := ⟨me_4 (List.mem_of_getElem? (i := 232) rfl), mk_100⟩
set_option maxRecDepth 100000 in
theorem lk_138 : lOK (0, 221, 0, 123, 0) := ⟨me_4 (List.mem_of_getElem? (i := 236) rfl), mk_123⟩
set_option maxRecDepth 100000 in
theorem lk_139 : lOK (0, 227, 1, 369, 1) := ⟨me_5 (List.mem_of_getElem? (i := 0) rfl), mk_369⟩
set_option maxRecDepth 100000 in
theorem lk_140 : lOK (0, 232, 0, 112, 0) := ⟨me_5 (List.mem_of_getElem? (i := 6) rfl), mk_112⟩
set_option maxRecDepth 100000 in
theorem lk_141 : lOK (13, 71, 0, 20, 3) := ⟨me_5 (List.mem_of_getElem? (i := 10) rfl), mk_20⟩
set_option maxRecDepth 100000 in
theorem lk_142 : lOK (0, 235, 0, 96, 2) := ⟨me_5 (List.mem_of_getElem? (i := 14) rfl), mk_96⟩
set_option maxRecDepth 100000 in
theorem lk_143 : lOK (0, 253, 0, 100, 1) := ⟨me_5 (List.mem_of_getElem? (i := 15) rfl), mk_100⟩
set_option maxRecDepth 100000 in
theorem lk_144 : lOK (0, 256, 0, 124, 1) := ⟨me_5 (List.mem_of_getElem? (i := 16) rfl), mk_124⟩
set_option maxRecDepth 100000 in
theorem lk_145 : lOK (13, 76, 0, 21, 2) := ⟨me_5 (List.mem_of_getElem? (i := 20) rfl), mk_21⟩
set_option maxRecDepth 100000 in
theorem lk_146 : lOK (0, 259, 0, 111, 1) := ⟨me_5 (List.mem_of_getElem? (i := 24) rfl), mk_111⟩
set_option maxRecDepth 100000 in
theorem lk_147 : lOK (0, 277, 0, 101, 1) := ⟨me_5 (List.mem_of_getElem? (i := 25) rfl), mk_101⟩
set_option maxRecDepth 100000 in
theorem lk_148 : lOK (3, 62, 0, 102, 1) := ⟨me_5 (List.mem_of_getElem? (i := 29) rfl), mk_102⟩
set_option maxRecDepth 100000 in
theorem lk_149 : lOK (0, 280, 0, 103, 1) := ⟨me_5 (List.mem_of_getElem? (i := 33) rfl), mk_103⟩
set_option maxRecDepth 100000 in
theorem lk_150 : lOK (0, 283, 0, 121, 1) := ⟨me_5 (List.mem_of_getElem? (i := 37) rfl), mk_121⟩
set_option maxRecDepth 100000 in
theorem lk_151 : lOK (13, 81, 0, 22, 3) := ⟨me_5 (List.mem_of_getElem? (i := 38) rfl), mk_22⟩
set_option maxRecDepth 100000 in
theorem lk_152 : lOK (0, 288, 1, 23, 1) := ⟨me_5 (List.mem_of_getElem? (i := 42) rfl), mk_23⟩
set_option maxRecDepth 100000 in
theorem lk_153 : lOK (13, 85, 0, 24, 4) := ⟨me_5 (List.mem_of_getElem? (i := 45) rfl), mk_24⟩
set_option maxRecDepth 100000 in
theorem lk_154 : lOK (0, 297, 0, 125, 1) := ⟨me_5 (List.mem_of_getElem? (i := 49) rfl), mk_125⟩
set_option maxRecDepth 100000 in
theorem lk_155 : lOK (0, 300, 0, 126, 1) := ⟨me_5 (List.mem_of_getElem? (i := 53) rfl), mk_126⟩
set_option maxRecDepth 100000 in
theorem lk_156 : lOK (0, 303, 0, 88, 3) := ⟨me_5 (List.mem_of_getElem? (i := 57) rfl), mk_88⟩
set_option maxRecDepth 100000 in
theorem lk_157 : lOK (2, 62, 0, 111, 1) := ⟨me_5 (List.mem_of_getElem? (i := 61) rfl), mk_111⟩
set_option maxRecDepth 100000 in
theorem lk_158 : lOK (2, 69, 0, 121, 1) := ⟨me_5 (List.mem_of_getElem? (i := 63) rfl), mk_121⟩
set_option maxRecDepth 100000 in
theorem lk_159 : lOK (2, 76, 0, 104, 2) := ⟨me_5 (List.mem_of_getElem? (i := 64) rfl), mk_104⟩
set_option maxRecDepth 100000 in
theorem lk_160 : lOK (0, 306, 0, 89, 3) := ⟨me_5 (List.mem_of_getElem? (i := 68) rfl), mk_89⟩
set_option maxRecDepth 100000 in
theorem lk_161 : lOK (2, 83, 0, 127, 1) := ⟨me_5 (List.mem_of_getElem? (i := 72) rfl), mk_127⟩
set_option maxRecDepth 100000 in
theorem lk_162 : lOK (5, 97, 0, 125, 1) := ⟨me_5 (List.mem_of_getElem? (i := 76) rfl), mk_125⟩
set_option maxRecDepth 100000 in
theorem lk_163 : lOK (5, 94, 0, 128, 1) := ⟨me_5 (List.mem_of_getElem? (i := 77) rfl), mk_128⟩
set_option maxRecDepth 100000 in
theorem lk_164 : lOK (5, 59, 0, 129, 2) := ⟨me_5 (List.mem_of_getElem? (i := 81) rfl), mk_129⟩
set_option maxRecDepth 100000 in
theorem lk_165 : lOK (5, 66, 0, 130, 1) := ⟨me_5 (List.mem_of_getElem? (i := 85) rfl), mk_130⟩
set_option maxRecDepth 100000 in
theorem lk_166 : lOK (2, 87, 0, 116, 2) := ⟨me_5 (List.mem_of_getElem? (i := 89) rfl), mk_116⟩
set_option maxRecDepth 100000 in
theorem lk_167 : lOK (13, 90, 0, 25, 1) := ⟨me_5 (List.mem_of_getElem? (i := 90) rfl), mk_25⟩
set_option maxRecDepth 100000 in
theorem lk_168 : lOK (0, 310, 0, 131, 1) := ⟨me_5 (List.mem_of_getElem? (i := 94) rfl), mk_131⟩
set_option maxRecDepth 100000 in
theorem lk_169 : lOK (5, 88, 8, 0, 0) := ⟨by decide, me_5 (List.mem_of_getElem? (i := 98) rfl)⟩
set_option maxRecDepth 100000 in
theorem lk_170 : lOK (13, 94, 0, 26, 3) := ⟨me_5 (List.mem_of_getElem? (i := 99) rfl), mk_26⟩
set_option maxRecDepth 100000 in
theorem lk_171 : lOK (0, 313, 0, 27, 2) := ⟨me_5 (List.mem_of_getElem? (i := 103) rfl), mk_27⟩
set_option maxRecDepth 100000 in
theorem lk_172 : lOK (0, 316, 0, 90, 3) := ⟨me_5 (List.mem_of_getElem? (i := 107) rfl), mk_90⟩
set_option maxRecDepth 100000 in
theorem lk_173 : lOK (2, 99, 0, 91, 2) := ⟨me_5 (List.mem_of_getElem? (i := 111) rfl), mk_91⟩
set_option maxRecDepth 100000 in
theorem lk_174 : lOK (2, 94, 8, 0, 0) := ⟨by decide, me_5 (List.mem_of_getElem? (i := 115) rfl)⟩
set_option maxRecDepth 100000 in
theorem lk_175 : lOK (0, 319, 0, 92, 3) := ⟨me_5 (List.mem_of_getElem? (i := 116) rfl), mk_92⟩
set_option maxRecDepth 100000 in
theorem lk_176 : lOK (13, 98, 0, 28, 2) := ⟨me_5 (List.mem_of_getElem? (i := 120) rfl), mk_28⟩
set_option maxRecDepth 100000 in
theorem lk_177 : lOK (0, 322, 0, 98, 1) := ⟨me_5 (List.mem_of_getElem? (i := 124) rfl), mk_98⟩
set_option maxRecDepth 100000 in
theorem lk_178 : lOK (13, 102, 0, 29, 2) := ⟨me_5 (List.mem_of_getElem? (i := 125) rfl), mk_29⟩
set_option maxRecDepth 100000 in
theorem lk_179 : lOK (0, 325, 0, 105, 1) := ⟨me_5 (List.mem_of_getElem? (i := 129) rfl), mk_105⟩
set_option maxRecDepth 100000 in
theorem lk_180 : lOK (13, 107, 0, 30, 3) := ⟨me_5 (List.mem_of_getElem? (i := 133) rfl), mk_30⟩
set_option maxRecDepth 100000 in
theorem lk_181 : lOK (0, 328, 0, 115, 2) := ⟨me_5 (List.mem_of_getElem? (i := 137) rfl), mk_115⟩
set_option maxRecDepth 100000 in
theorem lk_182 : lOK (13, 111, 0, 31, 2) := ⟨me_5 (List.mem_of_getElem? (i := 138) rfl), mk_31⟩
set_option maxRecDepth 100000 in
theorem lk_183 : lOK (13, 115, 0, 32, 3) := ⟨me_5 (List.mem_of_getElem? (i := 142) rfl), mk_32⟩
set_option maxRecDepth 100000 in
theorem lk_184 : lOK (13, 119, 0, 33, 1) := ⟨me_5 (List.mem_of_getElem? (i := 146) rfl), mk_33⟩
set_option maxRecDepth 100000 in
theorem lk_185 : lOK (13, 124, 0, 34, 2) := ⟨me_5 (List.mem_of_getElem? (i := 150) rfl), mk_34⟩
set_option maxRecDepth 100000 in
theorem lk_186 : lOK (13, 128, 0, 35, 4) := ⟨me_5 (List.mem_of_getElem? (i := 154) rfl), mk_35⟩
set_option maxRecDepth 100000 in
theorem lk_187 : lOK (0, 332, 0, 104, 2) := ⟨me_5 (List.mem_of_getElem? (i := 158) rfl), mk_104⟩
set_option maxRecDepth 100000 in
theorem lk_188 : lOK (13, 132, 0, 36, 1) := ⟨me_5 (List.mem_of_getElem? (i := 159) rfl), mk_36⟩
set_option maxRecDepth 100000 in
theorem lk_189 : lOK (0, 335, 0, 113, 1) := ⟨me_5 (List.mem_of_getElem? (i := 163) rfl), mk_113⟩
set_option maxRecDepth 100000 in
theorem lk_190 : lOK (4, 44, 0, 111, 1) := ⟨me_5 (List.mem_of_getElem? (i := 167) rfl), mk_111⟩
set_option maxRecDepth 100000 in
theorem lk_191 : lOK (13, 136, 0, 37, 2) := ⟨me_5 (List.mem_of_getElem? (i := 168) rfl), mk_37⟩
set_option maxRecDepth 100000 in
theorem lk_192 : lOK (13, 140, 0, 38, 2) := ⟨me_5 (List.mem_of_getElem? (i := 172) rfl), mk_38⟩
set_option maxRecDepth 100000 in
theorem lk_193 : lOK (13, 144, 0, 39, 3) := ⟨me_5 (List.mem_of_getElem? (i := 176) rfl), mk_39⟩
set_option maxRecDepth 100000 in
theorem lk_194 : lOK (0, 341, 0, 132, 2) := ⟨me_5 (List.mem_of_getElem? (i := 180) rfl), mk_132⟩
set_option maxRecDepth 100000 in
theorem lk_195 : lOK (5, 104, 0, 102, 1) := ⟨me_5 (List.mem_of_getElem? (i := 184) rfl), mk_102⟩
set_option maxRecDepth 100000 in
theorem lk_196 : lOK (5, 108, 0, 113, 1) := ⟨me_5 (List.mem_of_getElem? (i := 185) rfl), mk_113⟩
set_option maxRecDepth 100000 in
theorem lk_197 : lOK (5, 111, 7, 0, 0) := ⟨by decide, me_5 (List.mem_of_getElem? (i := 186) rfl)⟩
set_option maxRecDepth 100000 in
theorem lk_198 : lOK (13, 148, 0, 40, 1) := ⟨me_5 (List.mem_of_getElem? (i := 189) rfl), mk_40⟩
set_option maxRecDepth 100000 in
theorem lk_199 : lOK (13, 152, 0, 41, 3) := ⟨me_5 (List.mem_of_getElem? (i := 193) rfl), mk_41⟩
set_option maxRecDepth 100000 in
theorem lk_200 : lOK (0, 344, 0, 178, 1) := ⟨me_5 (List.mem_of_getElem? (i := 197) rfl), mk_178⟩
set_option maxRecDepth 100000 in
theorem lk_201 : lOK (10, 53, 0, 118, 1) := ⟨me_5 (List.mem_of_getElem? (i := 201) rfl), mk_118⟩
set_option maxRecDepth 100000 in
theorem lk_202 : lOK (10, 57, 0, 131, 1) := ⟨me_5 (List.mem_of_getElem? (i := 202) rfl), mk_131⟩
set_option maxRecDepth 100000 in
theorem lk_203 : lOK (13, 156, 0, 42, 1) := ⟨me_5 (List.mem_of_getElem? (i := 203) rfl), mk_42⟩
set_option maxRecDepth 100000 in
theorem lk_204 : lOK (0, 348, 0, 179, 2) := ⟨me_5 (List.mem_of_getElem? (i := 207) rfl), mk_179⟩
set_option maxRecDepth 100000 in
theorem lk_205 : lOK (10, 61, 0, 121, 1) := ⟨me_5 (List.mem_of_getElem? (i := 211) rfl), mk_121⟩
set_option maxRecDepth 100000 in
theorem lk_206 : lOK (10, 65, 0, 128, 1) := ⟨me_5 (List.mem_of_getElem? (i := 212) rfl), mk_128⟩
set_option maxRecDepth 100000 in
theorem lk_207 : lOK (13, 160, 0, 43, 3) := ⟨me_5 (List.mem_of_getElem? (i := 213) rfl), mk_43⟩
set_option maxRecDepth 100000 in
theorem lk_208 : lOK (13, 164, 0, 44, 1) := ⟨me_5 (List.mem_of_getElem? (i := 217) rfl), mk_44⟩
set_option maxRecDepth 100000 in
theorem lk_209 : lOK (0, 351, 0, 91, 2) := ⟨me_5 (List.mem_of_getElem? (i := 221) rfl), mk_91⟩
set_option maxRecDepth 100000 in
theorem lk_210 : lOK (13, 168, 0, 45, 1) := ⟨me_5 (List.mem_of_getElem? (i := 222) rfl), mk_45⟩
set_option maxRecDepth 100000 in
theorem lk_211 : lOK (0, 354, 0, 133, 1) := ⟨me_5 (List.mem_of_getElem? (i := 226) rfl), mk_133⟩
set_option maxRecDepth 100000 in
theorem lk_212 : lOK (5, 123, 0, 104, 2) := ⟨me_5 (List.mem_of_getElem? (i := 230) rfl), mk_104⟩
set_option maxRecDepth 100000 in
theorem lk_213 : lOK (5, 129, 1, 134, 3) := ⟨me_5 (List.mem_of_getElem? (i := 231) rfl), mk_134⟩
set_option maxRecDepth 100000 in
theorem lk_214 : lOK (13, 172, 0, 46, 5) := ⟨me_5 (List.mem_of_getElem? (i := 234) rfl), mk_46⟩
set_option maxRecDepth 100000 in
theorem lk_215 : lOK (0, 357, 1, 134, 3) := ⟨me_5 (List.mem_of_getElem? (i := 238) rfl), mk_134⟩
set_option maxRecDepth 100000 in
theorem lk_216 : lOK (13, 176, 0, 47, 1) := ⟨me_5 (List.mem_of_getElem? (i := 239) rfl), mk_47⟩
set_option maxRecDepth 100000 in
theorem lk_217 : lOK (0, 360, 0, 180, 1) := ⟨me_6 (List.mem_of_getElem? (i := 3) rfl), mk_180⟩
set_option maxRecDepth 100000 in
theorem lk_218 : lOK (10, 150, 0, 111, 1) := ⟨me_6 (List.mem_of_getElem? (i := 7) rfl), mk_111⟩
set_option maxRecDepth 100000 in
theorem lk_219 : lOK (10, 153, 0, 181, 1) := ⟨me_6 (List.mem_of_getElem? (i := 8) rfl), mk_181⟩
set_option maxRecDepth 100000 in
theorem lk_220 : lOK (10, 110, 0, 104, 2) := ⟨me_6 (List.mem_of_getElem? (i := 12) rfl), mk_104⟩
set_option maxRecDepth 100000 in
theorem lk_221 : lOK (10, 159, 0, 182, 3) := ⟨me_6 (List.mem_of_getElem? (i := 13) rfl), mk_182⟩
set_option maxRecDepth 100000 in
theorem lk_222 : lOK (13, 180, 0, 48, 3) := ⟨me_6 (List.mem_of_getElem? (i := 17) rfl), mk_48⟩
set_option maxRecDepth 100000 in
theorem lk_223 : lOK (13, 184, 0, 49, 2) := ⟨me_6 (List.mem_of_getElem? (i := 21) rfl), mk_49⟩
set_option maxRecDepth 100000 in
theorem lk_224 : lOK (0, 363, 0, 50, 3) := ⟨me_6 (List.mem_of_getElem? (i := 25) rfl), mk_50⟩
set_option maxRecDepth 100000 in
theorem lk_225 : lOK (0, 442, 0, 183, 3) := ⟨me_6 (List.mem_of_getElem? (i := 29) rfl), mk_183⟩
set_option maxRecDepth 100000 in
theorem lk_226 : lOK (10, 86, 0, 120, 1) := ⟨me_6 (List.mem_of_getElem? (i := 34) rfl), mk_120⟩
set_option maxRecDepth 100000 in
theorem lk_227 : lOK (10, 89, 0, 122, 0) := ⟨me_6 (List.mem_of_getElem? (i := 35) rfl), mk_122⟩
set_option maxRecDepth 100000 in
theorem lk_228 : lOK (10, 93, 0, 133, 1) := ⟨me_6 (List.mem_of_getElem? (i := 36) rfl), mk_133⟩
set_option maxRecDepth 100000 in
theorem lk_229 : lOK (10, 97, 0, 184, 4) := ⟨me_6 (List.mem_of_getElem? (i := 37) rfl), mk_184⟩
set_option maxRecDepth 100000 in
theorem lk_230 : lOK (10, 101, 0, 127, 1) := ⟨me_6 (List.mem_of_getElem? (i := 41) rfl), mk_127⟩
set_option maxRecDepth 100000 in
theorem lk_231 : lOK (10, 119, 0, 116, 2) := ⟨me_6 (List.mem_of_getElem? (i := 42) rfl), mk_116⟩
set_option maxRecDepth 100000 in
theorem lk_232 : lOK (10, 129, 0, 185, 4) := ⟨me_6 (List.mem_of_getElem? (i := 43) rfl), mk_185⟩
set_option maxRecDepth 100000 in
theorem lk_233 : lOK (13, 188, 0, 51, 3) := ⟨me_6 (List.mem_of_getElem? (i := 47) rfl), mk_51⟩
set_option maxRecDepth 100000 in
theorem lk_234 : lOK (0, 370, 0, 52, 4) := ⟨me_6 (List.mem_of_getElem? (i := 51) rfl), mk_52⟩
set_option maxRecDepth 100000 in
theorem lk_235 : lOK (0, 385, 1, 53, 1) := ⟨me_6 (List.mem_of_getElem? (i := 55) rfl), mk_53⟩
set_option maxRecDepth 100000 in
theorem lk_236 : lOK (0, 388, 0, 54, 1) := ⟨me_6 (List.mem_of_getElem? (i := 58) rfl), mk_54⟩
set_option maxRecDepth 100000 in
theorem lk_237 : lOK (13, 192, 0, 55, 2) := ⟨me_6 (List.mem_of_getElem? (i := 62) rfl), mk_55⟩
set_option maxRecDepth 100000 in
theorem lk_238 : lOK (13, 196, 0, 56, 3) := ⟨me_6 (List.mem_of_getElem? (i := 66) rfl), mk_56⟩
set_option maxRecDepth 100000 in
theorem lk_239 : lOK (13, 200, 0, 57, 1) := ⟨me_6 (List.mem_of_getElem? (i := 70) rfl), mk_57⟩
set_option maxRecDepth 100000 in
theorem lk_240 : lOK (0, 374, 0, 186, 1) := ⟨me_6 (List.mem_of_getElem? (i := 74) rfl), mk_186⟩
set_option maxRecDepth 100000 in
theorem lk_241 : lOK (10, 163, 0, 102, 1) := ⟨me_6 (List.mem_of_getElem? (i := 78) rfl), mk_102⟩
set_option maxRecDepth 100000 in
theorem lk_242 : lOK (10, 164, 1, 365, 2) := ⟨me_6 (List.mem_of_getElem? (i := 80) rfl), mk_365⟩
set_option maxRecDepth 100000 in
theorem lk_243 : lOK (10, 170, 0, 187, 1) := ⟨me_6 (List.mem_of_getElem? (i := 81) rfl), mk_187⟩
set_option maxRecDepth 100000 in
theorem lk_244 : lOK (10, 173, 0, 100, 1) := ⟨me_6 (List.mem_of_getElem? (i := 85) rfl), mk_100⟩
set_option maxRecDepth 100000 in
theorem lk_245 : lOK (13, 204, 0, 58, 0) := ⟨me_6 (List.mem_of_getElem? (i := 86) rfl), mk_58⟩
set_option maxRecDepth 100000 in
theorem lk_246 : lOK (0, 377, 7, 0, 0) := ⟨by decide, me_6 (List.mem_of_getElem? (i := 90) rfl)⟩
set_option maxRecDepth 100000 in
theorem lk_247 : lOK (13, 208, 0, 59, 3) := ⟨me_6 (List.mem_of_getElem? (i := 91) rfl), mk_59⟩
set_option maxRecDepth 100000 in
theorem lk_248 : lOK (0, 382, 0, 188, 3) := ⟨me_6 (List.mem_of_getElem? (i := 95) rfl), mk_188⟩
set_option maxRecDepth 100000 in
theorem lk_249 : lOK (10, 133, 0, 189, 6) := ⟨me_6 (List.mem_of_getElem? (i := 99) rfl), mk_189⟩
set_option maxRecDepth 100000 in
theorem lk_250 : lOK (10, 137, 0, 190, 2) := ⟨me_6 (List.mem_of_getElem? (i := 103) rfl), mk_190⟩
set_option maxRecDepth 100000 in
theorem lk_251 : lOK (10, 141, 7, 0, 0) := ⟨by decide, me_6 (List.mem_of_getElem? (i := 107) rfl)⟩
set_option maxRecDepth 100000 in
theorem lk_252 : lOK (10, 146, 0, 191, 7) := ⟨me_6 (List.mem_of_getElem? (i := 108) rfl), mk_191⟩
set_option maxRecDepth 100000 in
theorem lk_253 : lOK (13, 212, 0, 60, 4) := ⟨me_6 (List.mem_of_getElem? (i := 112) rfl), mk_60⟩
set_option maxRecDepth 100000 in
theorem lk_254 : lOK (13, 216, 0, 61, 1) := ⟨me_6 (List.mem_of_getElem? (i := 116) rfl), mk_61⟩
set_option maxRecDepth 100000 in
theorem lk_255 : lOK (0, 391, 0, 97, 1) := ⟨me_6 (List.mem_of_getElem? (i := 120) rfl), mk_97⟩
set_option maxRecDepth 100000 in
theorem lk_256 : lOK (0, 394, 0, 135, 1) := ⟨me_6 (List.mem_of_getElem? (i := 121) rfl), mk_135⟩
set_option maxRecDepth 100000 in
theorem lk_257 : lOK (5, 136, 0, 96, 2) := ⟨me_6 (List.mem_of_getElem? (i := 125) rfl), mk_96⟩
set_option maxRecDepth 100000 in
theorem lk_258 : lOK (13, 220, 0, 62, 1) := ⟨me_6 (List.mem_of_getElem? (i := 126) rfl), mk_62⟩
set_option maxRecDepth 100000 in
theorem lk_259 : lOK (0, 397, 0, 84, 2) := ⟨me_6 (List.mem_of_getElem? (i := 130) rfl), mk_84⟩
set_option maxRecDepth 100000 in
theorem lk_260 : lOK (0, 400, 0, 192, 2) := ⟨me_6 (List.mem_of_getElem? (i := 134) rfl), mk_192⟩
set_option maxRecDepth 100000 in
theorem lk_261 : lOK (10, 188, 0, 193, 2) := ⟨me_6 (List.mem_of_getElem? (i := 138) rfl), mk_193⟩
set_option maxRecDepth 100000 in
theorem lk_262 : lOK (10, 195, 1, 368, 2) := ⟨me_6 (List.mem_of_getElem? (i := 142) rfl), mk_368⟩
set_option maxRecDepth 100000 in
theorem lk_263 : lOK (10, 198, 0, 113, 1) := ⟨me_6 (List.mem_of_getElem? (i := 145) rfl), mk_113⟩
set_option maxRecDepth 100000 in
theorem lk_264 : lOK (10, 191, 0, 194, 2) := ⟨me_6 (List.mem_of_getElem? (i := 146) rfl), mk_194⟩
set_option maxRecDepth 100000 in
theorem lk_265 : lOK (10, 201, 0, 81, 2) := ⟨me_6 (List.mem_of_getElem? (i := 150) rfl), mk_81⟩
set_option maxRecDepth 100000 in
theorem lk_266 : lOK (13, 224, 0, 63, 1) := ⟨me_6 (List.mem_of_getElem? (i := 151) rfl), mk_63⟩
set_option maxRecDepth 100000 in
theorem lk_267 : lOK (13, 228, 0, 64, 1) := ⟨me_6 (List.mem_of_getElem? (i := 155) rfl), mk_64⟩
set_option maxRecDepth 100000 in
theorem lk_268 : lOK (0, 412, 0, 106, 1) := ⟨me_6 (List.mem_of_getElem? (i := 160) rfl), mk_106⟩
set_option maxRecDepth 100000 in
theorem lk_269 : lOK (3, 65, 0, 96, 2) := ⟨me_6 (List.mem_of_getElem? (i := 164) rfl), mk_96⟩
set_option maxRecDepth 100000 in
theorem lk_270 : lOK (3, 69, 0, 100, 1) := ⟨me_6 (List.mem_of_getElem? (i := 165) rfl), mk_100⟩
set_option maxRecDepth 100000 in
theorem lk_271 : lOK (0, 416, 0, 65, 2) := ⟨me_6 (List.mem_of_getElem? (i := 167) rfl), mk_65⟩
set_option maxRecDepth 100000 in
theorem lk_272 : lOK (0, 452, 10, 0, 0) := ⟨by decide, me_6 (List.mem_of_getElem? (i := 171) rfl)⟩
set_option maxRecDepth 100000 in
theorem lk_273 : lOK (13, 232, 0, 66, 0) := ⟨me_6 (List.mem_of_getElem? (i := 174) rfl), mk_66⟩
set_option maxRecDepth 100000 in
theorem lk_274 : lOK (13, 236, 0, 67, 2) := ⟨me_6 (List.mem_of_getElem? (i := 178) rfl), mk_67⟩
set_option maxRecDepth 100000 in
theorem lk_275 : lOK (13, 240, 0, 68, 1) := ⟨me_6 (List.mem_of_getElem? (i := 182) rfl), mk_68⟩
set_option maxRecDepth 100000 in
theorem lk_276 : lOK (0, 424, 0, 196, 1) := ⟨me_6 (List.mem_of_getElem? (i := 186) rfl), mk_196⟩
set_option maxRecDepth 100000 in
theorem lk_277 : lOK (11, 57, 0, 141, 1) := ⟨me_6 (List.mem_of_getElem? (i := 191) rfl), mk_141⟩
set_option maxRecDepth 100000 in
theorem lk_278 : lOK (11, 66, 0, 197, 1) := ⟨me_6 (List.mem_of_getElem? (i := 192) rfl), mk_197⟩
set_option maxRecDepth 100000 in
theorem lk_279 : lOK (11, 70, 0, 198, 1) := ⟨me_6 (List.mem_of_getElem? (i := 196) rfl), mk_198⟩
set_option maxRecDepth 100000 in
theorem lk_280 : lOK (11, 96, 0, 199, 3) := ⟨me_6 (List.mem_of_getElem? (i := 200) rfl), mk_199⟩
set_option maxRecDepth 100000 in
theorem lk_281 : lOK (11, 137, 0, 88, 3) := ⟨me_6 (List.mem_of_getElem? (i := 204) rfl), mk_88⟩
set_option maxRecDepth 100000 in
theorem lk_282 : lOK (11, 140, 0, 125, 1) := ⟨me_6 (List.mem_of_getElem? (i := 205) rfl), mk_125⟩
set_option maxRecDepth 100000 in
theorem lk_283 : lOK (11, 143, 0, 126, 1) := ⟨me_6 (List.mem_of_getElem? (i := 206) rfl), mk_126⟩
set_option maxRecDepth 100000 in
theorem lk_284 : lOK (11, 146, 0, 89, 3) := ⟨me_6 (List.mem_of_getElem? (i := 207) rfl), mk_89⟩
set_option maxRecDepth 100000 in
theorem lk_285 : lOK (11, 121, 0, 121, 1) := ⟨me_6 (List.mem_of_getElem? (i := 208) rfl), mk_121⟩
set_option maxRecDepth 100000 in
theorem lk_286 : lOK (11, 100, 0, 200, 1) := ⟨me_6 (List.mem_of_getElem? (i := 209) rfl), mk_200⟩
set_option maxRecDepth 100000 in
theorem lk_287 : lOK (11, 150, 0, 131, 1) := ⟨me_6 (List.mem_of_getElem? (i := 213) rfl), mk_131⟩
set_option maxRecDepth 100000 in
theorem lk_288 : lOK (11, 103, 0, 201, 3) := ⟨me_6 (List.mem_of_getElem? (i := 214) rfl), mk_201⟩
set_option maxRecDepth 100000 in
theorem lk_289 : lOK (11, 154, 0, 90, 3) := ⟨me_6 (List.mem_of_getElem? (i := 218) rfl), mk_90⟩
set_option maxRecDepth 100000 in
theorem lk_290 : lOK (11, 157, 0, 92, 3) := ⟨me_6 (List.mem_of_getElem? (i := 219) rfl), mk_92⟩
set_option maxRecDepth 100000 in
theorem lk_291 : lOK (11, 106, 0, 202, 1) := ⟨me_6 (List.mem_of_getElem? (i := 220) rfl), mk_202⟩
set_option maxRecDepth 100000 in
theorem lk_292 : lOK (11, 161, 0, 203, 1) := ⟨me_6 (List.mem_of_getElem? (i := 224) rfl), mk_203⟩
set_option maxRecDepth 100000 in
theorem lk_293 : lOK (11, 168, 0, 111, 1) := ⟨me_6 (List.mem_of_getElem? (i := 229) rfl), mk_111⟩
set_option maxRecDepth 100000 in
theorem lk_294 : lOK (11, 174, 0, 101, 1) := ⟨me_6 (List.mem_of_getElem? (i := 230) rfl), mk_101⟩
set_option maxRecDepth 100000 in
theorem lk_295 : lOK (11, 177, 0, 103, 1) := ⟨me_6 (List.mem_of_getElem? (i := 231) rfl), mk_103⟩
set_option maxRecDepth 100000 in
theorem lk_296 : lOK (11, 180, 0, 96, 2) := ⟨me_6 (List.mem_of_getElem? (i := 232) rfl), mk_96⟩
set_option maxRecDepth 100000 in
theorem lk_297 : lOK (11, 118, 0, 204, 1) := ⟨me_6 (List.mem_of_getElem? (i := 233) rfl), mk_204⟩
set_option maxRecDepth 100000 in
theorem lk_298 : lOK (11, 124, 0, 120, 1) := ⟨me_6 (List.mem_of_getElem? (i := 237) rfl), mk_120⟩
set_option maxRecDepth 100000 in
theorem lk_299 : lOK (11, 131, 0, 102, 1) := ⟨me_6 (List.mem_of_getElem? (i := 238) rfl), mk_102⟩
set_option maxRecDepth 100000 in
theorem lk_300 : lOK (11, 76, 1, 369, 1) := ⟨me_6 (List.mem_of_getElem? (i := 239) rfl), mk_369⟩
set_option maxRecDepth 100000 in
theorem lk_301 : lOK (0, 427, 0, 205, 1) := ⟨me_7 (List.mem_of_getElem? (i := 0) rfl), mk_205⟩
set_option maxRecDepth 100000 in
theorem lk_302 : lOK (13, 244, 0, 69, 1) := ⟨me_7 (List.mem_of_getElem? (i := 4) rfl), mk_69⟩
set_option maxRecDepth 100000 in
theorem lk_303 : lOK (13, 248, 0, 70, 2) := ⟨me_7 (List.mem_of_getElem? (i := 8) rfl), mk_70⟩
set_option maxRecDepth 100000 in
theorem lk_304 : lOK (13, 252, 0, 71, 0) := ⟨me_7 (List.mem_of_getElem? (i := 12) rfl), mk_71⟩
set_option maxRecDepth 100000 in
theorem lk_305 : lOK (13, 256, 0, 72, 0) := ⟨me_7 (List.mem_of_getElem? (i := 16) rfl), mk_72⟩
set_option maxRecDepth 100000 in
theorem lk_306 : lOK (13, 12, 2, 206, 0) := ⟨me_7 (List.mem_of_getElem? (i := 22) rfl), mk_206⟩
set_option maxRecDepth 100000 in
theorem lk_307 : lOK (12, 1, 3, 0, 0) := ⟨by decide, me_7 (List.mem_of_getElem? (i := 25) rfl)⟩
set_option maxRecDepth 100000 in
theorem lk_308 : lOK (12, 83, 0, 207, 1) := ⟨me_7 (List.mem_of_getElem? (i := 26) rfl), mk_207⟩
set_option maxRecDepth 100000 in
theorem lk_309 : lOK (13, 17, 0, 208, 0) := ⟨me_7 (List.mem_of_getElem? (i := 169) rfl), mk_208⟩
set_option maxRecDepth 100000 in
theorem lk_310 : lOK (13, 22, 0, 209, 0) := ⟨me_7 (List.mem_of_getElem? (i := 173) rfl), mk_209⟩
set_option maxRecDepth 100000 in
theorem lk_311 : lOK (13, 26, 0, 210, 0) := ⟨me_7 (List.mem_of_getElem? (i := 177) rfl), mk_210⟩
set_option maxRecDepth 100000 in
theorem lk_312 : lOK (13, 31, 0, 211, 3) := ⟨me_7 (List.mem_of_getElem? (i := 181) rfl), mk_211⟩
set_option maxRecDepth 100000 in
theorem lk_313 : lOK (12, 104, 1, 212, 1) := ⟨me_7 (List.mem_of_getElem? (i := 185) rfl), mk_212⟩
set_option maxRecDepth 100000 in
theorem lk_314 : lOK (12, 100, 0, 213, 1) := ⟨me_7 (List.mem_of_getElem? (i := 188) rfl), mk_213⟩
set_option maxRecDepth 100000 in
theorem lk_315 : lOK (13, 38, 0, 214, 3) := ⟨me_7 (List.mem_of_getElem? (i := 192) rfl), mk_214⟩
set_option maxRecDepth 100000 in
theorem lk_316 : lOK (12, 107, 0, 215, 2) := ⟨me_7 (List.mem_of_getElem? (i := 196) rfl), mk_215⟩
set_option maxRecDepth 100000 in
theorem lk_317 : lOK (12, 111, 1, 216, 2) := ⟨me_7 (List.mem_of_getElem? (i := 200) rfl), mk_216⟩
set_option maxRecDepth 100000 in
theorem lk_318 : lOK (13, 43, 0, 217, 2) := ⟨me_7 (List.mem_of_getElem? (i := 203) rfl), mk_217⟩
set_option maxRecDepth 100000 in
theorem lk_319 : lOK (13, 48, 0, 218, 5) := ⟨me_7 (List.mem_of_getElem? (i := 208) rfl), mk_218⟩
set_option maxRecDepth 100000 in
theorem lk_320 : lOK (13, 53, 0, 219, 5) := ⟨me_7 (List.mem_of_getElem? (i := 212) rfl), mk_219⟩
set_option maxRecDepth 100000 in
theorem lk_321 : lOK (12, 120, 0, 220, 1) := ⟨me_7 (List.mem_of_getElem? (i := 216) rfl), mk_220⟩
set_option maxRecDepth 100000 in
theorem lk_322 : lOK (13, 66, 0, 221, 1) := ⟨me_7 (List.mem_of_getElem? (i := 220) rfl), mk_221⟩
set_option maxRecDepth 100000 in
theorem lk_323 : lOK (13, 58, 0, 222, 1) := ⟨me_7 (List.mem_of_getElem? (i := 224) rfl), mk_222⟩
set_option maxRecDepth 100000 in
theorem lk_324 : lOK (12, 226, 0, 223, 2) := ⟨me_7 (List.mem_of_getElem? (i := 228) rfl), mk_223⟩
set_option maxRecDepth 100000 in
theorem lk_325 : lOK (12, 169, 0, 224, 0) := ⟨me_7 (List.mem_of_getElem? (i := 232) rfl), mk_224⟩
set_option maxRecDepth 100000 in
theorem lk_326 : lOK (12, 129, 0, 225, 1) := ⟨me_7 (List.mem_of_getElem? (i := 236) rfl), mk_225⟩
set_option maxRecDepth 100000 in
theorem lk_327 : lOK (12, 141, 1, 226, 1) := ⟨me_8 (List.mem_of_getElem? (i := 0) rfl), mk_226⟩
set_option maxRecDepth 100000 in
theorem lk_328 : lOK (12, 144, 1, 227, 1) := ⟨me_8 (List.mem_of_getElem? (i := 3) rfl), mk_227⟩
set_option maxRecDepth 100000 in
theorem lk_329 : lOK (12, 148, 8, 0, 0) := ⟨by decide, me_8 (List.mem_of_getElem? (i := 7) rfl)⟩
set_option maxRecDepth 100000 in
theorem lk_330 : lOK (12, 93, 0, 228, 1) := ⟨me_8 (List.mem_of_getElem? (i := 8) rfl), mk_228⟩
set_option maxRecDepth 100000 in
theorem lk_331 : lOK (12, 229, 0, 229, 0) := ⟨me_8 (List.mem_of_getElem? (i := 12) rfl), mk_229⟩
set_option maxRecDepth 100000 in
theorem lk_332 : lOK (12, 178, 0, 230, 1) := ⟨me_8 (List.mem_of_getElem? (i := 17) rfl), mk_230⟩
set_option maxRecDepth 100000 in
theorem lk_333 : lOK (12, 153, 11, 0, 0) := ⟨by decide, me_8 (List.mem_of_getElem? (i := 21) rfl)⟩
set_option maxRecDepth 100000 in
theorem lk_334 : lOK (12, 159, 12, 0, 0) := ⟨by decide, me_8 (List.mem_of_getElem? (i := 22) rfl)⟩
set_option maxRecDepth 100000 in
theorem lk_335 : lOK (12, 175, 0, 231, 1) := ⟨me_8 (List.mem_of_getElem? (i := 23) rfl), mk_231⟩
set_option maxRecDepth 100000 in
theorem lk_336 : lOK (12, 213, 0, 232, 0) := ⟨me_8 (List.mem_of_getElem? (i := 27) rfl), mk_232⟩
set_option maxRecDepth 100000 in
theorem lk_337 : lOK (12, 188, 0, 233, 3) := ⟨me_8 (List.mem_of_getElem? (i := 31) rfl), mk_233⟩
set_option maxRecDepth 100000 in
theorem lk_338 : lOK (12, 192, 0, 234, 2) := ⟨me_8 (List.mem_of_getElem? (i := 35) rfl), mk_234⟩
set_option maxRecDepth 100000 in
theorem lk_339 : lOK (12, 217, 0, 235, 0) := ⟨me_8 (List.mem_of_getElem? (i := 39) rfl), mk_235⟩
set_option maxRecDepth 100000 in
theorem lk_340 : lOK (12, 196, 0, 236, 2) := ⟨me_8 (List.mem_of_getElem? (i := 43) rfl), mk_236⟩
set_option maxRecDepth 100000 in
theorem lk_341 : lOK (12, 200, 0, 237, 1) := ⟨me_8 (List.mem_of_getElem? (i := 47) rfl), mk_237⟩
set_option maxRecDepth 100000 in
theorem lk_342 : lOK (12, 220, 0, 238, 0) := ⟨me_8 (List.mem_of_getElem? (i := 51) rfl), mk_238⟩
set_option maxRecDepth 100000 in
theorem lk_343 : lOK (12, 203, 0, 239, 1) := ⟨me_8 (List.mem_of_getElem? (i := 55) rfl), mk_239⟩
set_option maxRecDepth 100000 in
theorem lk_344 : lOK (12, 207, 0, 240, 2) := ⟨me_8 (List.mem_of_getElem? (i := 59) rfl), mk_240⟩
set_option maxRecDepth 100000 in
theorem lk_345 : lOK (12, 182, 0, 241, 0) := ⟨me_8 (List.mem_of_getElem? (i := 63) rfl), mk_241⟩
set_option maxRecDepth 100000 in
theorem lk_346 : lOK (12, 223, 0, 242, 1) := ⟨me_8 (List.mem_of_getElem? (i := 67) rfl), mk_242⟩
set_option maxRecDepth 100000 in
theorem lk_347 : lOK (12, 172, 0, 243, 1) := ⟨me_8 (List.mem_of_getElem? (i := 71) rfl), mk_243⟩
set_option maxRecDepth 100000 in
theorem lk_348 : lOK (12, 232, 0, 244, 1) := ⟨me_8 (List.mem_of_getElem? (i := 75) rfl), mk_244⟩
set_option maxRecDepth 100000 in
theorem lk_349 : lOK (12, 97, 0, 245, 1) := ⟨me_8 (List.mem_of_getElem? (i := 79) rfl), mk_245⟩
set_option maxRecDepth 100000 in
theorem lk_350 : lOK (13, 62, 0, 246, 1) := ⟨me_8 (List.mem_of_getElem? (i := 83) rfl), mk_246⟩
set_option maxRecDepth 100000 in
theorem lk_351 : lOK (12, 250, 0, 247, 0) := ⟨me_8 (List.mem_of_getElem? (i := 87) rfl), mk_247⟩
set_option maxRecDepth 100000 in
theorem lk_352 : lOK (12, 247, 0, 248, 2) := ⟨me_8 (List.mem_of_getElem? (i := 91) rfl), mk_248⟩
set_option maxRecDepth 100000 in
theorem lk_353 : lOK (12, 235, 0, 249, 1) := ⟨me_8 (List.mem_of_getElem? (i := 95) rfl), mk_249⟩
set_option maxRecDepth 100000 in
theorem lk_354 : lOK (12, 238, 0, 250, 1) := ⟨me_8 (List.mem_of_getElem? (i := 99) rfl), mk_250⟩
set_option maxRecDepth 100000 in
theorem lk_355 : lOK (13, 70, 0, 251, 1) := ⟨me_8 (List.mem_of_getElem? (i := 103) rfl), mk_251⟩
set_option maxRecDepth 100000 in
theorem lk_356 : lOK (12, 298, 0, 252, 1) := ⟨me_8 (List.mem_of_getElem? (i := 107) rfl), mk_252⟩
set_option maxRecDepth 100000 in
theorem lk_357 : lOK (12, 280, 0, 253, 1) := ⟨me_8 (List.mem_of_getElem? (i := 111) rfl), mk_253⟩
set_option maxRecDepth 100000 in
theorem lk_358 : lOK (12, 268, 0, 254, 2) := ⟨me_8 (List.mem_of_getElem? (i := 115) rfl), mk_254⟩
set_option maxRecDepth 100000 in
theorem lk_359 : lOK (12, 253, 1, 255, 1) := ⟨me_8 (List.mem_of_getElem? (i := 119) rfl), mk_255⟩
set_option maxRecDepth 100000 in
theorem lk_360 : lOK (12, 289, 0, 256, 1) := ⟨me_8 (List.mem_of_getElem? (i := 122) rfl), mk_256⟩
set_option maxRecDepth 100000 in
theorem lk_361 : lOK (12, 283, 0, 257, 2) := ⟨me_8 (List.mem_of_getElem? (i := 126) rfl), mk_257⟩
set_option maxRecDepth 100000 in
theorem lk_362 : lOK (12, 271, 1, 258, 2) := ⟨me_8 (List.mem_of_getElem? (i := 130) rfl), mk_258⟩
set_option maxRecDepth 100000 in
theorem lk_363 : lOK (12, 286, 0, 259, 1) := ⟨me_8 (List.mem_of_getElem? (i := 133) rfl), mk_259⟩
set_option maxRecDepth 100000 in
theorem lk_364 : lOK (12, 301, 0, 260, 1) := ⟨me_8 (List.mem_of_getElem? (i := 137) rfl), mk_260⟩
set_option maxRecDepth 100000 in
theorem lk_365 : lOK (12, 292, 0, 261, 1) := ⟨me_8 (List.mem_of_getElem? (i := 141) rfl), mk_261⟩
set_option maxRecDepth 100000 in
theorem lk_366 : lOK (12, 277, 0, 262, 2) := ⟨me_8 (List.mem_of_getElem? (i := 145) rfl), mk_262⟩
set_option maxRecDepth 100000 in
theorem lk_367 : lOK (12, 256, 0, 263, 1) := ⟨me_8 (List.mem_of_getElem? (i := 149) rfl), mk_263⟩
set_option maxRecDepth 100000 in
theorem lk_368 : lOK (12, 295, 0, 264, 1) := ⟨me_8 (List.mem_of_getElem? (i := 153) rfl), mk_264⟩
set_option maxRecDepth 100000 in
theorem lk_369 : lOK (12, 265, 0, 265, 2) := ⟨me_8 (List.mem_of_getElem? (i := 157) rfl), mk_265⟩
set_option maxRecDepth 100000 in
theorem lk_370 : lOK (12, 262, 1, 266, 1) := ⟨me_8 (List.mem_of_getElem? (i := 161) rfl), mk_266⟩
set_option maxRecDepth 100000 in
theorem lk_371 : lOK (12, 304, 0, 267, 0) := ⟨me_8 (List.mem_of_getElem? (i := 164) rfl), mk_267⟩
set_option maxRecDepth 100000 in
theorem lk_372 : lOK (13, 75, 0, 268, 3) := ⟨me_8 (List.mem_of_getElem? (i := 168) rfl), mk_268⟩
set_option maxRecDepth 100000 in
theorem lk_373 : lOK (12, 307, 0, 269, 1) := ⟨me_8 (List.mem_of_getElem? (i := 172) rfl), mk_269⟩
set_option maxRecDepth 100000 in
theorem lk_374 : lOK (13, 80, 0, 270, 2) := ⟨me_8 (List.mem_of_getElem? (i := 176) rfl), mk_270⟩
set_option maxRecDepth 100000 in
theorem lk_375 : lOK (12, 259, 0, 271, 1) := ⟨me_8 (List.mem_of_getElem? (i := 180) rfl), mk_271⟩
set_option maxRecDepth 100000 in
theorem lk_376 : lOK (13, 84, 0, 272, 3) := ⟨me_8 (List.mem_of_getElem? (i := 184) rfl), mk_272⟩
set_option maxRecDepth 100000 in
theorem lk_377 : lOK (12, 310, 0, 273, 2) := ⟨me_8 (List.mem_of_getElem? (i := 188) rfl), mk_273⟩
set_option maxRecDepth 100000 in
theorem lk_378 : lOK (13, 89, 0, 274, 4) := ⟨me_8 (List.mem_of_getElem? (i := 192) rfl), mk_274⟩
set_option maxRecDepth 100000 in
theorem lk_379 : lOK (12, 328, 0, 275, 2) := ⟨me_8 (List.mem_of_getElem? (i := 196) rfl), mk_275⟩
set_option maxRecDepth 100000 in
theorem lk_380 : lOK (12, 322, 0, 276, 2) := ⟨me_8 (List.mem_of_getElem? (i := 200) rfl), mk_276⟩
set_option maxRecDepth 100000 in
theorem lk_381 : lOK (12, 337, 0, 277, 3) := ⟨me_8 (List.mem_of_getElem? (i := 204) rfl), mk_277⟩
set_option maxRecDepth 100000 in
theorem lk_382 : lOK (12, 325, 1, 278, 2) := ⟨me_8 (List.mem_of_getElem? (i := 208) rfl), mk_278⟩
set_option maxRecDepth 100000 in
theorem lk_383 : lOK (12, 274, 9, 0, 0) := ⟨by decide, me_8 (List.mem_of_getElem? (i := 211) rfl)⟩
set_option maxRecDepth 100000 in
theorem lk_384 : lOK (12, 340, 0, 279, 3) := ⟨me_8 (List.mem_of_getElem? (i := 214) rfl), mk_279⟩
set_option maxRecDepth 100000 in
theorem lk_385 : lOK (12, 334, 0, 280, 2) := ⟨me_8 (List.mem_of_getElem? (i := 218) rfl), mk_280⟩
set_option maxRecDepth 100000 in
theorem lk_386 : lOK (12, 316, 0, 281, 1) := ⟨me_8 (List.mem_of_getElem? (i := 222) rfl), mk_281⟩
set_option maxRecDepth 100000 in
theorem lk_387 : lOK (12, 319, 0, 282, 3) := ⟨me_8 (List.mem_of_getElem? (i := 226) rfl), mk_282⟩
set_option maxRecDepth 100000 in
theorem lk_388 : lOK (12, 313, 7, 0, 0) := ⟨by decide, me_8 (List.mem_of_getElem? (i := 230) rfl)⟩
set_option maxRecDepth 100000 in
theorem lk_389 : lOK (13, 93, 0, 283, 1) := ⟨me_8 (List.mem_of_getElem? (i := 231) rfl), mk_283⟩
set_option maxRecDepth 100000 in
theorem lk_390 : lOK (12, 346, 1, 284, 3) := ⟨me_8 (List.mem_of_getElem? (i := 236) rfl), mk_284⟩
set_option maxRecDepth 100000 in
theorem lk_391 : lOK (12, 350, 0, 285, 1) := ⟨me_8 (List.mem_of_getElem? (i := 239) rfl), mk_285⟩
set_option maxRecDepth 100000 in
theorem lk_392 : lOK (13, 97, 0, 286, 3) := ⟨me_9 (List.mem_of_getElem? (i := 3) rfl), mk_286⟩
set_option maxRecDepth 100000 in
theorem lk_393 : lOK (12, 357, 0, 287, 2) := ⟨me_9 (List.mem_of_getElem? (i := 7) rfl), mk_287⟩
set_option maxRecDepth 100000 in
theorem lk_394 : lOK (12, 362, 0, 288, 3) := ⟨me_9 (List.mem_of_getElem? (i := 12) rfl), mk_288⟩
set_option maxRecDepth 100000 in
theorem lk_395 : lOK (12, 354, 0, 289, 2) := ⟨me_9 (List.mem_of_getElem? (i := 16) rfl), mk_289⟩
set_option maxRecDepth 100000 in
theorem lk_396 : lOK (13, 101, 0, 290, 2) := ⟨me_9 (List.mem_of_getElem? (i := 21) rfl), mk_290⟩
set_option maxRecDepth 100000 in
theorem lk_397 : lOK (13, 106, 0, 291, 2) := ⟨me_9 (List.mem_of_getElem? (i := 25) rfl), mk_291⟩
set_option maxRecDepth 100000 in
theorem lk_398 : lOK (13, 110, 0, 292, 3) := ⟨me_9 (List.mem_of_getElem? (i := 29) rfl), mk_292⟩
set_option maxRecDepth 100000 in
theorem lk_399 : lOK (13, 114, 0, 293, 2) := ⟨me_9 (List.mem_of_getElem? (i := 33) rfl), mk_293⟩
set_option maxRecDepth 100000 in
theorem lk_400 : lOK (13, 118, 0, 294, 3) := ⟨me_9 (List.mem_of_getElem? (i := 37) rfl), mk_294⟩
set_option maxRecDepth 100000 in
theorem lk_401 : lOK (13, 123, 0, 295, 1) := ⟨me_9 (List.mem_of_getElem? (i := 41) rfl), mk_295⟩
set_option maxRecDepth 100000 in
theorem lk_402 : lOK (13, 127, 0, 296, 2) := ⟨me_9 (List.mem_of_getElem? (i := 46) rfl), mk_296⟩
set_option maxRecDepth 100000 in
theorem lk_403 : lOK (13, 131, 0, 297, 4) := ⟨me_9 (List.mem_of_getElem? (i := 50) rfl), mk_297⟩
set_option maxRecDepth 100000 in
theorem lk_404 : lOK (13, 135, 0, 298, 1) := ⟨me_9 (List.mem_of_getElem? (i := 54) rfl), mk_298⟩
set_option maxRecDepth 100000 in
theorem lk_405 : lOK (13, 139, 0, 299, 2) := ⟨me_9 (List.mem_of_getElem? (i := 58) rfl), mk_299⟩
set_option maxRecDepth 100000 in
theorem lk_406 : lOK (13, 143, 0, 300, 2) := ⟨me_9 (List.mem_of_getElem? (i := 62) rfl), mk_300⟩
set_option maxRecDepth 100000 in
theorem lk_407 : lOK (13, 147, 0, 301, 3) := ⟨me_9 (List.mem_of_getElem? (i := 66) rfl), mk_301⟩
set_option maxRecDepth 100000 in
theorem lk_408 : lOK (12, 367, 0, 302, 2) := ⟨me_9 (List.mem_of_getElem? (i := 70) rfl), mk_302⟩
set_option maxRecDepth 100000 in
theorem lk_409 : lOK (13, 151, 0, 303, 1) := ⟨me_9 (List.mem_of_getElem? (i := 74) rfl), mk_303⟩
set_option maxRecDepth 100000 in
theorem lk_410 : lOK (13, 155, 0, 304, 3) := ⟨me_9 (List.mem_of_getElem? (i := 78) rfl), mk_304⟩
set_option maxRecDepth 100000 in
theorem lk_411 : lOK (12, 370, 1, 305, 1) := ⟨me_9 (List.mem_of_getElem? (i := 82) rfl), mk_305⟩
set_option maxRecDepth 100000 in
theorem lk_412 : lOK (12, 373, 0, 306, 1) := ⟨me_9 (List.mem_of_getElem? (i := 85) rfl), mk_306⟩
set_option maxRecDepth 100000 in
theorem lk_413 : lOK (12, 376, 0, 307, 1) := ⟨me_9 (List.mem_of_getElem? (i := 89) rfl), mk_307⟩
set_option maxRecDepth 100000 in
theorem lk_414 : lOK (13, 159, 0, 308, 1) := ⟨me_9 (List.mem_of_getElem? (i := 93) rfl), mk_308⟩
set_option maxRecDepth 100000 in
theorem lk_415 : lOK (13, 163, 0, 309, 3) := ⟨me_9 (List.mem_of_getElem? (i := 97) rfl), mk_309⟩
set_option maxRecDepth 100000 in
theorem lk_416 : lOK (13, 167, 0, 310, 1) := ⟨me_9 (List.mem_of_getElem? (i := 101) rfl), mk_310⟩
set_option maxRecDepth 100000 in
theorem lk_417 : lOK (13, 171, 0, 311, 1) := ⟨me_9 (List.mem_of_getElem? (i := 105) rfl), mk_311⟩
set_option maxRecDepth 100000 in
theorem lk_418 : lOK (12, 386, 0, 312, 2) := ⟨me_9 (List.mem_of_getElem? (i := 109) rfl), mk_312⟩
set_option maxRecDepth 100000 in
theorem lk_419 : lOK (12, 379, 0, 313, 3) := ⟨me_9 (List.mem_of_getElem? (i := 113) rfl), mk_313⟩
set_option maxRecDepth 100000 in
theorem lk_420 : lOK (12, 383, 0, 314, 1) := ⟨me_9 (List.mem_of_getElem? (i := 117) rfl), mk_314⟩
set_option maxRecDepth 100000 in
theorem lk_421 : lOK (12, 389, 0, 315, 1) := ⟨me_9 (List.mem_of_getElem? (i := 121) rfl), mk_315⟩
set_option maxRecDepth 100000 in
theorem lk_422 : lOK (13, 175, 0, 316, 5) := ⟨me_9 (List.mem_of_getElem? (i := 125) rfl), mk_316⟩
set_option maxRecDepth 100000 in
theorem lk_423 : lOK (13, 179, 0, 317, 1) := ⟨me_9 (List.mem_of_getElem? (i := 129) rfl), mk_317⟩
set_option maxRecDepth 100000 in
theorem lk_424 : lOK (12, 392, 0, 318, 2) := ⟨me_9 (List.mem_of_getElem? (i := 133) rfl), mk_318⟩
set_option maxRecDepth 100000 in
theorem lk_425 : lOK (13, 183, 0, 319, 3) := ⟨me_9 (List.mem_of_getElem? (i := 137) rfl), mk_319⟩
set_option maxRecDepth 100000 in
theorem lk_426 : lOK (13, 187, 0, 320, 2) := ⟨me_9 (List.mem_of_getElem? (i := 141) rfl), mk_320⟩
set_option maxRecDepth 100000 in
theorem lk_427 : lOK (12, 418, 0, 321, 3) := ⟨me_9 (List.mem_of_getElem? (i := 145) rfl), mk_321⟩
set_option maxRecDepth 100000 in
theorem lk_428 : lOK (12, 406, 0, 322, 3) := ⟨me_9 (List.mem_of_getElem? (i := 150) rfl), mk_322⟩
set_option maxRecDepth 100000 in
theorem lk_429 : lOK (12, 401, 1, 323, 1) := ⟨me_9 (List.mem_of_getElem? (i := 154) rfl), mk_323⟩
set_option maxRecDepth 100000 in
theorem lk_430 : lOK (12, 410, 0, 324, 1) := ⟨me_9 (List.mem_of_getElem? (i := 157) rfl), mk_324⟩
set_option maxRecDepth 100000 in
theorem lk_431 : lOK (13, 191, 0, 325, 3) := ⟨me_9 (List.mem_of_getElem? (i := 161) rfl), mk_325⟩
set_option maxRecDepth 100000 in
theorem lk_432 : lOK (12, 422, 0, 326, 4) := ⟨me_9 (List.mem_of_getElem? (i := 165) rfl), mk_326⟩
set_option maxRecDepth 100000 in
theorem lk_433 : lOK (12, 415, 1, 327, 2) := ⟨me_9 (List.mem_of_getElem? (i := 170) rfl), mk_327⟩
set_option maxRecDepth 100000 in
theorem lk_434 : lOK (13, 195, 0, 328, 2) := ⟨me_9 (List.mem_of_getElem? (i := 173) rfl), mk_328⟩
set_option maxRecDepth 100000 in
theorem lk_435 : lOK (13, 199, 0, 329, 3) := ⟨me_9 (List.mem_of_getElem? (i := 177) rfl), mk_329⟩
set_option maxRecDepth 100000 in
theorem lk_436 : lOK (13, 203, 0, 330, 1) := ⟨me_9 (List.mem_of_getElem? (i := 181) rfl), mk_330⟩
set_option maxRecDepth 100000 in
theorem lk_437 : lOK (12, 426, 0, 331, 1) := ⟨me_9 (List.mem_of_getElem? (i := 185) rfl), mk_331⟩
set_option maxRecDepth 100000 in
theorem lk_438 : lOK (13, 207, 0, 332, 0) := ⟨me_9 (List.mem_of_getElem? (i := 189) rfl), mk_332⟩
set_option maxRecDepth 100000 in
theorem lk_439 : lOK (13, 211, 0, 333, 3) := ⟨me_9 (List.mem_of_getElem? (i := 193) rfl), mk_333⟩
set_option maxRecDepth 100000 in
theorem lk_440 : lOK (12, 443, 0, 334, 3) := ⟨me_9 (List.mem_of_getElem? (i := 197) rfl), mk_334⟩
set_option maxRecDepth 100000 in
theorem lk_441 : lOK (12, 446, 0, 335, 3) := ⟨me_9 (List.mem_of_getElem? (i := 201) rfl), mk_335⟩
set_option maxRecDepth 100000 in
theorem lk_442 : lOK (12, 432, 0, 336, 2) := ⟨me_9 (List.mem_of_getElem? (i := 205) rfl), mk_336⟩
set_option maxRecDepth 100000 in
theorem lk_443 : lOK (12, 436, 0, 337, 2) := ⟨me_9 (List.mem_of_getElem? (i := 209) rfl), mk_337⟩
set_option maxRecDepth 100000 in
theorem lk_444 : lOK (12, 439, 0, 338, 2) := ⟨me_9 (List.mem_of_getElem? (i := 213) rfl), mk_338⟩
set_option maxRecDepth 100000 in
theorem lk_445 : lOK (13, 215, 0, 339, 4) := ⟨me_9 (List.mem_of_getElem? (i := 217) rfl), mk_339⟩
set_option maxRecDepth 100000 in
theorem lk_446 : lOK (13, 219, 0, 340, 1) := ⟨me_9 (List.mem_of_getElem? (i := 221) rfl), mk_340⟩
set_option maxRecDepth 100000 in
theorem lk_447 : lOK (13, 223, 0, 341, 1) := ⟨me_9 (List.mem_of_getElem? (i := 225) rfl), mk_341⟩
set_option maxRecDepth 100000 in
theorem lk_448 : lOK (12, 455, 0, 342, 1) := ⟨me_9 (List.mem_of_getElem? (i := 229) rfl), mk_342⟩
set_option maxRecDepth 100000 in
theorem lk_449 : lOK (12, 458, 0, 343, 1) := ⟨me_9 (List.mem_of_getElem? (i := 233) rfl), mk_343⟩
set_option maxRecDepth 100000 in
theorem lk_450 : lOK (13, 227, 0, 344, 1) := ⟨me_9 (List.mem_of_getElem? (i := 237) rfl), mk_344⟩
set_option maxRecDepth 100000 in
theorem lk_451 : lOK (13, 231, 0, 345, 1) := ⟨me_10 (List.mem_of_getElem? (i := 1) rfl), mk_345⟩
set_option maxRecDepth 100000 in
theorem lk_452 : lOK (12, 463, 0, 346, 1) := ⟨me_10 (List.mem_of_getElem? (i := 6) rfl), mk_346⟩
set_option maxRecDepth 100000 in
theorem lk_453 : lOK (12, 467, 0, 347, 2) := ⟨me_10 (List.mem_of_getElem? (i := 10) rfl), mk_347⟩
set_option maxRecDepth 100000 in
theorem lk_454 : lOK (13, 235, 0, 348, 0) := ⟨me_10 (List.mem_of_getElem? (i := 14) rfl), mk_348⟩
set_option maxRecDepth 100000 in
theorem lk_455 : lOK (13, 239, 0, 349, 2) := ⟨me_10 (List.mem_of_getElem? (i := 18) rfl), mk_349⟩
set_option maxRecDepth 100000 in
theorem lk_456 : lOK (13, 243, 0, 350, 1) := ⟨me_10 (List.mem_of_getElem? (i := 22) rfl), mk_350⟩
set_option maxRecDepth 100000 in
theorem lk_457 : lOK (12, 505, 0, 351, 1) := ⟨me_10 (List.mem_of_getElem? (i := 27) rfl), mk_351⟩
set_option maxRecDepth 100000 in
theorem lk_458 : lOK (12, 494, 0, 352, 1) := ⟨me_10 (List.mem_of_getElem? (i := 31) rfl), mk_352⟩
set_option maxRecDepth 100000 in
theorem lk_459 : lOK (12, 481, 0, 353, 4) := ⟨me_10 (List.mem_of_getElem? (i := 35) rfl), mk_353⟩
set_option maxRecDepth 100000 in
theorem lk_460 : lOK (12, 475, 1, 354, 1) := ⟨me_10 (List.mem_of_getElem? (i := 39) rfl), mk_354⟩
set_option maxRecDepth 100000 in
theorem lk_461 : lOK (12, 485, 0, 355, 1) := ⟨me_10 (List.mem_of_getElem? (i := 42) rfl), mk_355⟩
set_option maxRecDepth 100000 in
theorem lk_462 : lOK (12, 488, 0, 356, 1) := ⟨me_10 (List.mem_of_getElem? (i := 46) rfl), mk_356⟩
set_option maxRecDepth 100000 in
theorem lk_463 : lOK (12, 478, 0, 357, 1) := ⟨me_10 (List.mem_of_getElem? (i := 50) rfl), mk_357⟩
set_option maxRecDepth 100000 in
theorem lk_464 : lOK (12, 497, 0, 358, 1) := ⟨me_10 (List.mem_of_getElem? (i := 55) rfl), mk_358⟩
set_option maxRecDepth 100000 in
theorem lk_465 : lOK (12, 500, 0, 359, 1) := ⟨me_10 (List.mem_of_getElem? (i := 59) rfl), mk_359⟩
set_option maxRecDepth 100000 in
theorem lk_466 : lOK (13, 247, 0, 360, 1) := ⟨me_10 (List.mem_of_getElem? (i := 63) rfl), mk_360⟩
set_option maxRecDepth 100000 in
theorem lk_467 : lOK (13, 251, 0, 361, 2) := ⟨me_10 (List.mem_of_getElem? (i := 67) rfl), mk_361⟩
set_option maxRecDepth 100000 in
theorem lk_468 : lOK (13, 255, 0, 362, 0) := ⟨me_10 (List.mem_of_getElem? (i := 71) rfl), mk_362⟩
set_option maxRecDepth 100000 in
theorem lk_469 : lOK (12, 515, 0, 363, 2) := ⟨me_10 (List.mem_of_getElem? (i := 75) rfl), mk_363⟩
set_option maxRecDepth 100000 in
theorem lk_470 : lOK (13, 259, 0, 364, 0) := ⟨me_10 (List.mem_of_getElem? (i := 79) rfl), mk_364⟩
set_option maxRecDepth 100000 in
theorem lk_471 : lOK (2, 11, 4, 93, 0) := ⟨me_1 (List.mem_of_getElem? (i := 60) rfl), mk_93⟩
set_option maxRecDepth 100000 in
theorem lk_472 : lOK (2, 20, 4, 107, 0) := ⟨me_1 (List.mem_of_getElem? (i := 126) rfl), mk_107⟩
set_option maxRecDepth 100000 in
theorem lk_473 : lOK (2, 36, 4, 136, 0) := ⟨me_1 (List.mem_of_getElem? (i := 217) rfl), mk_136⟩
set_option maxRecDepth 100000 in
theorem lk_474 : lOK (2, 66, 5, 23, 1) := ⟨me_5 (List.mem_of_getElem? (i := 62) rfl), mk_23⟩
def lT0 : List (Nat × Nat × Nat × Nat × Nat) := [(13, 9, 2, 1, 0), (0, 1, 3, 0, 0), (0, 32, 2, 73, 0), (1, 3, 3, 0, 0), (1, 22, 1, 365, 2), (0, 39, 2, 85, 0), (2, 3, 3, 0, 0), (3, 3, 3, 0, 0), (4, 3, 3, 0, 0), (2, 27, 2, 114, 2), (5, 3, 3, 0, 0), (6, 3, 3, 0, 0), (0, 53, 2, 142, 0), (7, 3, 3, 0, 0), (7, 21, 11, 0, 0), (7, 27, 12, 0, 0), (0, 60, 2, 162, 2), (8, 3, 3, 0, 0), (0, 73, 2, 170, 3), (9, 3, 3, 0, 0), (0, 82, 2, 177, 1), (10, 3, 3, 0, 0), (10, 46, 2, 114, 2), (0, 89, 2, 195, 1), (11, 3, 3, 0, 0), (13, 13, 0, 2, 0), (13, 18, 0, 3, 0), (13, 23, 0, 4, 0), (13, 27, 0, 5, 3), (0, 100, 0, 74, 1), (0, 104, 0, 6, 1), (0, 107, 0, 75, 3)]
set_option maxRecDepth 100000 in
theorem lT0_ok : ∀ t ∈ lT0, lOK t := List.forall_mem_cons.mpr ⟨lk_0, List.forall_mem_cons.mpr ⟨lk_1, List.forall_mem_cons.mpr ⟨lk_2, List.forall_mem_cons.mpr ⟨lk_3, List.forall_mem_cons.mpr ⟨lk_4, List.forall_mem_cons.mpr ⟨lk_5, List.forall_mem_cons.mpr ⟨lk_6, List.forall_mem_cons.mpr ⟨lk_7, List.forall_mem_cons.mpr ⟨lk_8, List.forall_mem_cons.mpr ⟨lk_9, List.forall_mem_cons.mpr ⟨lk_10, List.forall_mem_cons.mpr ⟨lk_11, List.forall_mem_cons.mpr ⟨lk_12, List.forall_mem_cons.mpr ⟨lk_13, List.forall_mem_cons.mpr ⟨lk_14, List.forall_mem_cons.mpr ⟨lk_15, List.forall_mem_cons.mpr ⟨lk_16, List.forall_mem_cons.mpr ⟨lk_17, List.forall_mem_cons.mpr ⟨lk_18, List.forall_mem_cons.mpr ⟨lk_19, List.forall_mem_cons.mpr ⟨lk_20, List.forall_mem_cons.mpr ⟨lk_21, List.forall_mem_cons.mpr ⟨lk_22, List.forall_mem_cons.mpr ⟨lk_23, List.forall_mem_cons.mpr ⟨lk_24, List.forall_mem_cons.mpr ⟨lk_25, List.forall_mem_cons.mpr ⟨lk_26, List.forall_mem_cons.mpr ⟨lk_27, List.forall_mem_cons.mpr ⟨lk_28, List.forall_mem_cons.mpr ⟨lk_29, List.forall_mem_cons.mpr ⟨lk_30, List.forall_mem_cons.mpr ⟨lk_31, fun _ h => absurd h List.not_mem_nil⟩⟩⟩⟩⟩⟩⟩⟩⟩⟩⟩⟩⟩⟩⟩⟩⟩⟩⟩⟩⟩⟩⟩⟩⟩⟩⟩⟩⟩⟩⟩⟩
def lT1 : List (Nat × Nat × Nat × Nat × Nat) := [(1, 28, 0, 74, 1), (1, 35, 1, 366, 4), (14, 13, 1, 367, 3), (0, 111, 0, 7, 0), (13, 34, 0, 8, 3), (0, 115, 0, 76, 2), (1, 32, 0, 77, 1), (0, 119, 0, 78, 3), (1, 38, 0, 79, 3), (1, 42, 1, 80, 2), (13, 39, 0, 9, 2), (0, 123, 0, 10, 1), (0, 127, 0, 81, 2), (13, 44, 0, 11, 5), (0, 131, 0, 77, 1), (0, 134, 0, 82, 2), (0, 138, 0, 79, 3), (0, 142, 0, 83, 5), (1, 48, 6, 0, 0), (13, 49, 0, 12, 5), (0, 149, 0, 13, 1), (13, 54, 0, 14, 1), (0, 153, 0, 143, 2), (7, 33, 8, 0, 0), (7, 51, 0, 144, 0), (7, 64, 0, 145, 0), (7, 67, 0, 146, 0), (0, 157, 0, 163, 0), (8, 19, 0, 86, 0), (2, 41, 0, 94, 0), (2, 48, 0, 137, 0), (8, 28, 0, 147, 0)]
set_option maxRecDepth 100000 in
theorem lT1_ok : ∀ t ∈ lT1, lOK t := List.forall_mem_cons.mpr ⟨lk_32, List.forall_mem_cons.mpr ⟨lk_33, List.forall_mem_cons.mpr ⟨lk_34, List.forall_mem_cons.mpr ⟨lk_35, List.forall_mem_cons.mpr ⟨lk_36, List.forall_mem_cons.mpr ⟨lk_37, List.forall_mem_cons.mpr ⟨lk_38, List.forall_mem_cons.mpr ⟨lk_39, List.forall_mem_cons.mpr ⟨lk_40, List.forall_mem_cons.mpr ⟨lk_41, List.forall_mem_cons.mpr ⟨lk_42, List.forall_mem_cons.mpr ⟨lk_43, List.forall_mem_cons.mpr ⟨lk_44, List.forall_mem_cons.mpr ⟨lk_45, List.forall_mem_cons.mpr ⟨lk_46, List.forall_mem_cons.mpr ⟨lk_47, List.forall_mem_cons.mpr ⟨lk_48, List.forall_mem_cons.mpr ⟨lk_49, List.forall_mem_cons.mpr ⟨lk_50, List.forall_mem_cons.mpr ⟨lk_51, List.forall_mem_cons.mpr ⟨lk_52, List.forall_mem_cons.mpr ⟨lk_53, List.forall_mem_cons.mpr ⟨lk_54, List.forall_mem_cons.mpr ⟨lk_55, List.forall_mem_cons.mpr ⟨lk_56, List.forall_mem_cons.mpr ⟨lk_57, List.forall_mem_cons.mpr ⟨lk_58, List.forall_mem_cons.mpr ⟨lk_59, List.forall_mem_cons.mpr ⟨lk_60, List.forall_mem_cons.mpr ⟨lk_61, List.forall_mem_cons.mpr ⟨lk_62, List.forall_mem_cons.mpr ⟨lk_63, fun _ h => absurd h List.not_mem_nil⟩⟩⟩⟩⟩⟩⟩⟩⟩⟩⟩⟩⟩⟩⟩⟩⟩⟩⟩⟩⟩⟩⟩⟩⟩⟩⟩⟩⟩⟩⟩⟩
def lT2 : List (Nat × Nat × Nat × Nat × Nat) := [(8, 34, 0, 148, 0), (8, 37, 0, 164, 0), (8, 49, 0, 149, 0), (8, 63, 0, 150, 1), (8, 67, 0, 165, 0), (8, 82, 0, 151, 3), (7, 84, 0, 152, 1), (7, 74, 0, 153, 1), (7, 78, 0, 150, 1), (7, 87, 0, 154, 2), (8, 86, 0, 155, 0), (8, 89, 0, 95, 5), (3, 46, 1, 365, 2), (8, 70, 0, 166, 0), (8, 73, 0, 167, 0), (8, 96, 0, 152, 1), (8, 99, 0, 156, 1), (7, 98, 0, 96, 2), (3, 58, 0, 97, 1), (8, 107, 0, 157, 4), (8, 76, 0, 168, 0), (8, 120, 0, 98, 1), (8, 79, 0, 169, 0), (8, 132, 0, 158, 1), (7, 104, 0, 159, 0), (7, 101, 0, 149, 0), (7, 108, 0, 108, 1), (8, 136, 0, 115, 2), (5, 49, 0, 116, 2), (8, 140, 0, 109, 6), (8, 44, 0, 117, 0), (5, 31, 6, 0, 0)]
set_option maxRecDepth 100000 in
theorem lT2_ok : ∀ t ∈ lT2, lOK t := List.forall_mem_cons.mpr ⟨lk_64, List.forall_mem_cons.mpr ⟨lk_65, List.forall_mem_cons.mpr ⟨lk_66, List.forall_mem_cons.mpr ⟨lk_67, List.forall_mem_cons.mpr ⟨lk_68, List.forall_mem_cons.mpr ⟨lk_69, List.forall_mem_cons.mpr ⟨lk_70, List.forall_mem_cons.mpr ⟨lk_71, List.forall_mem_cons.mpr ⟨lk_72, List.forall_mem_cons.mpr ⟨lk_73, List.forall_mem_cons.mpr ⟨lk_74, List.forall_mem_cons.mpr ⟨lk_75, List.forall_mem_cons.mpr ⟨lk_76, List.forall_mem_cons.mpr ⟨lk_77, List.forall_mem_cons.mpr ⟨lk_78, List.forall_mem_cons.mpr ⟨lk_79, List.forall_mem_cons.mpr ⟨lk_80, List.forall_mem_cons.mpr ⟨lk_81, List.forall_mem_cons.mpr ⟨lk_82, List.forall_mem_cons.mpr ⟨lk_83, List.forall_mem_cons.mpr ⟨lk_84, List.forall_mem_cons.mpr ⟨lk_85, List.forall_mem_cons.mpr ⟨lk_86, List.forall_mem_cons.mpr ⟨lk_87, List.forall_mem_cons.mpr ⟨lk_88, List.forall_mem_cons.mpr ⟨lk_89, List.forall_mem_cons.mpr ⟨lk_90, List.forall_mem_cons.mpr ⟨lk_91, List.forall_mem_cons.mpr ⟨lk_92, List.forall_mem_cons.mpr ⟨lk_93, List.forall_mem_cons.mpr ⟨lk_94, List.forall_mem_cons.mpr ⟨lk_95, fun _ h => absurd h List.not_mem_nil⟩⟩⟩⟩⟩⟩⟩⟩⟩⟩⟩⟩⟩⟩⟩⟩⟩⟩⟩⟩⟩⟩⟩⟩⟩⟩⟩⟩⟩⟩⟩⟩
def lT3 : List (Nat × Nat × Nat × Nat × Nat) := [(0, 160, 0, 15, 0), (0, 163, 0, 87, 1), (2, 49, 0, 99, 1), (3, 52, 6, 0, 0), (2, 53, 0, 110, 1), (4, 38, 6, 0, 0), (2, 56, 0, 118, 1), (2, 59, 0, 138, 1), (6, 38, 6, 0, 0), (0, 175, 0, 16, 1), (13, 59, 0, 17, 1), (0, 178, 0, 171, 0), (9, 27, 0, 137, 0), (9, 36, 0, 147, 0), (9, 42, 0, 148, 0), (9, 45, 0, 153, 1), (9, 49, 0, 172, 0), (9, 55, 0, 150, 1), (9, 63, 0, 152, 1), (9, 66, 0, 155, 0), (9, 69, 0, 139, 4), (9, 73, 0, 140, 2), (6, 44, 0, 141, 1), (9, 52, 0, 173, 0), (9, 77, 0, 149, 0), (9, 81, 1, 174, 1), (9, 87, 0, 144, 0), (9, 90, 0, 175, 1), (9, 97, 0, 154, 2), (9, 107, 0, 160, 1), (9, 115, 0, 156, 1), (9, 119, 0, 161, 0)]
set_option maxRecDepth 100000 in
theorem lT3_ok : ∀ t ∈ lT3, lOK t := List.forall_mem_cons.mpr ⟨lk_96, List.forall_mem_cons.mpr ⟨lk_97, List.forall_mem_cons.mpr ⟨lk_98, List.forall_mem_cons.mpr ⟨lk_99, List.forall_mem_cons.mpr ⟨lk_100, List.forall_mem_cons.mpr ⟨lk_101, List.forall_mem_cons.mpr ⟨lk_102, List.forall_mem_cons.mpr ⟨lk_103, List.forall_mem_cons.mpr ⟨lk_104, List.forall_mem_cons.mpr ⟨lk_105, List.forall_mem_cons.mpr ⟨lk_106, List.forall_mem_cons.mpr ⟨lk_107, List.forall_mem_cons.mpr ⟨lk_108, List.forall_mem_cons.mpr ⟨lk_109, List.forall_mem_cons.mpr ⟨lk_110, List.forall_mem_cons.mpr ⟨lk_111, List.forall_mem_cons.mpr ⟨lk_112, List.forall_mem_cons.mpr ⟨lk_113, List.forall_mem_cons.mpr ⟨lk_114, List.forall_mem_cons.mpr ⟨lk_115, List.forall_mem_cons.mpr ⟨lk_116, List.forall_mem_cons.mpr ⟨lk_117, List.forall_mem_cons.mpr ⟨lk_118, List.forall_mem_cons.mpr ⟨lk_119, List.forall_mem_cons.mpr ⟨lk_120, List.forall_mem_cons.mpr ⟨lk_121, List.forall_mem_cons.mpr ⟨lk_122, List.forall_mem_cons.mpr ⟨lk_123, List.forall_mem_cons.mpr ⟨lk_124, List.forall_mem_cons.mpr ⟨lk_125, List.forall_mem_cons.mpr ⟨lk_126, List.forall_mem_cons.mpr ⟨lk_127, fun _ h => absurd h List.not_mem_nil⟩⟩⟩⟩⟩⟩⟩⟩⟩⟩⟩⟩⟩⟩⟩⟩⟩⟩⟩⟩⟩⟩⟩⟩⟩⟩⟩⟩⟩⟩⟩⟩
def lT4 : List (Nat × Nat × Nat × Nat × Nat) := [(9, 94, 0, 176, 1), (0, 179, 0, 138, 1), (13, 63, 0, 18, 1), (13, 67, 0, 19, 1), (0, 214, 0, 119, 0), (5, 120, 0, 120, 1), (5, 101, 0, 111, 1), (5, 114, 0, 121, 1), (0, 218, 0, 122, 0), (5, 105, 0, 100, 1), (0, 221, 0, 123, 0), (0, 227, 1, 369, 1), (0, 232, 0, 112, 0), (13, 71, 0, 20, 3), (0, 235, 0, 96, 2), (0, 253, 0, 100, 1), (0, 256, 0, 124, 1), (13, 76, 0, 21, 2), (0, 259, 0, 111, 1), (0, 277, 0, 101, 1), (3, 62, 0, 102, 1), (0, 280, 0, 103, 1), (0, 283, 0, 121, 1), (13, 81, 0, 22, 3), (0, 288, 1, 23, 1), (13, 85, 0, 24, 4), (0, 297, 0, 125, 1), (0, 300, 0, 126, 1), (0, 303, 0, 88, 3), (2, 62, 0, 111, 1), (2, 69, 0, 121, 1), (2, 76, 0, 104, 2)]
set_option maxRecDepth 100000 in
theorem lT4_ok : ∀ t ∈ lT4, lOK t := List.forall_mem_cons.mpr ⟨lk_128, List.forall_mem_cons.mpr ⟨lk_129, List.forall_mem_cons.mpr ⟨lk_130, List.forall_mem_cons.mpr ⟨lk_131, List.forall_mem_cons.mpr ⟨lk_132, List.forall_mem_cons.mpr ⟨lk_133, List.forall_mem_cons.mpr ⟨lk_134, List.forall_mem_cons.mpr ⟨lk_135, List.forall_mem_cons.mpr ⟨lk_136, List.forall_mem_cons.mpr ⟨lk_137, List.forall_mem_cons.mpr ⟨lk_138, List.forall_mem_cons.mpr ⟨lk_139, List.forall_mem_cons.mpr ⟨lk_140, List.forall_mem_cons.mpr ⟨lk_141, List.forall_mem_cons.mpr ⟨lk_142, List.forall_mem_cons.mpr ⟨lk_143, List.forall_mem_cons.mpr ⟨lk_144, List.forall_mem_cons.mpr ⟨lk_145, List.forall_mem_cons.mpr ⟨lk_146, List.forall_mem_cons.mpr ⟨lk_147, List.forall_mem_cons.mpr ⟨lk_148, List.forall_mem_cons.mpr ⟨lk_149, List.forall_mem_cons.mpr ⟨lk_150, List.forall_mem_cons.mpr ⟨lk_151, List.forall_mem_cons.mpr ⟨lk_152, List.forall_mem_cons.mpr ⟨lk_153, List.forall_mem_cons.mpr ⟨lk_154, List.forall_mem_cons.mpr ⟨lk_155, List.forall_mem_cons.mpr ⟨lk_156, List.forall_mem_cons.mpr ⟨lk_157, List.forall_mem_cons.mpr ⟨lk_158, List.forall_mem_cons.mpr ⟨lk_159, fun _ h => absurd h List.not_mem_nil⟩⟩⟩⟩⟩⟩⟩⟩⟩⟩⟩⟩⟩⟩⟩⟩⟩⟩⟩⟩⟩⟩⟩⟩⟩⟩⟩⟩⟩⟩⟩⟩
def lT5 : List (Nat × Nat × Nat × Nat × Nat) := [(0, 306, 0, 89, 3), (2, 83, 0, 127, 1), (5, 97, 0, 125, 1), (5, 94, 0, 128, 1), (5, 59, 0, 129, 2), (5, 66, 0, 130, 1), (2, 87, 0, 116, 2), (13, 90, 0, 25, 1), (0, 310, 0, 131, 1), (5, 88, 8, 0, 0), (13, 94, 0, 26, 3), (0, 313, 0, 27, 2), (0, 316, 0, 90, 3), (2, 99, 0, 91, 2), (2, 94, 8, 0, 0), (0, 319, 0, 92, 3), (13, 98, 0, 28, 2), (0, 322, 0, 98, 1), (13, 102, 0, 29, 2), (0, 325, 0, 105, 1), (13, 107, 0, 30, 3), (0, 328, 0, 115, 2), (13, 111, 0, 31, 2), (13, 115, 0, 32, 3), (13, 119, 0, 33, 1), (13, 124, 0, 34, 2), (13, 128, 0, 35, 4), (0, 332, 0, 104, 2), (13, 132, 0, 36, 1), (0, 335, 0, 113, 1), (4, 44, 0, 111, 1), (13, 136, 0, 37, 2)]
set_option maxRecDepth 100000 in
theorem lT5_ok : ∀ t ∈ lT5, lOK t := List.forall_mem_cons.mpr ⟨lk_160, List.forall_mem_cons.mpr ⟨lk_161, List.forall_mem_cons.mpr ⟨lk_162, List.forall_mem_cons.mpr ⟨lk_163, List.forall_mem_cons.mpr ⟨lk_164, List.forall_mem_cons.mpr ⟨lk_165, List.forall_mem_cons.mpr ⟨lk_166, List.forall_mem_cons.mpr ⟨lk_167, List.forall_mem_cons.mpr ⟨lk_168, List.forall_mem_cons.mpr ⟨lk_169, List.forall_mem_cons.mpr ⟨lk_170, List.forall_mem_cons.mpr ⟨lk_171, List.forall_mem_cons.mpr ⟨lk_172, List.forall_mem_cons.mpr ⟨lk_173, List.forall_mem_cons.mpr ⟨lk_174, List.forall_mem_cons.mpr ⟨lk_175, List.forall_mem_cons.mpr ⟨lk_176, List.forall_mem_cons.mpr ⟨lk_177, List.forall_mem_cons.mpr ⟨lk_178, List.forall_mem_cons.mpr ⟨lk_179, List.forall_mem_cons.mpr ⟨lk_180, List.forall_mem_cons.mpr ⟨lk_181, List.forall_mem_cons.mpr ⟨lk_182, List.forall_mem_cons.mpr ⟨lk_183, List.forall_mem_cons.mpr ⟨lk_184, List.forall_mem_cons.mpr ⟨lk_185, List.forall_mem_cons.mpr ⟨lk_186, List.forall_mem_cons.mpr ⟨lk_187, List.forall_mem_cons.mpr ⟨lk_188, List.forall_mem_cons.mpr ⟨lk_189, List.forall_mem_cons.mpr ⟨lk_190, List.forall_mem_cons.mpr ⟨lk_191, fun _ h => absurd h List.not_mem_nil⟩⟩⟩⟩⟩⟩⟩⟩⟩⟩⟩⟩⟩⟩⟩⟩⟩⟩⟩⟩⟩⟩⟩⟩⟩⟩⟩⟩⟩⟩⟩⟩
def lT6 : List (Nat × Nat × Nat × Nat × Nat) := [(13, 140, 0, 38, 2), (13, 144, 0, 39, 3), (0, 341, 0, 132, 2), (5, 104, 0, 102, 1), (5, 108, 0, 113, 1), (5, 111, 7, 0, 0), (13, 148, 0, 40, 1), (13, 152, 0, 41, 3), (0, 344, 0, 178, 1), (10, 53, 0, 118, 1), (10, 57, 0, 131, 1), (13, 156, 0, 42, 1), (0, 348, 0, 179, 2), (10, 61, 0, 121, 1), (10, 65, 0, 128, 1), (13, 160, 0, 43, 3), (13, 164, 0, 44, 1), (0, 351, 0, 91, 2), (13, 168, 0, 45, 1), (0, 354, 0, 133, 1), (5, 123, 0, 104, 2), (5, 129, 1, 134, 3), (13, 172, 0, 46, 5), (0, 357, 1, 134, 3), (13, 176, 0, 47, 1), (0, 360, 0, 180, 1), (10, 150, 0, 111, 1), (10, 153, 0, 181, 1), (10, 110, 0, 104, 2), (10, 159, 0, 182, 3), (13, 180, 0, 48, 3), (13, 184, 0, 49, 2)]
set_option maxRecDepth 100000 in
theorem lT6_ok : ∀ t ∈ lT6, lOK t := List.forall_mem_cons.mpr ⟨lk_192, List.forall_mem_cons.mpr ⟨lk_193, List.forall_mem_cons.mpr ⟨lk_194, List.forall_mem_cons.mpr ⟨lk_195, List.forall_mem_cons.mpr ⟨lk_196, List.forall_mem_cons.mpr ⟨lk_197, List.forall_mem_cons.mpr ⟨lk_198, List.forall_mem_cons.mpr ⟨lk_199, List.forall_mem_cons.mpr ⟨lk_200, List.forall_mem_cons.mpr ⟨lk_201, List.forall_mem_cons.mpr ⟨lk_202, List.forall_mem_cons.mpr ⟨lk_203, List.forall_mem_cons.mpr ⟨lk_204, List.forall_mem_cons.mpr ⟨lk_205, List.forall_mem_cons.mpr ⟨lk_206, List.forall_mem_cons.mpr ⟨lk_207, List.forall_mem_cons.mpr ⟨lk_208, List.forall_mem_cons.mpr ⟨lk_209, List.forall_mem_cons.mpr ⟨lk_210, List.forall_mem_cons.mpr ⟨lk_211, List.forall_mem_cons.mpr ⟨lk_212, List.forall_mem_cons.mpr ⟨lk_213, List.forall_mem_cons.mpr ⟨lk_214, List.forall_mem_cons.mpr ⟨lk_215, List.forall_mem_cons.mpr ⟨lk_216, List.forall_mem_cons.mpr ⟨lk_217, List.forall_mem_cons.mpr ⟨lk_218, List.forall_mem_cons.mpr ⟨lk_219, List.forall_mem_cons.mpr ⟨lk_220, List.forall_mem_cons.mpr ⟨lk_221, List.forall_mem_cons.mpr ⟨lk_222, List.forall_mem_cons.mpr ⟨lk_223, fun _ h => absurd h List.not_mem_nil⟩⟩⟩⟩⟩⟩⟩⟩⟩⟩⟩⟩⟩⟩⟩⟩⟩⟩⟩⟩⟩⟩⟩⟩⟩⟩⟩⟩⟩⟩⟩⟩
def lT7 : List (Nat × Nat × Nat × Nat × Nat) := [(0, 363, 0, 50, 3), (0, 442, 0, 183, 3), (10, 86, 0, 120, 1), (10, 89, 0, 122, 0), (10, 93, 0, 133, 1), (10, 97, 0, 184, 4), (10, 101, 0, 127, 1), (10, 119, 0, 116, 2), (10, 129, 0, 185, 4), (13, 188, 0, 51, 3), (0, 370, 0, 52, 4), (0, 385, 1, 53, 1), (0, 388, 0, 54, 1), (13, 192, 0, 55, 2), (13, 196, 0, 56, 3), (13, 200, 0, 57, 1), (0, 374, 0, 186, 1), (10, 163, 0, 102, 1), (10, 164, 1, 365, 2), (10, 170, 0, 187, 1), (10, 173, 0, 100, 1), (13, 204, 0, 58, 0), (0, 377, 7, 0, 0), (13, 208, 0, 59, 3), (0, 382, 0, 188, 3), (10, 133, 0, 189, 6), (10, 137, 0, 190, 2), (10, 141, 7, 0, 0), (10, 146, 0, 191, 7), (13, 212, 0, 60, 4), (13, 216, 0, 61, 1), (0, 391, 0, 97, 1)]
set_option maxRecDepth 100000 in
theorem lT7_ok : ∀ t ∈ lT7, lOK t := List.forall_mem_cons.mpr ⟨lk_224, List.forall_mem_cons.mpr ⟨lk_225, List.forall_mem_cons.mpr ⟨lk_226, List.forall_mem_cons.mpr ⟨lk_227, List.forall_mem_cons.mpr ⟨lk_228, List.forall_mem_cons.mpr ⟨lk_229, List.forall_mem_cons.mpr ⟨lk_230, List.forall_mem_cons.mpr ⟨lk_231, List.forall_mem_cons.mpr ⟨lk_232, List.forall_mem_cons.mpr ⟨lk_233, List.forall_mem_cons.mpr ⟨lk_234, List.forall_mem_cons.mpr ⟨lk_235, List.forall_mem_cons.mpr ⟨lk_236, List.forall_mem_cons.mpr ⟨lk_237, List.forall_mem_cons.mpr ⟨lk_238, List.forall_mem_cons.mpr ⟨lk_239, List.forall_mem_cons.mpr ⟨lk_240, List.forall_mem_cons.mpr ⟨lk_241, List.forall_mem_cons.mpr ⟨lk_242, List.forall_mem_cons.mpr ⟨lk_243, List.forall_mem_cons.mpr ⟨lk_244, List.forall_mem_cons.mpr ⟨lk_245, List.forall_mem_cons.mpr ⟨lk_246, List.forall_mem_cons.mpr ⟨lk_247, List.forall_mem_cons.mpr ⟨lk_248, List.forall_mem_cons.mpr ⟨lk_249, List.forall_mem_cons.mpr ⟨lk_250, List.forall_mem_cons.mpr ⟨lk_251, List.forall_mem_cons.mpr ⟨lk_252, List.forall_mem_cons.mpr ⟨lk_253, List.forall_mem_cons.mpr ⟨lk_254, List.forall_mem_cons.mpr ⟨lk_255, fun _ h => absurd h List.not_mem_nil⟩⟩⟩⟩⟩⟩⟩⟩⟩⟩⟩⟩⟩⟩⟩⟩⟩⟩⟩⟩⟩⟩⟩⟩⟩⟩⟩⟩⟩⟩⟩⟩
def lT8 : List (Nat × Nat × Nat × Nat × Nat) := [(0, 394, 0, 135, 1), (5, 136, 0, 96, 2), (13, 220, 0, 62, 1), (0, 397, 0, 84, 2), (0, 400, 0, 192, 2), (10, 188, 0, 193, 2), (10, 195, 1, 368, 2), (10, 198, 0, 113, 1), (10, 191, 0, 194, 2), (10, 201, 0, 81, 2), (13, 224, 0, 63, 1), (13, 228, 0, 64, 1), (0, 412, 0, 106, 1), (3, 65, 0, 96, 2), (3, 69, 0, 100, 1), (0, 416, 0, 65, 2), (0, 452, 10, 0, 0), (13, 232, 0, 66, 0), (13, 236, 0, 67, 2), (13, 240, 0, 68, 1), (0, 424, 0, 196, 1), (11, 57, 0, 141, 1), (11, 66, 0, 197, 1), (11, 70, 0, 198, 1), (11, 96, 0, 199, 3), (11, 137, 0, 88, 3), (11, 140, 0, 125, 1), (11, 143, 0, 126, 1), (11, 146, 0, 89, 3), (11, 121, 0, 121, 1), (11, 100, 0, 200, 1), (11, 150, 0, 131, 1)]
set_option maxRecDepth 100000 in
theorem lT8_ok : ∀ t ∈ lT8, lOK t := List.forall_mem_cons.mpr ⟨lk_256, List.forall_mem_cons.mpr ⟨lk_257, List.forall_mem_cons.mpr ⟨lk_258, List.forall_mem_cons.mpr ⟨lk_259, List.forall_mem_cons.mpr ⟨lk_260, List.forall_mem_cons.mpr ⟨lk_261, List.forall_mem_cons.mpr ⟨lk_262, List.forall_mem_cons.mpr ⟨lk_263, List.forall_mem_cons.mpr ⟨lk_264, List.forall_mem_cons.mpr ⟨lk_265, List.forall_mem_cons.mpr ⟨lk_266, List.forall_mem_cons.mpr ⟨lk_267, List.forall_mem_cons.mpr ⟨lk_268, List.forall_mem_cons.mpr ⟨lk_269, List.forall_mem_cons.mpr ⟨lk_270, List.forall_mem_cons.mpr ⟨lk_271, List.forall_mem_cons.mpr ⟨lk_272, List.forall_mem_cons.mpr ⟨lk_273, List.forall_mem_cons.mpr ⟨lk_274, List.forall_mem_cons.mpr ⟨lk_275, List.forall_mem_cons.mpr ⟨lk_276, List.forall_mem_cons.mpr ⟨lk_277, List.forall_mem_cons.mpr ⟨lk_278, List.forall_mem_cons.mpr ⟨lk_279, List.forall_mem_cons.mpr ⟨lk_280, List.forall_mem_cons.mpr ⟨lk_281, List.forall_mem_cons.mpr ⟨lk_282, List.forall_mem_cons.mpr ⟨lk_283, List.forall_mem_cons.mpr ⟨lk_284, List.forall_mem_cons.mpr ⟨lk_285, List.forall_mem_cons.mpr ⟨lk_286, List.forall_mem_cons.mpr ⟨lk_287, fun _ h => absurd h List.not_mem_nil⟩⟩⟩⟩⟩⟩⟩⟩⟩⟩⟩⟩⟩⟩⟩⟩⟩⟩⟩⟩⟩⟩⟩⟩⟩⟩⟩⟩⟩⟩⟩⟩
def lT9 : List (Nat × Nat × Nat × Nat × Nat) := [(11, 103, 0, 201, 3), (11, 154, 0, 90, 3), (11, 157, 0, 92, 3), (11, 106, 0, 202, 1), (11, 161, 0, 203, 1), (11, 168, 0, 111, 1), (11, 174, 0, 101, 1), (11, 177, 0, 103, 1), (11, 180, 0, 96, 2), (11, 118, 0, 204, 1), (11, 124, 0, 120, 1), (11, 131, 0, 102, 1), (11, 76, 1, 369, 1), (0, 427, 0, 205, 1), (13, 244, 0, 69, 1), (13, 248, 0, 70, 2), (13, 252, 0, 71, 0), (13, 256, 0, 72, 0), (13, 12, 2, 206, 0), (12, 1, 3, 0, 0), (12, 83, 0, 207, 1), (13, 17, 0, 208, 0), (13, 22, 0, 209, 0), (13, 26, 0, 210, 0), (13, 31, 0, 211, 3), (12, 104, 1, 212, 1), (12, 100, 0, 213, 1), (13, 38, 0, 214, 3), (12, 107, 0, 215, 2), (12, 111, 1, 216, 2), (13, 43, 0, 217, 2), (13, 48, 0, 218, 5)]
set_option maxRecDepth 100000 in
theorem lT9_ok : ∀ t ∈ lT9, lOK t := List.forall_mem_cons.mpr ⟨lk_288, List.forall_mem_cons.mpr ⟨lk_289, List.forall_mem_cons.mpr ⟨lk_290, List.forall_mem_cons.mpr ⟨lk_291, List.forall_mem_cons.mpr ⟨lk_292, List.forall_mem_cons.mpr ⟨lk_293, List.forall_mem_cons.mpr ⟨lk_294, List.forall_mem_cons.mpr ⟨lk_295, List.forall_mem_cons.mpr ⟨lk_296, List.forall_mem_cons.mpr ⟨lk_297, List.forall_mem_cons.mpr ⟨lk_298, List.forall_mem_cons.mpr ⟨lk_299, List.forall_mem_cons.mpr ⟨lk_300, List.forall_mem_cons.mpr ⟨lk_301, List.forall_mem_cons.mpr ⟨lk_302, List.forall_mem_cons.mpr ⟨lk_303, List.forall_mem_cons.mpr ⟨lk_304, List.forall_mem_cons.mpr ⟨lk_305, List.forall_mem_cons.mpr ⟨lk_306, List.forall_mem_cons.mpr ⟨lk_307, List.forall_mem_cons.mpr ⟨lk_308, List.forall_mem_cons.mpr ⟨lk_309, List.forall_mem_cons.mpr ⟨lk_310, List.forall_mem_cons.mpr ⟨lk_311, List.forall_mem_cons.mpr ⟨lk_312, List.forall_mem_cons.mpr ⟨lk_313, List.forall_mem_cons.mpr ⟨lk_314, List.forall_mem_cons.mpr ⟨lk_315, List.forall_mem_cons.mpr ⟨lk_316, List.forall_mem_cons.mpr ⟨lk_317, List.forall_mem_cons.mpr ⟨lk_318, List.forall_mem_cons.mpr ⟨lk_319, fun _ h => absurd h List.not_mem_nil⟩⟩⟩⟩⟩⟩⟩⟩⟩⟩⟩⟩⟩⟩⟩⟩⟩⟩⟩⟩⟩⟩⟩⟩⟩⟩⟩⟩⟩⟩⟩⟩
def lT10 : List (Nat × Nat × Nat × Nat × Nat) := [(13, 53, 0, 219, 5), (12, 120, 0, 220, 1), (13, 66, 0, 221, 1), (13, 58, 0, 222, 1), (12, 226, 0, 223, 2), (12, 169, 0, 224, 0), (12, 129, 0, 225, 1), (12, 141, 1, 226, 1), (12, 144, 1, 227, 1), (12, 148, 8, 0, 0), (12, 93, 0, 228, 1), (12, 229, 0, 229, 0), (12, 178, 0, 230, 1), (12, 153, 11, 0, 0), (12, 159, 12, 0, 0), (12, 175, 0, 231, 1), (12, 213, 0, 232, 0), (12, 188, 0, 233, 3), (12, 192, 0, 234, 2), (12, 217, 0, 235, 0), (12, 196, 0, 236, 2), (12, 200, 0, 237, 1), (12, 220, 0, 238, 0), (12, 203, 0, 239, 1), (12, 207, 0, 240, 2), (12, 182, 0, 241, 0), (12, 223, 0, 242, 1), (12, 172, 0, 243, 1), (12, 232, 0, 244, 1), (12, 97, 0, 245, 1), (13, 62, 0, 246, 1), (12, 250, 0, 247, 0)]
set_option maxRecDepth 100000 in
theorem lT10_ok : ∀ t ∈ lT10, lOK t := List.forall_mem_cons.mpr ⟨lk_320, List.forall_mem_cons.mpr ⟨lk_321, List.forall_mem_cons.mpr ⟨lk_322, List.forall_mem_cons.mpr ⟨lk_323, List.forall_mem_cons.mpr ⟨lk_324, List.forall_mem_cons.mpr ⟨lk_325, List.forall_mem_cons.mpr ⟨lk_326, List.forall_mem_cons.mpr ⟨lk_327, List.forall_mem_cons.mpr ⟨lk_328, List.forall_mem_cons.mpr ⟨lk_329, List.forall_mem_cons.mpr ⟨lk_330, List.forall_mem_cons.mpr ⟨lk_331, List.forall_mem_cons.mpr ⟨lk_332, List.forall_mem_cons.mpr ⟨lk_333, List.forall_mem_cons.mpr ⟨lk_334, List.forall_mem_cons.mpr ⟨lk_335, List.forall_mem_cons.mpr ⟨lk_336, List.forall_mem_cons.mpr ⟨lk_337, List.forall_mem_cons.mpr ⟨lk_338, List.forall_mem_cons.mpr ⟨lk_339, List.forall_mem_cons.mpr ⟨lk_340, List.forall_mem_cons.mpr ⟨lk_341, List.forall_mem_cons.mpr ⟨lk_342, List.forall_mem_cons.mpr ⟨lk_343, List.forall_mem_cons.mpr ⟨lk_344, List.forall_mem_cons.mpr ⟨lk_345, List.forall_mem_cons.mpr ⟨lk_346, List.forall_mem_cons.mpr ⟨lk_347, List.forall_mem_cons.mpr ⟨lk_348, List.forall_mem_cons.mpr ⟨lk_349, List.forall_mem_cons.mpr ⟨lk_350, List.forall_mem_cons.mpr ⟨lk_351, fun _ h => absurd h List.not_mem_nil⟩⟩⟩⟩⟩⟩⟩⟩⟩⟩⟩⟩⟩⟩⟩⟩⟩⟩⟩⟩⟩⟩⟩⟩⟩⟩⟩⟩⟩⟩⟩⟩
def lT11 : List (Nat × Nat × Nat × Nat × Nat) := [(12, 247, 0, 248, 2), (12, 235, 0, 249, 1), (12, 238, 0, 250, 1), (13, 70, 0, 251, 1), (12, 298, 0, 252, 1), (12, 280, 0, 253, 1), (12, 268, 0, 254, 2), (12, 253, 1, 255, 1), (12, 289, 0, 256, 1), (12, 283, 0, 257, 2), (12, 271, 1, 258, 2), (12, 286, 0, 259, 1), (12, 301, 0, 260, 1), (12, 292, 0, 261, 1), (12, 277, 0, 262, 2), (12, 256, 0, 263, 1), (12, 295, 0, 264, 1), (12, 265, 0, 265, 2), (12, 262, 1, 266, 1), (12, 304, 0, 267, 0), (13, 75, 0, 268, 3), (12, 307, 0, 269, 1), (13, 80, 0, 270, 2), (12, 259, 0, 271, 1), (13, 84, 0, 272, 3), (12, 310, 0, 273, 2), (13, 89, 0, 274, 4), (12, 328, 0, 275, 2), (12, 322, 0, 276, 2), (12, 337, 0, 277, 3), (12, 325, 1, 278, 2), (12, 274, 9, 0, 0)]
set_option maxRecDepth 100000 in
theorem lT11_ok : ∀ t ∈ lT11, lOK t := List.forall_mem_cons.mpr ⟨lk_352, List.forall_mem_cons.mpr ⟨lk_353, List.forall_mem_cons.mpr ⟨lk_354, List.forall_mem_cons.mpr ⟨lk_355, List.forall_mem_cons.mpr ⟨lk_356, List.forall_mem_cons.mpr ⟨lk_357, List.forall_mem_cons.mpr ⟨lk_358, List.forall_mem_cons.mpr ⟨lk_359, List.forall_mem_cons.mpr ⟨lk_360, List.forall_mem_cons.mpr ⟨lk_361, List.forall_mem_cons.mpr ⟨lk_362, List.forall_mem_cons.mpr ⟨lk_363, List.forall_mem_cons.mpr ⟨lk_364, List.forall_mem_cons.mpr ⟨lk_365, List.forall_mem_cons.mpr ⟨lk_366, List.forall_mem_cons.mpr ⟨lk_367, List.forall_mem_cons.mpr ⟨lk_368, List.forall_mem_cons.mpr ⟨lk_369, List.forall_mem_cons.mpr ⟨lk_370, List.forall_mem_cons.mpr ⟨lk_371, List.forall_mem_cons.mpr ⟨lk_372, List.forall_mem_cons.mpr ⟨lk_373, List.forall_mem_cons.mpr ⟨lk_374, List.forall_mem_cons.mpr ⟨lk_375, List.forall_mem_cons.mpr ⟨lk_376, List.forall_mem_cons.mpr ⟨lk_377, List.forall_mem_cons.mpr ⟨lk_378, List.forall_mem_cons.mpr ⟨lk_379, List.forall_mem_cons.mpr ⟨lk_380, List.forall_mem_cons.mpr ⟨lk_381, List.forall_mem_cons.mpr ⟨lk_382, List.forall_mem_cons.mpr ⟨lk_383, fun _ h => absurd h List.not_mem_nil⟩⟩⟩⟩⟩⟩⟩⟩⟩⟩⟩⟩⟩⟩⟩⟩⟩⟩⟩⟩⟩⟩⟩⟩⟩⟩⟩⟩⟩⟩⟩⟩
def lT12 : List (Nat × Nat × Nat × Nat × Nat) := [(12, 340, 0, 279, 3), (12, 334, 0, 280, 2), (12, 316, 0, 281, 1), (12, 319, 0, 282, 3), (12, 313, 7, 0, 0), (13, 93, 0, 283, 1), (12, 346, 1, 284, 3), (12, 350, 0, 285, 1), (13, 97, 0, 286, 3), (12, 357, 0, 287, 2), (12, 362, 0, 288, 3), (12, 354, 0, 289, 2), (13, 101, 0, 290, 2), (13, 106, 0, 291, 2), (13, 110, 0, 292, 3), (13, 114, 0, 293, 2), (13, 118, 0, 294, 3), (13, 123, 0, 295, 1), (13, 127, 0, 296, 2), (13, 131, 0, 297, 4), (13, 135, 0, 298, 1), (13, 139, 0, 299, 2), (13, 143, 0, 300, 2), (13, 147, 0, 301, 3), (12, 367, 0, 302, 2), (13, 151, 0, 303, 1), (13, 155, 0, 304, 3), (12, 370, 1, 305, 1), (12, 373, 0, 306, 1), (12, 376, 0, 307, 1), (13, 159, 0, 308, 1), (13, 163, 0, 309, 3)]
set_option maxRecDepth 100000 in
theorem lT12_ok : ∀ t ∈ lT12, lOK t := List.forall_mem_cons.mpr ⟨lk_384, List.forall_mem_cons.mpr ⟨lk_385, List.forall_mem_cons.mpr ⟨lk_386, List.forall_mem_cons.mpr ⟨lk_387, List.forall_mem_cons.mpr ⟨lk_388, List.forall_mem_cons.mpr ⟨lk_389, List.forall_mem_cons.mpr ⟨lk_390, List.forall_mem_cons.mpr ⟨lk_391, List.forall_mem_cons.mpr ⟨lk_392, List.forall_mem_cons.mpr ⟨lk_393, List.forall_mem_cons.mpr ⟨lk_394, List.forall_mem_cons.mpr ⟨lk_395, List.forall_mem_cons.mpr ⟨lk_396, List.forall_mem_cons.mpr ⟨lk_397, List.forall_mem_cons.mpr ⟨lk_398, List.forall_mem_cons.mpr ⟨lk_399, List.forall_mem_cons.mpr ⟨lk_400, List.forall_mem_cons.mpr ⟨lk_401, List.forall_mem_cons.mpr ⟨lk_402, List.forall_mem_cons.mpr ⟨lk_403, List.forall_mem_cons.mpr ⟨lk_404, List.forall_mem_cons.mpr ⟨lk_405, List.forall_mem_cons.mpr ⟨lk_406, List.forall_mem_cons.mpr ⟨lk_407, List.forall_mem_cons.mpr ⟨lk_408, List.forall_mem_cons.mpr ⟨lk_409, List.forall_mem_cons.mpr ⟨lk_410, List.forall_mem_cons.mpr ⟨lk_411, List.forall_mem_cons.mpr ⟨lk_412, List.forall_mem_cons.mpr ⟨lk_413, List.forall_mem_cons.mpr ⟨lk_414, List.forall_mem_cons.mpr ⟨lk_415, fun _ h => absurd h List.not_mem_nil⟩⟩⟩⟩⟩⟩⟩⟩⟩⟩⟩⟩⟩⟩⟩⟩⟩⟩⟩⟩⟩⟩⟩⟩⟩⟩⟩⟩⟩⟩⟩⟩
def lT13 : List (Nat × Nat × Nat × Nat × Nat) := [(13, 167, 0, 310, 1), (13, 171, 0, 311, 1), (12, 386, 0, 312, 2), (12, 379, 0, 313, 3), (12, 383, 0, 314, 1), (12, 389, 0, 315, 1), (13, 175, 0, 316, 5), (13, 179, 0, 317, 1), (12, 392, 0, 318, 2), (13, 183, 0, 319, 3), (13, 187, 0, 320, 2), (12, 418, 0, 321, 3), (12, 406, 0, 322, 3), (12, 401, 1, 323, 1), (12, 410, 0, 324, 1), (13, 191, 0, 325, 3), (12, 422, 0, 326, 4), (12, 415, 1, 327, 2), (13, 195, 0, 328, 2), (13, 199, 0, 329, 3), (13, 203, 0, 330, 1), (12, 426, 0, 331, 1), (13, 207, 0, 332, 0), (13, 211, 0, 333, 3), (12, 443, 0, 334, 3), (12, 446, 0, 335, 3), (12, 432, 0, 336, 2), (12, 436, 0, 337, 2), (12, 439, 0, 338, 2), (13, 215, 0, 339, 4), (13, 219, 0, 340, 1), (13, 223, 0, 341, 1)]
set_option maxRecDepth 100000 in
theorem lT13_ok : ∀ t ∈ lT13, lOK t := List.forall_mem_cons.mpr ⟨lk_416, List.forall_mem_cons.mpr ⟨lk_417, List.forall_mem_cons.mpr ⟨lk_418, List.forall_mem_cons.mpr ⟨lk_419, List.forall_mem_cons.mpr ⟨lk_420, List.forall_mem_cons.mpr ⟨lk_421, List.forall_mem_cons.mpr ⟨lk_422, List.forall_mem_cons.mpr ⟨lk_423, List.forall_mem_cons.mpr ⟨lk_424, List.forall_mem_cons.mpr ⟨lk_425, List.forall_mem_cons.mpr ⟨lk_426, List.forall_mem_cons.mpr ⟨lk_427, List.forall_mem_cons.mpr ⟨lk_428, List.forall_mem_cons.mpr ⟨lk_429, List.forall_mem_cons.mpr ⟨lk_430, List.forall_mem_cons.mpr ⟨lk_431, List.forall_mem_cons.mpr ⟨lk_432, List.forall_mem_cons.mpr ⟨lk_433, List.forall_mem_cons.mpr ⟨lk_434, List.forall_mem_cons.mpr ⟨lk_435, List.forall_mem_cons.mpr ⟨lk_436, List.forall_mem_cons.mpr ⟨lk_437, List.forall_mem_cons.mpr ⟨lk_438, List.forall_mem_cons.mpr ⟨lk_439, List.forall_mem_cons.mpr ⟨lk_440, List.forall_mem_cons.mpr ⟨lk_441, List.forall_mem_cons.mpr ⟨lk_442, List.forall_mem_cons.mpr ⟨lk_443, List.forall_mem_cons.mpr ⟨lk_444, List.forall_mem_cons.mpr ⟨lk_445, List.forall_mem_cons.mpr ⟨lk_446, List.forall_mem_cons.mpr ⟨lk_447, fun _ h => absurd h List.not_mem_nil⟩⟩⟩⟩⟩⟩⟩⟩⟩⟩⟩⟩⟩⟩⟩⟩⟩⟩⟩⟩⟩⟩⟩⟩⟩⟩⟩⟩⟩⟩⟩⟩
def lT14 : List (Nat × Nat × Nat × Nat × Nat) := [(12, 455, 0, 342, 1), (12, 458, 0, 343, 1), (13, 227, 0, 344, 1), (13, 231, 0, 345, 1), (12, 463, 0, 346, 1), (12, 467, 0, 347, 2), (13, 235, 0, 348, 0), (13, 239, 0, 349, 2), (13, 243, 0, 350, 1), (12, 505, 0, 351, 1), (12, 494, 0, 352, 1), (12, 481, 0, 353, 4), (12, 475, 1, 354, 1), (12, 485, 0, 355, 1), (12, 488, 0, 356, 1), (12, 478, 0, 357, 1), (12, 497, 0, 358, 1), (12, 500, 0, 359, 1), (13, 247, 0, 360, 1), (13, 251, 0, 361, 2), (13, 255, 0, 362, 0), (12, 515, 0, 363, 2), (13, 259, 0, 364, 0), (2, 11, 4, 93, 0), (2, 20, 4, 107, 0), (2, 36, 4, 136, 0), (2, 66, 5, 23, 1)]
set_option maxRecDepth 100000 in
theorem lT14_ok : ∀ t ∈ lT14, lOK t := List.forall_mem_cons.mpr ⟨lk_448, List.forall_mem_cons.mpr ⟨lk_449, List.forall_mem_cons.mpr ⟨lk_450, List.forall_mem_cons.mpr ⟨lk_451, List.forall_mem_cons.mpr ⟨lk_452, List.forall_mem_cons.mpr ⟨lk_453, List.forall_mem_cons.mpr ⟨lk_454, List.forall_mem_cons.mpr ⟨lk_455, List.forall_mem_cons.mpr ⟨lk_456, List.forall_mem_cons.mpr ⟨lk_457, List.forall_mem_cons.mpr ⟨lk_458, List.forall_mem_cons.mpr ⟨lk_459, List.forall_mem_cons.mpr ⟨lk_460, List.forall_mem_cons.mpr ⟨lk_461, List.forall_mem_cons.mpr ⟨lk_462, List.forall_mem_cons.mpr ⟨lk_463, List.forall_mem_cons.mpr ⟨lk_464, List.forall_mem_cons.mpr ⟨lk_465, List.forall_mem_cons.mpr ⟨lk_466, List.forall_mem_cons.mpr ⟨lk_467, List.forall_mem_cons.mpr ⟨lk_468, List.forall_mem_cons.mpr ⟨lk_469, List.forall_mem_cons.mpr ⟨lk_470, List.forall_mem_cons.mpr ⟨lk_471, List.forall_mem_cons.mpr ⟨lk_472, List.forall_mem_cons.mpr ⟨lk_473, List.forall_mem_cons.mpr ⟨lk_474, fun _ h => absurd h List.not_mem_nil⟩⟩⟩⟩⟩⟩⟩⟩⟩⟩⟩⟩⟩⟩⟩⟩⟩⟩⟩⟩⟩⟩⟩⟩⟩⟩⟩
def lTab : List (Nat × Nat × Nat × Nat × Nat) := lT0 ++ (lT1 ++ (lT2 ++ (lT3 ++ (lT4 ++ (lT5 ++ (lT6 ++ (lT7 ++ (lT8 ++ (lT9 ++ (lT10 ++ (lT11 ++ (lT12 ++ (lT13 ++ (lT14))))))))))))))
set_option maxRecDepth 100000 in
theorem lTab_ok : ∀ t ∈ lTab, lOK t := List.forall_mem_append.mpr ⟨lT0_ok, List.forall_mem_append.mpr ⟨lT1_ok, List.forall_mem_append.mpr ⟨lT2_ok, List.forall_mem_append.mpr ⟨lT3_ok, List.forall_mem_append.mpr ⟨lT4_ok, List.forall_mem_append.mpr ⟨lT5_ok, List.forall_mem_append.mpr ⟨lT6_ok, List.forall_mem_append.mpr ⟨lT7_ok, List.forall_mem_append.mpr ⟨lT8_ok, List.forall_mem_append.mpr ⟨lT9_ok, List.forall_mem_append.mpr ⟨lT10_ok, List.forall_mem_append.mpr ⟨lT11_ok, List.forall_mem_append.mpr ⟨lT12_ok, List.forall_mem_append.mpr ⟨lT13_ok, lT14_ok⟩⟩⟩⟩⟩⟩⟩⟩⟩⟩⟩⟩⟩⟩
def lM (c j : Nat) : Option (Nat × Nat × Nat) := (lTab.find? (fun t => Nat.beq t.1 c && Nat.beq t.2.1 j)).map (fun t => t.2.2)
theorem lM_ok {c j : Nat} {q : Nat × Nat × Nat} (h : lM c j = some q) : lOK (c, j, q) := by
  unfold lM at h
  cases hf : lTab.find? (fun t => Nat.beq t.1 c && Nat.beq t.2.1 j) with
  | none => rw [hf] at h; cases h
  | some t =>
    rw [hf] at h
    have h1 := List.find?_some hf
    have h2 := lTab_ok t (List.mem_of_find?_eq_some hf)
    simp only [Bool.and_eq_true] at h1
    obtain ⟨t1, t2, t3⟩ := t
    have e1 : t1 = c := Nat.eq_of_beq_eq_true h1.1
    have e2 : t2 = j := Nat.eq_of_beq_eq_true h1.2
    subst e1; subst e2
    cases h
    exact h2
def gOK (t : Nat × Nat × Nat × Nat) : Prop := ∃ q, cls[t.2.2.1]? = some q ∧ t.2.2.2 < q.2.2 ∧ (q.2.1 t.2.2.2).1 = q.1 ∧ Cond.fieldLink (cN t.1) t.2.1 (q.2.1 t.2.2.2).1 (q.2.1 t.2.2.2).2.1 (q.2.1 t.2.2.2).2.2.1 ∈ lw_tbl
set_option maxRecDepth 100000 in
theorem gk_0 : gOK (1, 11, 1, 0) := ⟨_, rfl, by decide, rfl, me_1 (List.mem_of_getElem? (i := 39) rfl)⟩
set_option maxRecDepth 100000 in
theorem gk_1 : gOK (1, 15, 1, 1) := ⟨_, rfl, by decide, rfl, me_1 (List.mem_of_getElem? (i := 40) rfl)⟩
set_option maxRecDepth 100000 in
theorem gk_2 : gOK (1, 19, 1, 2) := ⟨_, rfl, by decide, rfl, me_1 (List.mem_of_getElem? (i := 41) rfl)⟩
set_option maxRecDepth 100000 in
theorem gk_3 : gOK (3, 30, 3, 0) := ⟨_, rfl, by decide, rfl, me_1 (List.mem_of_getElem? (i := 64) rfl)⟩
set_option maxRecDepth 100000 in
theorem gk_4 : gOK (0, 195, 3, 0) := ⟨_, rfl, by decide, rfl, me_1 (List.mem_of_getElem? (i := 65) rfl)⟩
set_option maxRecDepth 100000 in
theorem gk_5 : gOK (7, 90, 3, 0) := ⟨_, rfl, by decide, rfl, me_1 (List.mem_of_getElem? (i := 66) rfl)⟩
set_option maxRecDepth 100000 in
theorem gk_6 : gOK (5, 133, 3, 0) := ⟨_, rfl, by decide, rfl, me_1 (List.mem_of_getElem? (i := 67) rfl)⟩
set_option maxRecDepth 100000 in
theorem gk_7 : gOK (3, 34, 3, 1) := ⟨_, rfl, by decide, rfl, me_1 (List.mem_of_getElem? (i := 68) rfl)⟩
set_option maxRecDepth 100000 in
theorem gk_8 : gOK (0, 200, 3, 1) := ⟨_, rfl, by decide, rfl, me_1 (List.mem_of_getElem? (i := 69) rfl)⟩
set_option maxRecDepth 100000 in
theorem gk_9 : gOK (10, 185, 3, 1) := ⟨_, rfl, by decide, rfl, me_1 (List.mem_of_getElem? (i := 70) rfl)⟩
set_option maxRecDepth 100000 in
theorem gk_10 : gOK (7, 95, 3, 1) := ⟨_, rfl, by decide, rfl, me_1 (List.mem_of_getElem? (i := 71) rfl)⟩
set_option maxRecDepth 100000 in
theorem gk_11 : gOK (3, 37, 3, 2) := ⟨_, rfl, by decide, rfl, me_1 (List.mem_of_getElem? (i := 72) rfl)⟩
set_option maxRecDepth 100000 in
theorem gk_12 : gOK (8, 57, 3, 2) := ⟨_, rfl, by decide, rfl, me_1 (List.mem_of_getElem? (i := 73) rfl)⟩
set_option maxRecDepth 100000 in
theorem gk_13 : gOK (10, 104, 3, 2) := ⟨_, rfl, by decide, rfl, me_1 (List.mem_of_getElem? (i := 74) rfl)⟩
set_option maxRecDepth 100000 in
theorem gk_14 : gOK (5, 70, 3, 2) := ⟨_, rfl, by decide, rfl, me_1 (List.mem_of_getElem? (i := 75) rfl)⟩
set_option maxRecDepth 100000 in
theorem gk_15 : gOK (0, 338, 3, 2) := ⟨_, rfl, by decide, rfl, me_1 (List.mem_of_getElem? (i := 76) rfl)⟩
set_option maxRecDepth 100000 in
theorem gk_16 : gOK (3, 40, 3, 3) := ⟨_, rfl, by decide, rfl, me_1 (List.mem_of_getElem? (i := 77) rfl)⟩
set_option maxRecDepth 100000 in
theorem gk_17 : gOK (8, 93, 3, 3) := ⟨_, rfl, by decide, rfl, me_1 (List.mem_of_getElem? (i := 78) rfl)⟩
set_option maxRecDepth 100000 in
theorem gk_18 : gOK (5, 63, 3, 3) := ⟨_, rfl, by decide, rfl, me_1 (List.mem_of_getElem? (i := 79) rfl)⟩
set_option maxRecDepth 100000 in
theorem gk_19 : gOK (0, 203, 3, 3) := ⟨_, rfl, by decide, rfl, me_1 (List.mem_of_getElem? (i := 80) rfl)⟩
set_option maxRecDepth 100000 in
theorem gk_20 : gOK (3, 43, 3, 4) := ⟨_, rfl, by decide, rfl, me_1 (List.mem_of_getElem? (i := 81) rfl)⟩
set_option maxRecDepth 100000 in
theorem gk_21 : gOK (5, 53, 3, 4) := ⟨_, rfl, by decide, rfl, me_1 (List.mem_of_getElem? (i := 82) rfl)⟩
set_option maxRecDepth 100000 in
theorem gk_22 : gOK (0, 224, 3, 4) := ⟨_, rfl, by decide, rfl, me_1 (List.mem_of_getElem? (i := 83) rfl)⟩
set_option maxRecDepth 100000 in
theorem gk_23 : gOK (3, 11, 3, 5) := ⟨_, rfl, by decide, rfl, me_1 (List.mem_of_getElem? (i := 84) rfl)⟩
set_option maxRecDepth 100000 in
theorem gk_24 : gOK (3, 15, 3, 6) := ⟨_, rfl, by decide, rfl, me_1 (List.mem_of_getElem? (i := 85) rfl)⟩
set_option maxRecDepth 100000 in
theorem gk_25 : gOK (3, 18, 3, 7) := ⟨_, rfl, by decide, rfl, me_1 (List.mem_of_getElem? (i := 86) rfl)⟩
set_option maxRecDepth 100000 in
theorem gk_26 : gOK (5, 44, 3, 7) := ⟨_, rfl, by decide, rfl, me_1 (List.mem_of_getElem? (i := 87) rfl)⟩
set_option maxRecDepth 100000 in
theorem gk_27 : gOK (8, 103, 3, 7) := ⟨_, rfl, by decide, rfl, me_1 (List.mem_of_getElem? (i := 88) rfl)⟩
set_option maxRecDepth 100000 in
theorem gk_28 : gOK (0, 241, 3, 7) := ⟨_, rfl, by decide, rfl, me_1 (List.mem_of_getElem? (i := 89) rfl)⟩
set_option maxRecDepth 100000 in
theorem gk_29 : gOK (3, 21, 3, 8) := ⟨_, rfl, by decide, rfl, me_1 (List.mem_of_getElem? (i := 90) rfl)⟩
set_option maxRecDepth 100000 in
theorem gk_30 : gOK (8, 111, 3, 8) := ⟨_, rfl, by decide, rfl, me_1 (List.mem_of_getElem? (i := 91) rfl)⟩
set_option maxRecDepth 100000 in
theorem gk_31 : gOK (5, 79, 3, 8) := ⟨_, rfl, by decide, rfl, me_1 (List.mem_of_getElem? (i := 92) rfl)⟩
set_option maxRecDepth 100000 in
theorem gk_32 : gOK (0, 244, 3, 8) := ⟨_, rfl, by decide, rfl, me_1 (List.mem_of_getElem? (i := 93) rfl)⟩
set_option maxRecDepth 100000 in
theorem gk_33 : gOK (3, 24, 3, 9) := ⟨_, rfl, by decide, rfl, me_1 (List.mem_of_getElem? (i := 94) rfl)⟩
set_option maxRecDepth 100000 in
theorem gk_34 : gOK (8, 114, 3, 9) := ⟨_, rfl, by decide, rfl, me_1 (List.mem_of_getElem? (i := 95) rfl)⟩
set_option maxRecDepth 100000 in
theorem gk_35 : gOK (5, 82, 3, 9) := ⟨_, rfl, by decide, rfl, me_1 (List.mem_of_getElem? (i := 96) rfl)⟩
set_option maxRecDepth 100000 in
theorem gk_36 : gOK (0, 247, 3, 9) := ⟨_, rfl, by decide, rfl, me_1 (List.mem_of_getElem? (i := 97) rfl)⟩
set_option maxRecDepth 100000 in
theorem gk_37 : gOK (3, 27, 3, 10) := ⟨_, rfl, by decide, rfl, me_1 (List.mem_of_getElem? (i := 98) rfl)⟩
set_option maxRecDepth 100000 in
theorem gk_38 : gOK (8, 117, 3, 10) := ⟨_, rfl, by decide, rfl, me_1 (List.mem_of_getElem? (i := 99) rfl)⟩
set_option maxRecDepth 100000 in
theorem gk_39 : gOK (0, 250, 3, 10) := ⟨_, rfl, by decide, rfl, me_1 (List.mem_of_getElem? (i := 100) rfl)⟩
set_option maxRecDepth 100000 in
theorem gk_40 : gOK (4, 34, 4, 0) := ⟨_, rfl, by decide, rfl, me_1 (List.mem_of_getElem? (i := 130) rfl)⟩
set_option maxRecDepth 100000 in
theorem gk_41 : gOK (2, 44, 4, 0) := ⟨_, rfl, by decide, rfl, me_1 (List.mem_of_getElem? (i := 131) rfl)⟩
set_option maxRecDepth 100000 in
theorem gk_42 : gOK (8, 127, 4, 0) := ⟨_, rfl, by decide, rfl, me_1 (List.mem_of_getElem? (i := 132) rfl)⟩
set_option maxRecDepth 100000 in
theorem gk_43 : gOK (5, 56, 4, 0) := ⟨_, rfl, by decide, rfl, me_1 (List.mem_of_getElem? (i := 133) rfl)⟩
set_option maxRecDepth 100000 in
theorem gk_44 : gOK (0, 170, 4, 0) := ⟨_, rfl, by decide, rfl, me_1 (List.mem_of_getElem? (i := 134) rfl)⟩
set_option maxRecDepth 100000 in
theorem gk_45 : gOK (10, 179, 4, 0) := ⟨_, rfl, by decide, rfl, me_1 (List.mem_of_getElem? (i := 135) rfl)⟩
set_option maxRecDepth 100000 in
theorem gk_46 : gOK (4, 11, 4, 1) := ⟨_, rfl, by decide, rfl, me_1 (List.mem_of_getElem? (i := 136) rfl)⟩
set_option maxRecDepth 100000 in
theorem gk_47 : gOK (4, 15, 4, 2) := ⟨_, rfl, by decide, rfl, me_1 (List.mem_of_getElem? (i := 137) rfl)⟩
set_option maxRecDepth 100000 in
theorem gk_48 : gOK (5, 73, 4, 2) := ⟨_, rfl, by decide, rfl, me_1 (List.mem_of_getElem? (i := 138) rfl)⟩
set_option maxRecDepth 100000 in
theorem gk_49 : gOK (0, 262, 4, 2) := ⟨_, rfl, by decide, rfl, me_1 (List.mem_of_getElem? (i := 139) rfl)⟩
set_option maxRecDepth 100000 in
theorem gk_50 : gOK (4, 19, 4, 3) := ⟨_, rfl, by decide, rfl, me_1 (List.mem_of_getElem? (i := 140) rfl)⟩
set_option maxRecDepth 100000 in
theorem gk_51 : gOK (2, 80, 4, 3) := ⟨_, rfl, by decide, rfl, me_1 (List.mem_of_getElem? (i := 141) rfl)⟩
set_option maxRecDepth 100000 in
theorem gk_52 : gOK (10, 114, 4, 3) := ⟨_, rfl, by decide, rfl, me_1 (List.mem_of_getElem? (i := 142) rfl)⟩
set_option maxRecDepth 100000 in
theorem gk_53 : gOK (0, 265, 4, 3) := ⟨_, rfl, by decide, rfl, me_1 (List.mem_of_getElem? (i := 143) rfl)⟩
set_option maxRecDepth 100000 in
theorem gk_54 : gOK (5, 126, 4, 3) := ⟨_, rfl, by decide, rfl, me_1 (List.mem_of_getElem? (i := 144) rfl)⟩
set_option maxRecDepth 100000 in
theorem gk_55 : gOK (4, 22, 4, 4) := ⟨_, rfl, by decide, rfl, me_1 (List.mem_of_getElem? (i := 145) rfl)⟩
set_option maxRecDepth 100000 in
theorem gk_56 : gOK (5, 85, 4, 4) := ⟨_, rfl, by decide, rfl, me_1 (List.mem_of_getElem? (i := 146) rfl)⟩
set_option maxRecDepth 100000 in
theorem gk_57 : gOK (0, 268, 4, 4) := ⟨_, rfl, by decide, rfl, me_1 (List.mem_of_getElem? (i := 147) rfl)⟩
set_option maxRecDepth 100000 in
theorem gk_58 : gOK (4, 25, 4, 5) := ⟨_, rfl, by decide, rfl, me_1 (List.mem_of_getElem? (i := 148) rfl)⟩
set_option maxRecDepth 100000 in
theorem gk_59 : gOK (2, 103, 4, 5) := ⟨_, rfl, by decide, rfl, me_1 (List.mem_of_getElem? (i := 149) rfl)⟩
set_option maxRecDepth 100000 in
theorem gk_60 : gOK (5, 76, 4, 5) := ⟨_, rfl, by decide, rfl, me_1 (List.mem_of_getElem? (i := 150) rfl)⟩
set_option maxRecDepth 100000 in
theorem gk_61 : gOK (0, 271, 4, 5) := ⟨_, rfl, by decide, rfl, me_1 (List.mem_of_getElem? (i := 151) rfl)⟩
set_option maxRecDepth 100000 in
theorem gk_62 : gOK (4, 28, 4, 6) := ⟨_, rfl, by decide, rfl, me_1 (List.mem_of_getElem? (i := 152) rfl)⟩
set_option maxRecDepth 100000 in
theorem gk_63 : gOK (10, 156, 4, 6) := ⟨_, rfl, by decide, rfl, me_1 (List.mem_of_getElem? (i := 153) rfl)⟩
set_option maxRecDepth 100000 in
theorem gk_64 : gOK (5, 117, 4, 6) := ⟨_, rfl, by decide, rfl, me_1 (List.mem_of_getElem? (i := 154) rfl)⟩
set_option maxRecDepth 100000 in
theorem gk_65 : gOK (0, 274, 4, 6) := ⟨_, rfl, by decide, rfl, me_1 (List.mem_of_getElem? (i := 155) rfl)⟩
set_option maxRecDepth 100000 in
theorem gk_66 : gOK (4, 31, 4, 7) := ⟨_, rfl, by decide, rfl, me_1 (List.mem_of_getElem? (i := 156) rfl)⟩
set_option maxRecDepth 100000 in
theorem gk_67 : gOK (2, 91, 4, 7) := ⟨_, rfl, by decide, rfl, me_1 (List.mem_of_getElem? (i := 157) rfl)⟩
set_option maxRecDepth 100000 in
theorem gk_68 : gOK (0, 286, 4, 7) := ⟨_, rfl, by decide, rfl, me_1 (List.mem_of_getElem? (i := 158) rfl)⟩
set_option maxRecDepth 100000 in
theorem gk_69 : gOK (5, 23, 5, 0) := ⟨_, rfl, by decide, rfl, me_1 (List.mem_of_getElem? (i := 182) rfl)⟩
set_option maxRecDepth 100000 in
theorem gk_70 : gOK (5, 27, 5, 1) := ⟨_, rfl, by decide, rfl, me_1 (List.mem_of_getElem? (i := 183) rfl)⟩
set_option maxRecDepth 100000 in
theorem gk_71 : gOK (5, 11, 5, 2) := ⟨_, rfl, by decide, rfl, me_1 (List.mem_of_getElem? (i := 184) rfl)⟩
set_option maxRecDepth 100000 in
theorem gk_72 : gOK (11, 134, 5, 2) := ⟨_, rfl, by decide, rfl, me_1 (List.mem_of_getElem? (i := 185) rfl)⟩
set_option maxRecDepth 100000 in
theorem gk_73 : gOK (0, 238, 5, 2) := ⟨_, rfl, by decide, rfl, me_1 (List.mem_of_getElem? (i := 186) rfl)⟩
set_option maxRecDepth 100000 in
theorem gk_74 : gOK (5, 17, 5, 3) := ⟨_, rfl, by decide, rfl, me_1 (List.mem_of_getElem? (i := 187) rfl)⟩
set_option maxRecDepth 100000 in
theorem gk_75 : gOK (2, 72, 5, 3) := ⟨_, rfl, by decide, rfl, me_1 (List.mem_of_getElem? (i := 188) rfl)⟩
set_option maxRecDepth 100000 in
theorem gk_76 : gOK (10, 107, 5, 3) := ⟨_, rfl, by decide, rfl, me_1 (List.mem_of_getElem? (i := 189) rfl)⟩
set_option maxRecDepth 100000 in
theorem gk_77 : gOK (11, 171, 5, 3) := ⟨_, rfl, by decide, rfl, me_1 (List.mem_of_getElem? (i := 190) rfl)⟩
set_option maxRecDepth 100000 in
theorem gk_78 : gOK (0, 291, 5, 3) := ⟨_, rfl, by decide, rfl, me_1 (List.mem_of_getElem? (i := 191) rfl)⟩
set_option maxRecDepth 100000 in
theorem gk_79 : gOK (5, 20, 5, 4) := ⟨_, rfl, by decide, rfl, me_1 (List.mem_of_getElem? (i := 192) rfl)⟩
set_option maxRecDepth 100000 in
theorem gk_80 : gOK (0, 294, 5, 4) := ⟨_, rfl, by decide, rfl, me_1 (List.mem_of_getElem? (i := 193) rfl)⟩
set_option maxRecDepth 100000 in
theorem gk_81 : gOK (11, 38, 5, 5) := ⟨_, rfl, by decide, rfl, me_1 (List.mem_of_getElem? (i := 194) rfl)⟩
set_option maxRecDepth 100000 in
theorem gk_82 : gOK (5, 37, 5, 5) := ⟨_, rfl, by decide, rfl, me_1 (List.mem_of_getElem? (i := 195) rfl)⟩
set_option maxRecDepth 100000 in
theorem gk_83 : gOK (0, 211, 5, 5) := ⟨_, rfl, by decide, rfl, me_1 (List.mem_of_getElem? (i := 196) rfl)⟩
set_option maxRecDepth 100000 in
theorem gk_84 : gOK (11, 32, 5, 6) := ⟨_, rfl, by decide, rfl, me_1 (List.mem_of_getElem? (i := 197) rfl)⟩
set_option maxRecDepth 100000 in
theorem gk_85 : gOK (5, 41, 5, 6) := ⟨_, rfl, by decide, rfl, me_1 (List.mem_of_getElem? (i := 198) rfl)⟩
set_option maxRecDepth 100000 in
theorem gk_86 : gOK (0, 206, 5, 6) := ⟨_, rfl, by decide, rfl, me_1 (List.mem_of_getElem? (i := 199) rfl)⟩
set_option maxRecDepth 100000 in
theorem gk_87 : gOK (6, 27, 6, 0) := ⟨_, rfl, by decide, rfl, me_1 (List.mem_of_getElem? (i := 221) rfl)⟩
set_option maxRecDepth 100000 in
theorem gk_88 : gOK (9, 59, 6, 0) := ⟨_, rfl, by decide, rfl, me_1 (List.mem_of_getElem? (i := 222) rfl)⟩
set_option maxRecDepth 100000 in
theorem gk_89 : gOK (0, 420, 6, 0) := ⟨_, rfl, by decide, rfl, me_1 (List.mem_of_getElem? (i := 223) rfl)⟩
set_option maxRecDepth 100000 in
theorem gk_90 : gOK (6, 31, 6, 1) := ⟨_, rfl, by decide, rfl, me_1 (List.mem_of_getElem? (i := 224) rfl)⟩
set_option maxRecDepth 100000 in
theorem gk_91 : gOK (9, 84, 6, 1) := ⟨_, rfl, by decide, rfl, me_1 (List.mem_of_getElem? (i := 225) rfl)⟩
set_option maxRecDepth 100000 in
theorem gk_92 : gOK (0, 184, 6, 1) := ⟨_, rfl, by decide, rfl, me_1 (List.mem_of_getElem? (i := 226) rfl)⟩
set_option maxRecDepth 100000 in
theorem gk_93 : gOK (6, 35, 6, 2) := ⟨_, rfl, by decide, rfl, me_1 (List.mem_of_getElem? (i := 227) rfl)⟩
set_option maxRecDepth 100000 in
theorem gk_94 : gOK (11, 115, 6, 2) := ⟨_, rfl, by decide, rfl, me_1 (List.mem_of_getElem? (i := 228) rfl)⟩
set_option maxRecDepth 100000 in
theorem gk_95 : gOK (6, 11, 6, 3) := ⟨_, rfl, by decide, rfl, me_1 (List.mem_of_getElem? (i := 229) rfl)⟩
set_option maxRecDepth 100000 in
theorem gk_96 : gOK (11, 61, 6, 3) := ⟨_, rfl, by decide, rfl, me_1 (List.mem_of_getElem? (i := 230) rfl)⟩
set_option maxRecDepth 100000 in
theorem gk_97 : gOK (6, 15, 6, 4) := ⟨_, rfl, by decide, rfl, me_1 (List.mem_of_getElem? (i := 231) rfl)⟩
set_option maxRecDepth 100000 in
theorem gk_98 : gOK (11, 87, 6, 4) := ⟨_, rfl, by decide, rfl, me_1 (List.mem_of_getElem? (i := 232) rfl)⟩
set_option maxRecDepth 100000 in
theorem gk_99 : gOK (6, 18, 6, 5) := ⟨_, rfl, by decide, rfl, me_1 (List.mem_of_getElem? (i := 233) rfl)⟩
set_option maxRecDepth 100000 in
theorem gk_100 : gOK (11, 90, 6, 5) := ⟨_, rfl, by decide, rfl, me_1 (List.mem_of_getElem? (i := 234) rfl)⟩
set_option maxRecDepth 100000 in
theorem gk_101 : gOK (6, 21, 6, 6) := ⟨_, rfl, by decide, rfl, me_1 (List.mem_of_getElem? (i := 235) rfl)⟩
set_option maxRecDepth 100000 in
theorem gk_102 : gOK (11, 93, 6, 6) := ⟨_, rfl, by decide, rfl, me_1 (List.mem_of_getElem? (i := 236) rfl)⟩
set_option maxRecDepth 100000 in
theorem gk_103 : gOK (6, 24, 6, 7) := ⟨_, rfl, by decide, rfl, me_1 (List.mem_of_getElem? (i := 237) rfl)⟩
set_option maxRecDepth 100000 in
theorem gk_104 : gOK (11, 84, 6, 7) := ⟨_, rfl, by decide, rfl, me_1 (List.mem_of_getElem? (i := 238) rfl)⟩
set_option maxRecDepth 100000 in
theorem gk_105 : gOK (2, 12, 2, 0) := ⟨_, rfl, by decide, rfl, me_2 (List.mem_of_getElem? (i := 16) rfl)⟩
set_option maxRecDepth 100000 in
theorem gk_106 : gOK (10, 28, 2, 0) := ⟨_, rfl, by decide, rfl, me_2 (List.mem_of_getElem? (i := 17) rfl)⟩
set_option maxRecDepth 100000 in
theorem gk_107 : gOK (8, 53, 2, 0) := ⟨_, rfl, by decide, rfl, me_2 (List.mem_of_getElem? (i := 18) rfl)⟩
set_option maxRecDepth 100000 in
theorem gk_108 : gOK (11, 127, 2, 0) := ⟨_, rfl, by decide, rfl, me_2 (List.mem_of_getElem? (i := 19) rfl)⟩
set_option maxRecDepth 100000 in
theorem gk_109 : gOK (9, 111, 2, 0) := ⟨_, rfl, by decide, rfl, me_2 (List.mem_of_getElem? (i := 20) rfl)⟩
set_option maxRecDepth 100000 in
theorem gk_110 : gOK (0, 187, 2, 0) := ⟨_, rfl, by decide, rfl, me_2 (List.mem_of_getElem? (i := 21) rfl)⟩
set_option maxRecDepth 100000 in
theorem gk_111 : gOK (2, 21, 2, 1) := ⟨_, rfl, by decide, rfl, me_2 (List.mem_of_getElem? (i := 22) rfl)⟩
set_option maxRecDepth 100000 in
theorem gk_112 : gOK (10, 35, 2, 1) := ⟨_, rfl, by decide, rfl, me_2 (List.mem_of_getElem? (i := 23) rfl)⟩
set_option maxRecDepth 100000 in
theorem gk_113 : gOK (9, 101, 2, 1) := ⟨_, rfl, by decide, rfl, me_2 (List.mem_of_getElem? (i := 24) rfl)⟩
set_option maxRecDepth 100000 in
theorem gk_114 : gOK (8, 123, 2, 1) := ⟨_, rfl, by decide, rfl, me_2 (List.mem_of_getElem? (i := 25) rfl)⟩
set_option maxRecDepth 100000 in
theorem gk_115 : gOK (11, 164, 2, 1) := ⟨_, rfl, by decide, rfl, me_2 (List.mem_of_getElem? (i := 26) rfl)⟩
set_option maxRecDepth 100000 in
theorem gk_116 : gOK (0, 166, 2, 1) := ⟨_, rfl, by decide, rfl, me_2 (List.mem_of_getElem? (i := 27) rfl)⟩
set_option maxRecDepth 100000 in
theorem gk_117 : gOK (2, 30, 2, 2) := ⟨_, rfl, by decide, rfl, me_2 (List.mem_of_getElem? (i := 28) rfl)⟩
set_option maxRecDepth 100000 in
theorem gk_118 : gOK (11, 28, 2, 2) := ⟨_, rfl, by decide, rfl, me_2 (List.mem_of_getElem? (i := 29) rfl)⟩
set_option maxRecDepth 100000 in
theorem gk_119 : gOK (10, 49, 2, 2) := ⟨_, rfl, by decide, rfl, me_2 (List.mem_of_getElem? (i := 30) rfl)⟩
set_option maxRecDepth 100000 in
theorem gk_120 : gOK (8, 40, 2, 2) := ⟨_, rfl, by decide, rfl, me_2 (List.mem_of_getElem? (i := 31) rfl)⟩
set_option maxRecDepth 100000 in
theorem gk_121 : gOK (0, 191, 2, 2) := ⟨_, rfl, by decide, rfl, me_2 (List.mem_of_getElem? (i := 32) rfl)⟩
set_option maxRecDepth 100000 in
theorem gk_122 : gOK (11, 21, 2, 3) := ⟨_, rfl, by decide, rfl, me_2 (List.mem_of_getElem? (i := 33) rfl)⟩
set_option maxRecDepth 100000 in
theorem gk_123 : gOK (2, 37, 2, 3) := ⟨_, rfl, by decide, rfl, me_2 (List.mem_of_getElem? (i := 34) rfl)⟩
set_option maxRecDepth 100000 in
theorem gk_124 : gOK (0, 69, 2, 3) := ⟨_, rfl, by decide, rfl, me_2 (List.mem_of_getElem? (i := 35) rfl)⟩
set_option maxRecDepth 100000 in
theorem gk_125 : gOK (7, 11, 7, 0) := ⟨_, rfl, by decide, rfl, me_2 (List.mem_of_getElem? (i := 102) rfl)⟩
set_option maxRecDepth 100000 in
theorem gk_126 : gOK (7, 15, 7, 1) := ⟨_, rfl, by decide, rfl, me_2 (List.mem_of_getElem? (i := 103) rfl)⟩
set_option maxRecDepth 100000 in
theorem gk_127 : gOK (7, 39, 7, 2) := ⟨_, rfl, by decide, rfl, me_2 (List.mem_of_getElem? (i := 104) rfl)⟩
set_option maxRecDepth 100000 in
theorem gk_128 : gOK (7, 42, 7, 3) := ⟨_, rfl, by decide, rfl, me_2 (List.mem_of_getElem? (i := 105) rfl)⟩
set_option maxRecDepth 100000 in
theorem gk_129 : gOK (7, 54, 7, 4) := ⟨_, rfl, by decide, rfl, me_2 (List.mem_of_getElem? (i := 106) rfl)⟩
set_option maxRecDepth 100000 in
theorem gk_130 : gOK (7, 57, 7, 5) := ⟨_, rfl, by decide, rfl, me_2 (List.mem_of_getElem? (i := 107) rfl)⟩
set_option maxRecDepth 100000 in
theorem gk_131 : gOK (7, 60, 7, 6) := ⟨_, rfl, by decide, rfl, me_2 (List.mem_of_getElem? (i := 108) rfl)⟩
set_option maxRecDepth 100000 in
theorem gk_132 : gOK (7, 45, 7, 7) := ⟨_, rfl, by decide, rfl, me_2 (List.mem_of_getElem? (i := 109) rfl)⟩
set_option maxRecDepth 100000 in
theorem gk_133 : gOK (0, 440, 7, 7) := ⟨_, rfl, by decide, rfl, me_2 (List.mem_of_getElem? (i := 110) rfl)⟩
set_option maxRecDepth 100000 in
theorem gk_134 : gOK (7, 48, 7, 8) := ⟨_, rfl, by decide, rfl, me_2 (List.mem_of_getElem? (i := 111) rfl)⟩
set_option maxRecDepth 100000 in
theorem gk_135 : gOK (0, 441, 7, 8) := ⟨_, rfl, by decide, rfl, me_2 (List.mem_of_getElem? (i := 112) rfl)⟩
set_option maxRecDepth 100000 in
theorem gk_136 : gOK (8, 9, 8, 0) := ⟨_, rfl, by decide, rfl, me_2 (List.mem_of_getElem? (i := 138) rfl)⟩
set_option maxRecDepth 100000 in
theorem gk_137 : gOK (8, 15, 8, 1) := ⟨_, rfl, by decide, rfl, me_2 (List.mem_of_getElem? (i := 139) rfl)⟩
set_option maxRecDepth 100000 in
theorem gk_138 : gOK (8, 24, 8, 2) := ⟨_, rfl, by decide, rfl, me_2 (List.mem_of_getElem? (i := 140) rfl)⟩
set_option maxRecDepth 100000 in
theorem gk_139 : gOK (9, 15, 9, 0) := ⟨_, rfl, by decide, rfl, me_2 (List.mem_of_getElem? (i := 154) rfl)⟩
set_option maxRecDepth 100000 in
theorem gk_140 : gOK (9, 19, 9, 1) := ⟨_, rfl, by decide, rfl, me_2 (List.mem_of_getElem? (i := 155) rfl)⟩
set_option maxRecDepth 100000 in
theorem gk_141 : gOK (9, 23, 9, 2) := ⟨_, rfl, by decide, rfl, me_2 (List.mem_of_getElem? (i := 156) rfl)⟩
set_option maxRecDepth 100000 in
theorem gk_142 : gOK (9, 11, 9, 3) := ⟨_, rfl, by decide, rfl, me_2 (List.mem_of_getElem? (i := 157) rfl)⟩
set_option maxRecDepth 100000 in
theorem gk_143 : gOK (9, 32, 9, 4) := ⟨_, rfl, by decide, rfl, me_2 (List.mem_of_getElem? (i := 158) rfl)⟩
set_option maxRecDepth 100000 in
theorem gk_144 : gOK (10, 24, 10, 0) := ⟨_, rfl, by decide, rfl, me_2 (List.mem_of_getElem? (i := 179) rfl)⟩
set_option maxRecDepth 100000 in
theorem gk_145 : gOK (10, 34, 10, 1) := ⟨_, rfl, by decide, rfl, me_2 (List.mem_of_getElem? (i := 180) rfl)⟩
set_option maxRecDepth 100000 in
theorem gk_146 : gOK (10, 39, 10, 2) := ⟨_, rfl, by decide, rfl, me_2 (List.mem_of_getElem? (i := 181) rfl)⟩
set_option maxRecDepth 100000 in
theorem gk_147 : gOK (10, 42, 10, 3) := ⟨_, rfl, by decide, rfl, me_2 (List.mem_of_getElem? (i := 182) rfl)⟩
set_option maxRecDepth 100000 in
theorem gk_148 : gOK (10, 11, 10, 4) := ⟨_, rfl, by decide, rfl, me_2 (List.mem_of_getElem? (i := 183) rfl)⟩
set_option maxRecDepth 100000 in
theorem gk_149 : gOK (10, 17, 10, 5) := ⟨_, rfl, by decide, rfl, me_2 (List.mem_of_getElem? (i := 184) rfl)⟩
set_option maxRecDepth 100000 in
theorem gk_150 : gOK (10, 20, 10, 6) := ⟨_, rfl, by decide, rfl, me_2 (List.mem_of_getElem? (i := 185) rfl)⟩
set_option maxRecDepth 100000 in
theorem gk_151 : gOK (10, 68, 10, 7) := ⟨_, rfl, by decide, rfl, me_2 (List.mem_of_getElem? (i := 186) rfl)⟩
set_option maxRecDepth 100000 in
theorem gk_152 : gOK (10, 72, 10, 8) := ⟨_, rfl, by decide, rfl, me_2 (List.mem_of_getElem? (i := 187) rfl)⟩
set_option maxRecDepth 100000 in
theorem gk_153 : gOK (10, 123, 10, 9) := ⟨_, rfl, by decide, rfl, me_2 (List.mem_of_getElem? (i := 188) rfl)⟩
set_option maxRecDepth 100000 in
theorem gk_154 : gOK (10, 126, 10, 10) := ⟨_, rfl, by decide, rfl, me_2 (List.mem_of_getElem? (i := 189) rfl)⟩
set_option maxRecDepth 100000 in
theorem gk_155 : gOK (10, 77, 10, 11) := ⟨_, rfl, by decide, rfl, me_2 (List.mem_of_getElem? (i := 190) rfl)⟩
set_option maxRecDepth 100000 in
theorem gk_156 : gOK (0, 367, 10, 11) := ⟨_, rfl, by decide, rfl, me_2 (List.mem_of_getElem? (i := 191) rfl)⟩
set_option maxRecDepth 100000 in
theorem gk_157 : gOK (10, 80, 10, 12) := ⟨_, rfl, by decide, rfl, me_2 (List.mem_of_getElem? (i := 192) rfl)⟩
set_option maxRecDepth 100000 in
theorem gk_158 : gOK (0, 446, 10, 12) := ⟨_, rfl, by decide, rfl, me_2 (List.mem_of_getElem? (i := 193) rfl)⟩
set_option maxRecDepth 100000 in
theorem gk_159 : gOK (10, 83, 10, 13) := ⟨_, rfl, by decide, rfl, me_2 (List.mem_of_getElem? (i := 194) rfl)⟩
set_option maxRecDepth 100000 in
theorem gk_160 : gOK (0, 449, 10, 13) := ⟨_, rfl, by decide, rfl, me_2 (List.mem_of_getElem? (i := 195) rfl)⟩
set_option maxRecDepth 100000 in
theorem gk_161 : gOK (10, 176, 10, 14) := ⟨_, rfl, by decide, rfl, me_2 (List.mem_of_getElem? (i := 196) rfl)⟩
set_option maxRecDepth 100000 in
theorem gk_162 : gOK (0, 404, 10, 14) := ⟨_, rfl, by decide, rfl, me_2 (List.mem_of_getElem? (i := 197) rfl)⟩
set_option maxRecDepth 100000 in
theorem gk_163 : gOK (10, 182, 10, 15) := ⟨_, rfl, by decide, rfl, me_2 (List.mem_of_getElem? (i := 198) rfl)⟩
set_option maxRecDepth 100000 in
theorem gk_164 : gOK (0, 407, 10, 15) := ⟨_, rfl, by decide, rfl, me_2 (List.mem_of_getElem? (i := 199) rfl)⟩
set_option maxRecDepth 100000 in
theorem gk_165 : gOK (11, 17, 11, 0) := ⟨_, rfl, by decide, rfl, me_2 (List.mem_of_getElem? (i := 239) rfl)⟩
set_option maxRecDepth 100000 in
theorem gk_166 : gOK (11, 27, 11, 1) := ⟨_, rfl, by decide, rfl, me_3 (List.mem_of_getElem? (i := 0) rfl)⟩
set_option maxRecDepth 100000 in
theorem gk_167 : gOK (11, 11, 11, 2) := ⟨_, rfl, by decide, rfl, me_3 (List.mem_of_getElem? (i := 1) rfl)⟩
set_option maxRecDepth 100000 in
theorem gk_168 : gOK (11, 41, 11, 3) := ⟨_, rfl, by decide, rfl, me_3 (List.mem_of_getElem? (i := 2) rfl)⟩
set_option maxRecDepth 100000 in
theorem gk_169 : gOK (11, 109, 11, 4) := ⟨_, rfl, by decide, rfl, me_3 (List.mem_of_getElem? (i := 3) rfl)⟩
set_option maxRecDepth 100000 in
theorem gk_170 : gOK (11, 112, 11, 5) := ⟨_, rfl, by decide, rfl, me_3 (List.mem_of_getElem? (i := 4) rfl)⟩
set_option maxRecDepth 100000 in
theorem gk_171 : gOK (11, 44, 11, 6) := ⟨_, rfl, by decide, rfl, me_3 (List.mem_of_getElem? (i := 5) rfl)⟩
set_option maxRecDepth 100000 in
theorem gk_172 : gOK (11, 73, 11, 7) := ⟨_, rfl, by decide, rfl, me_3 (List.mem_of_getElem? (i := 6) rfl)⟩
set_option maxRecDepth 100000 in
theorem gk_173 : gOK (11, 47, 11, 8) := ⟨_, rfl, by decide, rfl, me_3 (List.mem_of_getElem? (i := 7) rfl)⟩
set_option maxRecDepth 100000 in
theorem gk_174 : gOK (11, 81, 11, 9) := ⟨_, rfl, by decide, rfl, me_3 (List.mem_of_getElem? (i := 8) rfl)⟩
set_option maxRecDepth 100000 in
theorem gk_175 : gOK (11, 50, 11, 10) := ⟨_, rfl, by decide, rfl, me_3 (List.mem_of_getElem? (i := 9) rfl)⟩
set_option maxRecDepth 100000 in
theorem gk_176 : gOK (11, 53, 11, 11) := ⟨_, rfl, by decide, rfl, me_3 (List.mem_of_getElem? (i := 10) rfl)⟩
set_option maxRecDepth 100000 in
theorem gk_177 : gOK (0, 434, 11, 11) := ⟨_, rfl, by decide, rfl, me_3 (List.mem_of_getElem? (i := 11) rfl)⟩
set_option maxRecDepth 100000 in
theorem gk_178 : gOK (0, 94, 0, 0) := ⟨_, rfl, by decide, rfl, me_3 (List.mem_of_getElem? (i := 37) rfl)⟩
set_option maxRecDepth 100000 in
theorem gk_179 : gOK (0, 97, 0, 1) := ⟨_, rfl, by decide, rfl, me_3 (List.mem_of_getElem? (i := 38) rfl)⟩
set_option maxRecDepth 100000 in
theorem gk_180 : gOK (0, 7, 0, 2) := ⟨_, rfl, by decide, rfl, me_3 (List.mem_of_getElem? (i := 39) rfl)⟩
set_option maxRecDepth 100000 in
theorem gk_181 : gOK (0, 146, 0, 3) := ⟨_, rfl, by decide, rfl, me_3 (List.mem_of_getElem? (i := 40) rfl)⟩
set_option maxRecDepth 100000 in
theorem gk_182 : gOK (0, 13, 0, 4) := ⟨_, rfl, by decide, rfl, me_3 (List.mem_of_getElem? (i := 41) rfl)⟩
set_option maxRecDepth 100000 in
theorem gk_183 : gOK (0, 17, 0, 5) := ⟨_, rfl, by decide, rfl, me_3 (List.mem_of_getElem? (i := 42) rfl)⟩
set_option maxRecDepth 100000 in
theorem gk_184 : gOK (0, 437, 0, 6) := ⟨_, rfl, by decide, rfl, me_3 (List.mem_of_getElem? (i := 43) rfl)⟩
set_option maxRecDepth 100000 in
theorem gk_185 : gOK (0, 431, 0, 7) := ⟨_, rfl, by decide, rfl, me_3 (List.mem_of_getElem? (i := 44) rfl)⟩
set_option maxRecDepth 100000 in
theorem gk_186 : gOK (0, 20, 0, 8) := ⟨_, rfl, by decide, rfl, me_3 (List.mem_of_getElem? (i := 45) rfl)⟩
set_option maxRecDepth 100000 in
theorem gk_187 : gOK (0, 26, 0, 9) := ⟨_, rfl, by decide, rfl, me_3 (List.mem_of_getElem? (i := 46) rfl)⟩
set_option maxRecDepth 100000 in
theorem gk_188 : gOK (0, 33, 0, 10) := ⟨_, rfl, by decide, rfl, me_3 (List.mem_of_getElem? (i := 47) rfl)⟩
set_option maxRecDepth 100000 in
theorem gk_189 : gOK (0, 40, 0, 11) := ⟨_, rfl, by decide, rfl, me_3 (List.mem_of_getElem? (i := 48) rfl)⟩
set_option maxRecDepth 100000 in
theorem gk_190 : gOK (0, 44, 0, 12) := ⟨_, rfl, by decide, rfl, me_3 (List.mem_of_getElem? (i := 49) rfl)⟩
set_option maxRecDepth 100000 in
theorem gk_191 : gOK (0, 47, 0, 13) := ⟨_, rfl, by decide, rfl, me_3 (List.mem_of_getElem? (i := 50) rfl)⟩
set_option maxRecDepth 100000 in
theorem gk_192 : gOK (0, 54, 0, 14) := ⟨_, rfl, by decide, rfl, me_3 (List.mem_of_getElem? (i := 51) rfl)⟩
set_option maxRecDepth 100000 in
theorem gk_193 : gOK (0, 63, 0, 15) := ⟨_, rfl, by decide, rfl, me_3 (List.mem_of_getElem? (i := 52) rfl)⟩
set_option maxRecDepth 100000 in
theorem gk_194 : gOK (0, 76, 0, 16) := ⟨_, rfl, by decide, rfl, me_3 (List.mem_of_getElem? (i := 53) rfl)⟩
set_option maxRecDepth 100000 in
theorem gk_195 : gOK (0, 85, 0, 17) := ⟨_, rfl, by decide, rfl, me_3 (List.mem_of_getElem? (i := 54) rfl)⟩
set_option maxRecDepth 100000 in
theorem gk_196 : gOK (0, 90, 0, 18) := ⟨_, rfl, by decide, rfl, me_3 (List.mem_of_getElem? (i := 55) rfl)⟩
set_option maxRecDepth 100000 in
theorem gk_197 : gOK (12, 7, 12, 0) := ⟨_, rfl, by decide, rfl, me_7 (List.mem_of_getElem? (i := 30) rfl)⟩
set_option maxRecDepth 100000 in
theorem gk_198 : gOK (12, 13, 12, 1) := ⟨_, rfl, by decide, rfl, me_7 (List.mem_of_getElem? (i := 31) rfl)⟩
set_option maxRecDepth 100000 in
theorem gk_199 : gOK (12, 87, 12, 2) := ⟨_, rfl, by decide, rfl, me_7 (List.mem_of_getElem? (i := 32) rfl)⟩
set_option maxRecDepth 100000 in
theorem gk_200 : gOK (12, 90, 12, 3) := ⟨_, rfl, by decide, rfl, me_7 (List.mem_of_getElem? (i := 33) rfl)⟩
set_option maxRecDepth 100000 in
theorem gk_201 : gOK (12, 17, 12, 4) := ⟨_, rfl, by decide, rfl, me_7 (List.mem_of_getElem? (i := 34) rfl)⟩
set_option maxRecDepth 100000 in
theorem gk_202 : gOK (12, 21, 12, 5) := ⟨_, rfl, by decide, rfl, me_7 (List.mem_of_getElem? (i := 35) rfl)⟩
set_option maxRecDepth 100000 in
theorem gk_203 : gOK (12, 24, 12, 6) := ⟨_, rfl, by decide, rfl, me_7 (List.mem_of_getElem? (i := 36) rfl)⟩
set_option maxRecDepth 100000 in
theorem gk_204 : gOK (12, 27, 12, 7) := ⟨_, rfl, by decide, rfl, me_7 (List.mem_of_getElem? (i := 37) rfl)⟩
set_option maxRecDepth 100000 in
theorem gk_205 : gOK (12, 30, 12, 8) := ⟨_, rfl, by decide, rfl, me_7 (List.mem_of_getElem? (i := 38) rfl)⟩
set_option maxRecDepth 100000 in
theorem gk_206 : gOK (12, 34, 12, 9) := ⟨_, rfl, by decide, rfl, me_7 (List.mem_of_getElem? (i := 39) rfl)⟩
set_option maxRecDepth 100000 in
theorem gk_207 : gOK (12, 117, 12, 10) := ⟨_, rfl, by decide, rfl, me_7 (List.mem_of_getElem? (i := 40) rfl)⟩
set_option maxRecDepth 100000 in
theorem gk_208 : gOK (12, 123, 12, 11) := ⟨_, rfl, by decide, rfl, me_7 (List.mem_of_getElem? (i := 41) rfl)⟩
set_option maxRecDepth 100000 in
theorem gk_209 : gOK (12, 138, 12, 12) := ⟨_, rfl, by decide, rfl, me_7 (List.mem_of_getElem? (i := 42) rfl)⟩
set_option maxRecDepth 100000 in
theorem gk_210 : gOK (12, 132, 12, 13) := ⟨_, rfl, by decide, rfl, me_7 (List.mem_of_getElem? (i := 43) rfl)⟩
set_option maxRecDepth 100000 in
theorem gk_211 : gOK (12, 126, 12, 14) := ⟨_, rfl, by decide, rfl, me_7 (List.mem_of_getElem? (i := 44) rfl)⟩
set_option maxRecDepth 100000 in
theorem gk_212 : gOK (12, 135, 12, 15) := ⟨_, rfl, by decide, rfl, me_7 (List.mem_of_getElem? (i := 45) rfl)⟩
set_option maxRecDepth 100000 in
theorem gk_213 : gOK (12, 37, 12, 16) := ⟨_, rfl, by decide, rfl, me_7 (List.mem_of_getElem? (i := 46) rfl)⟩
set_option maxRecDepth 100000 in
theorem gk_214 : gOK (12, 41, 12, 17) := ⟨_, rfl, by decide, rfl, me_7 (List.mem_of_getElem? (i := 47) rfl)⟩
set_option maxRecDepth 100000 in
theorem gk_215 : gOK (12, 163, 12, 18) := ⟨_, rfl, by decide, rfl, me_7 (List.mem_of_getElem? (i := 48) rfl)⟩
set_option maxRecDepth 100000 in
theorem gk_216 : gOK (12, 166, 12, 19) := ⟨_, rfl, by decide, rfl, me_7 (List.mem_of_getElem? (i := 49) rfl)⟩
set_option maxRecDepth 100000 in
theorem gk_217 : gOK (12, 210, 12, 20) := ⟨_, rfl, by decide, rfl, me_7 (List.mem_of_getElem? (i := 50) rfl)⟩
set_option maxRecDepth 100000 in
theorem gk_218 : gOK (12, 44, 12, 21) := ⟨_, rfl, by decide, rfl, me_7 (List.mem_of_getElem? (i := 51) rfl)⟩
set_option maxRecDepth 100000 in
theorem gk_219 : gOK (12, 241, 12, 22) := ⟨_, rfl, by decide, rfl, me_7 (List.mem_of_getElem? (i := 52) rfl)⟩
set_option maxRecDepth 100000 in
theorem gk_220 : gOK (12, 244, 12, 23) := ⟨_, rfl, by decide, rfl, me_7 (List.mem_of_getElem? (i := 53) rfl)⟩
set_option maxRecDepth 100000 in
theorem gk_221 : gOK (12, 331, 12, 24) := ⟨_, rfl, by decide, rfl, me_7 (List.mem_of_getElem? (i := 54) rfl)⟩
set_option maxRecDepth 100000 in
theorem gk_222 : gOK (12, 47, 12, 25) := ⟨_, rfl, by decide, rfl, me_7 (List.mem_of_getElem? (i := 55) rfl)⟩
set_option maxRecDepth 100000 in
theorem gk_223 : gOK (12, 50, 12, 26) := ⟨_, rfl, by decide, rfl, me_7 (List.mem_of_getElem? (i := 56) rfl)⟩
set_option maxRecDepth 100000 in
theorem gk_224 : gOK (12, 53, 12, 27) := ⟨_, rfl, by decide, rfl, me_7 (List.mem_of_getElem? (i := 57) rfl)⟩
set_option maxRecDepth 100000 in
theorem gk_225 : gOK (12, 56, 12, 28) := ⟨_, rfl, by decide, rfl, me_7 (List.mem_of_getElem? (i := 58) rfl)⟩
set_option maxRecDepth 100000 in
theorem gk_226 : gOK (12, 59, 12, 29) := ⟨_, rfl, by decide, rfl, me_7 (List.mem_of_getElem? (i := 59) rfl)⟩
set_option maxRecDepth 100000 in
theorem gk_227 : gOK (12, 398, 12, 30) := ⟨_, rfl, by decide, rfl, me_7 (List.mem_of_getElem? (i := 60) rfl)⟩
set_option maxRecDepth 100000 in
theorem gk_228 : gOK (12, 395, 12, 31) := ⟨_, rfl, by decide, rfl, me_7 (List.mem_of_getElem? (i := 61) rfl)⟩
set_option maxRecDepth 100000 in
theorem gk_229 : gOK (12, 62, 12, 32) := ⟨_, rfl, by decide, rfl, me_7 (List.mem_of_getElem? (i := 62) rfl)⟩
set_option maxRecDepth 100000 in
theorem gk_230 : gOK (12, 65, 12, 33) := ⟨_, rfl, by decide, rfl, me_7 (List.mem_of_getElem? (i := 63) rfl)⟩
set_option maxRecDepth 100000 in
theorem gk_231 : gOK (12, 68, 12, 34) := ⟨_, rfl, by decide, rfl, me_7 (List.mem_of_getElem? (i := 64) rfl)⟩
set_option maxRecDepth 100000 in
theorem gk_232 : gOK (12, 429, 12, 35) := ⟨_, rfl, by decide, rfl, me_7 (List.mem_of_getElem? (i := 65) rfl)⟩
set_option maxRecDepth 100000 in
theorem gk_233 : gOK (12, 71, 12, 36) := ⟨_, rfl, by decide, rfl, me_7 (List.mem_of_getElem? (i := 66) rfl)⟩
set_option maxRecDepth 100000 in
theorem gk_234 : gOK (12, 449, 12, 37) := ⟨_, rfl, by decide, rfl, me_7 (List.mem_of_getElem? (i := 67) rfl)⟩
set_option maxRecDepth 100000 in
theorem gk_235 : gOK (12, 452, 12, 38) := ⟨_, rfl, by decide, rfl, me_7 (List.mem_of_getElem? (i := 68) rfl)⟩
set_option maxRecDepth 100000 in
theorem gk_236 : gOK (12, 471, 12, 39) := ⟨_, rfl, by decide, rfl, me_7 (List.mem_of_getElem? (i := 69) rfl)⟩
set_option maxRecDepth 100000 in
theorem gk_237 : gOK (12, 491, 12, 40) := ⟨_, rfl, by decide, rfl, me_7 (List.mem_of_getElem? (i := 70) rfl)⟩
set_option maxRecDepth 100000 in
theorem gk_238 : gOK (12, 74, 12, 41) := ⟨_, rfl, by decide, rfl, me_7 (List.mem_of_getElem? (i := 71) rfl)⟩
set_option maxRecDepth 100000 in
theorem gk_239 : gOK (12, 77, 12, 42) := ⟨_, rfl, by decide, rfl, me_7 (List.mem_of_getElem? (i := 72) rfl)⟩
set_option maxRecDepth 100000 in
theorem gk_240 : gOK (12, 80, 12, 43) := ⟨_, rfl, by decide, rfl, me_7 (List.mem_of_getElem? (i := 73) rfl)⟩
set_option maxRecDepth 100000 in
theorem gk_241 : gOK (12, 508, 12, 44) := ⟨_, rfl, by decide, rfl, me_7 (List.mem_of_getElem? (i := 74) rfl)⟩
set_option maxRecDepth 100000 in
theorem gk_242 : gOK (12, 512, 12, 45) := ⟨_, rfl, by decide, rfl, me_7 (List.mem_of_getElem? (i := 75) rfl)⟩
def gT0 : List (Nat × Nat × Nat × Nat) := [(1, 11, 1, 0), (1, 15, 1, 1), (1, 19, 1, 2), (3, 30, 3, 0), (0, 195, 3, 0), (7, 90, 3, 0), (5, 133, 3, 0), (3, 34, 3, 1), (0, 200, 3, 1), (10, 185, 3, 1), (7, 95, 3, 1), (3, 37, 3, 2), (8, 57, 3, 2), (10, 104, 3, 2), (5, 70, 3, 2), (0, 338, 3, 2), (3, 40, 3, 3), (8, 93, 3, 3), (5, 63, 3, 3), (0, 203, 3, 3), (3, 43, 3, 4), (5, 53, 3, 4), (0, 224, 3, 4), (3, 11, 3, 5), (3, 15, 3, 6), (3, 18, 3, 7), (5, 44, 3, 7), (8, 103, 3, 7), (0, 241, 3, 7), (3, 21, 3, 8), (8, 111, 3, 8), (5, 79, 3, 8)]
set_option maxRecDepth 100000 in
theorem gT0_ok : ∀ t ∈ gT0, gOK t := List.forall_mem_cons.mpr ⟨gk_0, List.forall_mem_cons.mpr ⟨gk_1, List.forall_mem_cons.mpr ⟨gk_2, List.forall_mem_cons.mpr ⟨gk_3, List.forall_mem_cons.mpr ⟨gk_4, List.forall_mem_cons.mpr ⟨gk_5, List.forall_mem_cons.mpr ⟨gk_6, List.forall_mem_cons.mpr ⟨gk_7, List.forall_mem_cons.mpr ⟨gk_8, List.forall_mem_cons.mpr ⟨gk_9, List.forall_mem_cons.mpr ⟨gk_10, List.forall_mem_cons.mpr ⟨gk_11, List.forall_mem_cons.mpr ⟨gk_12, List.forall_mem_cons.mpr ⟨gk_13, List.forall_mem_cons.mpr ⟨gk_14, List.forall_mem_cons.mpr ⟨gk_15, List.forall_mem_cons.mpr ⟨gk_16, List.forall_mem_cons.mpr ⟨gk_17, List.forall_mem_cons.mpr ⟨gk_18, List.forall_mem_cons.mpr ⟨gk_19, List.forall_mem_cons.mpr ⟨gk_20, List.forall_mem_cons.mpr ⟨gk_21, List.forall_mem_cons.mpr ⟨gk_22, List.forall_mem_cons.mpr ⟨gk_23, List.forall_mem_cons.mpr ⟨gk_24, List.forall_mem_cons.mpr ⟨gk_25, List.forall_mem_cons.mpr ⟨gk_26, List.forall_mem_cons.mpr ⟨gk_27, List.forall_mem_cons.mpr ⟨gk_28, List.forall_mem_cons.mpr ⟨gk_29, List.forall_mem_cons.mpr ⟨gk_30, List.forall_mem_cons.mpr ⟨gk_31, fun _ h => absurd h List.not_mem_nil⟩⟩⟩⟩⟩⟩⟩⟩⟩⟩⟩⟩⟩⟩⟩⟩⟩⟩⟩⟩⟩⟩⟩⟩⟩⟩⟩⟩⟩⟩⟩⟩
def gT1 : List (Nat × Nat × Nat × Nat) := [(0, 244, 3, 8), (3, 24, 3, 9), (8, 114, 3, 9), (5, 82, 3, 9), (0, 247, 3, 9), (3, 27, 3, 10), (8, 117, 3, 10), (0, 250, 3, 10), (4, 34, 4, 0), (2, 44, 4, 0), (8, 127, 4, 0), (5, 56, 4, 0), (0, 170, 4, 0), (10, 179, 4, 0), (4, 11, 4, 1), (4, 15, 4, 2), (5, 73, 4, 2), (0, 262, 4, 2), (4, 19, 4, 3), (2, 80, 4, 3), (10, 114, 4, 3), (0, 265, 4, 3), (5, 126, 4, 3), (4, 22, 4, 4), (5, 85, 4, 4), (0, 268, 4, 4), (4, 25, 4, 5), (2, 103, 4, 5), (5, 76, 4, 5), (0, 271, 4, 5), (4, 28, 4, 6), (10, 156, 4, 6)]
set_option maxRecDepth 100000 in
theorem gT1_ok : ∀ t ∈ gT1, gOK t := List.forall_mem_cons.mpr ⟨gk_32, List.forall_mem_cons.mpr ⟨gk_33, List.forall_mem_cons.mpr ⟨gk_34, List.forall_mem_cons.mpr ⟨gk_35, List.forall_mem_cons.mpr ⟨gk_36, List.forall_mem_cons.mpr ⟨gk_37, List.forall_mem_cons.mpr ⟨gk_38, List.forall_mem_cons.mpr ⟨gk_39, List.forall_mem_cons.mpr ⟨gk_40, List.forall_mem_cons.mpr ⟨gk_41, List.forall_mem_cons.mpr ⟨gk_42, List.forall_mem_cons.mpr ⟨gk_43, List.forall_mem_cons.mpr ⟨gk_44, List.forall_mem_cons.mpr ⟨gk_45, List.forall_mem_cons.mpr ⟨gk_46, List.forall_mem_cons.mpr ⟨gk_47, List.forall_mem_cons.mpr ⟨gk_48, List.forall_mem_cons.mpr ⟨gk_49, List.forall_mem_cons.mpr ⟨gk_50, List.forall_mem_cons.mpr ⟨gk_51, List.forall_mem_cons.mpr ⟨gk_52, List.forall_mem_cons.mpr ⟨gk_53, List.forall_mem_cons.mpr ⟨gk_54, List.forall_mem_cons.mpr ⟨gk_55, List.forall_mem_cons.mpr ⟨gk_56, List.forall_mem_cons.mpr ⟨gk_57, List.forall_mem_cons.mpr ⟨gk_58, List.forall_mem_cons.mpr ⟨gk_59, List.forall_mem_cons.mpr ⟨gk_60, List.forall_mem_cons.mpr ⟨gk_61, List.forall_mem_cons.mpr ⟨gk_62, List.forall_mem_cons.mpr ⟨gk_63, fun _ h => absurd h List.not_mem_nil⟩⟩⟩⟩⟩⟩⟩⟩⟩⟩⟩⟩⟩⟩⟩⟩⟩⟩⟩⟩⟩⟩⟩⟩⟩⟩⟩⟩⟩⟩⟩⟩
def gT2 : List (Nat × Nat × Nat × Nat) := [(5, 117, 4, 6), (0, 274, 4, 6), (4, 31, 4, 7), (2, 91, 4, 7), (0, 286, 4, 7), (5, 23, 5, 0), (5, 27, 5, 1), (5, 11, 5, 2), (11, 134, 5, 2), (0, 238, 5, 2), (5, 17, 5, 3), (2, 72, 5, 3), (10, 107, 5, 3), (11, 171, 5, 3), (0, 291, 5, 3), (5, 20, 5, 4), (0, 294, 5, 4), (11, 38, 5, 5), (5, 37, 5, 5), (0, 211, 5, 5), (11, 32, 5, 6), (5, 41, 5, 6), (0, 206, 5, 6), (6, 27, 6, 0), (9, 59, 6, 0), (0, 420, 6, 0), (6, 31, 6, 1), (9, 84, 6, 1), (0, 184, 6, 1), (6, 35, 6, 2), (11, 115, 6, 2), (6, 11, 6, 3)]
set_option maxRecDepth 100000 in
theorem gT2_ok : ∀ t ∈ gT2, gOK t := List.forall_mem_cons.mpr ⟨gk_64, List.forall_mem_cons.mpr ⟨gk_65, List.forall_mem_cons.mpr ⟨gk_66, List.forall_mem_cons.mpr ⟨gk_67, List.forall_mem_cons.mpr ⟨gk_68, List.forall_mem_cons.mpr ⟨gk_69, List.forall_mem_cons.mpr ⟨gk_70, List.forall_mem_cons.mpr ⟨gk_71, List.forall_mem_cons.mpr ⟨gk_72, List.forall_mem_cons.mpr ⟨gk_73, List.forall_mem_cons.mpr ⟨gk_74, List.forall_mem_cons.mpr ⟨gk_75, List.forall_mem_cons.mpr ⟨gk_76, List.forall_mem_cons.mpr ⟨gk_77, List.forall_mem_cons.mpr ⟨gk_78, List.forall_mem_cons.mpr ⟨gk_79, List.forall_mem_cons.mpr ⟨gk_80, List.forall_mem_cons.mpr ⟨gk_81, List.forall_mem_cons.mpr ⟨gk_82, List.forall_mem_cons.mpr ⟨gk_83, List.forall_mem_cons.mpr ⟨gk_84, List.forall_mem_cons.mpr ⟨gk_85, List.forall_mem_cons.mpr ⟨gk_86, List.forall_mem_cons.mpr ⟨gk_87, List.forall_mem_cons.mpr ⟨gk_88, List.forall_mem_cons.mpr ⟨gk_89, List.forall_mem_cons.mpr ⟨gk_90, List.forall_mem_cons.mpr ⟨gk_91, List.forall_mem_cons.mpr ⟨gk_92, List.forall_mem_cons.mpr ⟨gk_93, List.forall_mem_cons.mpr ⟨gk_94, List.forall_mem_cons.mpr ⟨gk_95, fun _ h => absurd h List.not_mem_nil⟩⟩⟩⟩⟩⟩⟩⟩⟩⟩⟩⟩⟩⟩⟩⟩⟩⟩⟩⟩⟩⟩⟩⟩⟩⟩⟩⟩⟩⟩⟩⟩
def gT3 : List (Nat × Nat × Nat × Nat) := [(11, 61, 6, 3), (6, 15, 6, 4), (11, 87, 6, 4), (6, 18, 6, 5), (11, 90, 6, 5), (6, 21, 6, 6), (11, 93, 6, 6), (6, 24, 6, 7), (11, 84, 6, 7), (2, 12, 2, 0), (10, 28, 2, 0), (8, 53, 2, 0), (11, 127, 2, 0), (9, 111, 2, 0), (0, 187, 2, 0), (2, 21, 2, 1), (10, 35, 2, 1), (9, 101, 2, 1), (8, 123, 2, 1), (11, 164, 2, 1), (0, 166, 2, 1), (2, 30, 2, 2), (11, 28, 2, 2), (10, 49, 2, 2), (8, 40, 2, 2), (0, 191, 2, 2), (11, 21, 2, 3), (2, 37, 2, 3), (0, 69, 2, 3), (7, 11, 7, 0), (7, 15, 7, 1), (7, 39, 7, 2)]
set_option maxRecDepth 100000 in
theorem gT3_ok : ∀ t ∈ gT3, gOK t := List.forall_mem_cons.mpr ⟨gk_96, List.forall_mem_cons.mpr ⟨gk_97, List.forall_mem_cons.mpr ⟨gk_98, List.forall_mem_cons.mpr ⟨gk_99, List.forall_mem_cons.mpr ⟨gk_100, List.forall_mem_cons.mpr ⟨gk_101, List.forall_mem_cons.mpr ⟨gk_102, List.forall_mem_cons.mpr ⟨gk_103, List.forall_mem_cons.mpr ⟨gk_104, List.forall_mem_cons.mpr ⟨gk_105, List.forall_mem_cons.mpr ⟨gk_106, List.forall_mem_cons.mpr ⟨gk_107, List.forall_mem_cons.mpr ⟨gk_108, List.forall_mem_cons.mpr ⟨gk_109, List.forall_mem_cons.mpr ⟨gk_110, List.forall_mem_cons.mpr ⟨gk_111, List.forall_mem_cons.mpr ⟨gk_112, List.forall_mem_cons.mpr ⟨gk_113, List.forall_mem_cons.mpr ⟨gk_114, List.forall_mem_cons.mpr ⟨gk_115, List.forall_mem_cons.mpr ⟨gk_116, List.forall_mem_cons.mpr ⟨gk_117, List.forall_mem_cons.mpr ⟨gk_118, List.forall_mem_cons.mpr ⟨gk_119, List.forall_mem_cons.mpr ⟨gk_120, List.forall_mem_cons.mpr ⟨gk_121, List.forall_mem_cons.mpr ⟨gk_122, List.forall_mem_cons.mpr ⟨gk_123, List.forall_mem_cons.mpr ⟨gk_124, List.forall_mem_cons.mpr ⟨gk_125, List.forall_mem_cons.mpr ⟨gk_126, List.forall_mem_cons.mpr ⟨gk_127, fun _ h => absurd h List.not_mem_nil⟩⟩⟩⟩⟩⟩⟩⟩⟩⟩⟩⟩⟩⟩⟩⟩⟩⟩⟩⟩⟩⟩⟩⟩⟩⟩⟩⟩⟩⟩⟩⟩
def gT4 : List (Nat × Nat × Nat × Nat) := [(7, 42, 7, 3), (7, 54, 7, 4), (7, 57, 7, 5), (7, 60, 7, 6), (7, 45, 7, 7), (0, 440, 7, 7), (7, 48, 7, 8), (0, 441, 7, 8), (8, 9, 8, 0), (8, 15, 8, 1), (8, 24, 8, 2), (9, 15, 9, 0), (9, 19, 9, 1), (9, 23, 9, 2), (9, 11, 9, 3), (9, 32, 9, 4), (10, 24, 10, 0), (10, 34, 10, 1), (10, 39, 10, 2), (10, 42, 10, 3), (10, 11, 10, 4), (10, 17, 10, 5), (10, 20, 10, 6), (10, 68, 10, 7), (10, 72, 10, 8), (10, 123, 10, 9), (10, 126, 10, 10), (10, 77, 10, 11), (0, 367, 10, 11), (10, 80, 10, 12), (0, 446, 10, 12), (10, 83, 10, 13)]
set_option maxRecDepth 100000 in
theorem gT4_ok : ∀ t ∈ gT4, gOK t := List.forall_mem_cons.mpr ⟨gk_128, List.forall_mem_cons.mpr ⟨gk_129, List.forall_mem_cons.mpr ⟨gk_130, List.forall_mem_cons.mpr ⟨gk_131, List.forall_mem_cons.mpr ⟨gk_132, List.forall_mem_cons.mpr ⟨gk_133, List.forall_mem_cons.mpr ⟨gk_134, List.forall_mem_cons.mpr ⟨gk_135, List.forall_mem_cons.mpr ⟨gk_136, List.forall_mem_cons.mpr ⟨gk_137, List.forall_mem_cons.mpr ⟨gk_138, List.forall_mem_cons.mpr ⟨gk_139, List.forall_mem_cons.mpr ⟨gk_140, List.forall_mem_cons.mpr ⟨gk_141, List.forall_mem_cons.mpr ⟨gk_142, List.forall_mem_cons.mpr ⟨gk_143, List.forall_mem_cons.mpr ⟨gk_144, List.forall_mem_cons.mpr ⟨gk_145, List.forall_mem_cons.mpr ⟨gk_146, List.forall_mem_cons.mpr ⟨gk_147, List.forall_mem_cons.mpr ⟨gk_148, List.forall_mem_cons.mpr ⟨gk_149, List.forall_mem_cons.mpr ⟨gk_150, List.forall_mem_cons.mpr ⟨gk_151, List.forall_mem_cons.mpr ⟨gk_152, List.forall_mem_cons.mpr ⟨gk_153, List.forall_mem_cons.mpr ⟨gk_154, List.forall_mem_cons.mpr ⟨gk_155, List.forall_mem_cons.mpr ⟨gk_156, List.forall_mem_cons.mpr ⟨gk_157, List.forall_mem_cons.mpr ⟨gk_158, List.forall_mem_cons.mpr ⟨gk_159, fun _ h => absurd h List.not_mem_nil⟩⟩⟩⟩⟩⟩⟩⟩⟩⟩⟩⟩⟩⟩⟩⟩⟩⟩⟩⟩⟩⟩⟩⟩⟩⟩⟩⟩⟩⟩⟩⟩
def gT5 : List (Nat × Nat × Nat × Nat) := [(0, 449, 10, 13), (10, 176, 10, 14), (0, 404, 10, 14), (10, 182, 10, 15), (0, 407, 10, 15), (11, 17, 11, 0), (11, 27, 11, 1), (11, 11, 11, 2), (11, 41, 11, 3), (11, 109, 11, 4), (11, 112, 11, 5), (11, 44, 11, 6), (11, 73, 11, 7), (11, 47, 11, 8), (11, 81, 11, 9), (11, 50, 11, 10), (11, 53, 11, 11), (0, 434, 11, 11), (0, 94, 0, 0), (0, 97, 0, 1), (0, 7, 0, 2), (0, 146, 0, 3), (0, 13, 0, 4), (0, 17, 0, 5), (0, 437, 0, 6), (0, 431, 0, 7), (0, 20, 0, 8), (0, 26, 0, 9), (0, 33, 0, 10), (0, 40, 0, 11), (0, 44, 0, 12), (0, 47, 0, 13)]
set_option maxRecDepth 100000 in
theorem gT5_ok : ∀ t ∈ gT5, gOK t := List.forall_mem_cons.mpr ⟨gk_160, List.forall_mem_cons.mpr ⟨gk_161, List.forall_mem_cons.mpr ⟨gk_162, List.forall_mem_cons.mpr ⟨gk_163, List.forall_mem_cons.mpr ⟨gk_164, List.forall_mem_cons.mpr ⟨gk_165, List.forall_mem_cons.mpr ⟨gk_166, List.forall_mem_cons.mpr ⟨gk_167, List.forall_mem_cons.mpr ⟨gk_168, List.forall_mem_cons.mpr ⟨gk_169, List.forall_mem_cons.mpr ⟨gk_170, List.forall_mem_cons.mpr ⟨gk_171, List.forall_mem_cons.mpr ⟨gk_172, List.forall_mem_cons.mpr ⟨gk_173, List.forall_mem_cons.mpr ⟨gk_174, List.forall_mem_cons.mpr ⟨gk_175, List.forall_mem_cons.mpr ⟨gk_176, List.forall_mem_cons.mpr ⟨gk_177, List.forall_mem_cons.mpr ⟨gk_178, List.forall_mem_cons.mpr ⟨gk_179, List.forall_mem_cons.mpr ⟨gk_180, List.forall_mem_cons.mpr ⟨gk_181, List.forall_mem_cons.mpr ⟨gk_182, List.forall_mem_cons.mpr ⟨gk_183, List.forall_mem_cons.mpr ⟨gk_184, List.forall_mem_cons.mpr ⟨gk_185, List.forall_mem_cons.mpr ⟨gk_186, List.forall_mem_cons.mpr ⟨gk_187, List.forall_mem_cons.mpr ⟨gk_188, List.forall_mem_cons.mpr ⟨gk_189, List.forall_mem_cons.mpr ⟨gk_190, List.forall_mem_cons.mpr ⟨gk_191, fun _ h => absurd h List.not_mem_nil⟩⟩⟩⟩⟩⟩⟩⟩⟩⟩⟩⟩⟩⟩⟩⟩⟩⟩⟩⟩⟩⟩⟩⟩⟩⟩⟩⟩⟩⟩⟩⟩
def gT6 : List (Nat × Nat × Nat × Nat) := [(0, 54, 0, 14), (0, 63, 0, 15), (0, 76, 0, 16), (0, 85, 0, 17), (0, 90, 0, 18), (12, 7, 12, 0), (12, 13, 12, 1), (12, 87, 12, 2), (12, 90, 12, 3), (12, 17, 12, 4), (12, 21, 12, 5), (12, 24, 12, 6), (12, 27, 12, 7), (12, 30, 12, 8), (12, 34, 12, 9), (12, 117, 12, 10), (12, 123, 12, 11), (12, 138, 12, 12), (12, 132, 12, 13), (12, 126, 12, 14), (12, 135, 12, 15), (12, 37, 12, 16), (12, 41, 12, 17), (12, 163, 12, 18), (12, 166, 12, 19), (12, 210, 12, 20), (12, 44, 12, 21), (12, 241, 12, 22), (12, 244, 12, 23), (12, 331, 12, 24), (12, 47, 12, 25), (12, 50, 12, 26)]
set_option maxRecDepth 100000 in
theorem gT6_ok : ∀ t ∈ gT6, gOK t := List.forall_mem_cons.mpr ⟨gk_192, List.forall_mem_cons.mpr ⟨gk_193, List.forall_mem_cons.mpr ⟨gk_194, List.forall_mem_cons.mpr ⟨gk_195, List.forall_mem_cons.mpr ⟨gk_196, List.forall_mem_cons.mpr ⟨gk_197, List.forall_mem_cons.mpr ⟨gk_198, List.forall_mem_cons.mpr ⟨gk_199, List.forall_mem_cons.mpr ⟨gk_200, List.forall_mem_cons.mpr ⟨gk_201, List.forall_mem_cons.mpr ⟨gk_202, List.forall_mem_cons.mpr ⟨gk_203, List.forall_mem_cons.mpr ⟨gk_204, List.forall_mem_cons.mpr ⟨gk_205, List.forall_mem_cons.mpr ⟨gk_206, List.forall_mem_cons.mpr ⟨gk_207, List.forall_mem_cons.mpr ⟨gk_208, List.forall_mem_cons.mpr ⟨gk_209, List.forall_mem_cons.mpr ⟨gk_210, List.forall_mem_cons.mpr ⟨gk_211, List.forall_mem_cons.mpr ⟨gk_212, List.forall_mem_cons.mpr ⟨gk_213, List.forall_mem_cons.mpr ⟨gk_214, List.forall_mem_cons.mpr ⟨gk_215, List.forall_mem_cons.mpr ⟨gk_216, List.forall_mem_cons.mpr ⟨gk_217, List.forall_mem_cons.mpr ⟨gk_218, List.forall_mem_cons.mpr ⟨gk_219, List.forall_mem_cons.mpr ⟨gk_220, List.forall_mem_cons.mpr ⟨gk_221, List.forall_mem_cons.mpr ⟨gk_222, List.forall_mem_cons.mpr ⟨gk_223, fun _ h => absurd h List.not_mem_nil⟩⟩⟩⟩⟩⟩⟩⟩⟩⟩⟩⟩⟩⟩⟩⟩⟩⟩⟩⟩⟩⟩⟩⟩⟩⟩⟩⟩⟩⟩⟩⟩
def gT7 : List (Nat × Nat × Nat × Nat) := [(12, 53, 12, 27), (12, 56, 12, 28), (12, 59, 12, 29), (12, 398, 12, 30), (12, 395, 12, 31), (12, 62, 12, 32), (12, 65, 12, 33), (12, 68, 12, 34), (12, 429, 12, 35), (12, 71, 12, 36), (12, 449, 12, 37), (12, 452, 12, 38), (12, 471, 12, 39), (12, 491, 12, 40), (12, 74, 12, 41), (12, 77, 12, 42), (12, 80, 12, 43), (12, 508, 12, 44), (12, 512, 12, 45)]
set_option maxRecDepth 100000 in
theorem gT7_ok : ∀ t ∈ gT7, gOK t := List.forall_mem_cons.mpr ⟨gk_224, List.forall_mem_cons.mpr ⟨gk_225, List.forall_mem_cons.mpr ⟨gk_226, List.forall_mem_cons.mpr ⟨gk_227, List.forall_mem_cons.mpr ⟨gk_228, List.forall_mem_cons.mpr ⟨gk_229, List.forall_mem_cons.mpr ⟨gk_230, List.forall_mem_cons.mpr ⟨gk_231, List.forall_mem_cons.mpr ⟨gk_232, List.forall_mem_cons.mpr ⟨gk_233, List.forall_mem_cons.mpr ⟨gk_234, List.forall_mem_cons.mpr ⟨gk_235, List.forall_mem_cons.mpr ⟨gk_236, List.forall_mem_cons.mpr ⟨gk_237, List.forall_mem_cons.mpr ⟨gk_238, List.forall_mem_cons.mpr ⟨gk_239, List.forall_mem_cons.mpr ⟨gk_240, List.forall_mem_cons.mpr ⟨gk_241, List.forall_mem_cons.mpr ⟨gk_242, fun _ h => absurd h List.not_mem_nil⟩⟩⟩⟩⟩⟩⟩⟩⟩⟩⟩⟩⟩⟩⟩⟩⟩⟩⟩
def gTab : List (Nat × Nat × Nat × Nat) := gT0 ++ (gT1 ++ (gT2 ++ (gT3 ++ (gT4 ++ (gT5 ++ (gT6 ++ (gT7)))))))
set_option maxRecDepth 100000 in
theorem gTab_ok : ∀ t ∈ gTab, gOK t := List.forall_mem_append.mpr ⟨gT0_ok, List.forall_mem_append.mpr ⟨gT1_ok, List.forall_mem_append.mpr ⟨gT2_ok, List.forall_mem_append.mpr ⟨gT3_ok, List.forall_mem_append.mpr ⟨gT4_ok, List.forall_mem_append.mpr ⟨gT5_ok, List.forall_mem_append.mpr ⟨gT6_ok, gT7_ok⟩⟩⟩⟩⟩⟩⟩
def gM (c j : Nat) : Option (Nat × Nat) := (gTab.find? (fun t => Nat.beq t.1 c && Nat.beq t.2.1 j)).map (fun t => t.2.2)
theorem gM_ok {c j : Nat} {q : Nat × Nat} (h : gM c j = some q) : gOK (c, j, q) := by
  unfold gM at h
  cases hf : gTab.find? (fun t => Nat.beq t.1 c && Nat.beq t.2.1 j) with
  | none => rw [hf] at h; cases h
  | some t =>
    rw [hf] at h
    have h1 := List.find?_some hf
    have h2 := gTab_ok t (List.mem_of_find?_eq_some hf)
    simp only [Bool.and_eq_true] at h1
    obtain ⟨t1, t2, t3⟩ := t
    have e1 : t1 = c := Nat.eq_of_beq_eq_true h1.1
    have e2 : t2 = j := Nat.eq_of_beq_eq_true h1.2
    subst e1; subst e2
    cases h
    exact h2
def nOK (t : Nat × Nat × Nat) : Prop := Cond.classLink (cN t.1) t.2.1 (cN t.2.2) ∈ lw_tbl ∧ Cond.instantiable (cN t.2.2) (cF t.2.2) ∈ lw_tbl ∧ Cond.initialized (cN t.2.2) ∈ lw_tbl ∧ t.2.2 < 13
set_option maxRecDepth 100000 in
theorem nk_0 : nOK (13, 7, 0) := ⟨me_1 (List.mem_of_getElem? (i := 22) rfl), me_1 (List.mem_of_getElem? (i := 23) rfl), me_1 (List.mem_of_getElem? (i := 1) rfl), by decide⟩
set_option maxRecDepth 100000 in
theorem nk_1 : nOK (0, 30, 1) := ⟨me_1 (List.mem_of_getElem? (i := 30) rfl), me_1 (List.mem_of_getElem? (i := 31) rfl), me_1 (List.mem_of_getElem? (i := 2) rfl), by decide⟩
set_option maxRecDepth 100000 in
theorem nk_2 : nOK (0, 37, 2) := ⟨me_1 (List.mem_of_getElem? (i := 52) rfl), me_1 (List.mem_of_getElem? (i := 53) rfl), me_1 (List.mem_of_getElem? (i := 4) rfl), by decide⟩
set_option maxRecDepth 100000 in
theorem nk_3 : nOK (2, 9, 3) := ⟨me_1 (List.mem_of_getElem? (i := 58) rfl), me_1 (List.mem_of_getElem? (i := 59) rfl), me_1 (List.mem_of_getElem? (i := 5) rfl), by decide⟩
set_option maxRecDepth 100000 in
theorem nk_4 : nOK (2, 18, 4) := ⟨me_1 (List.mem_of_getElem? (i := 124) rfl), me_1 (List.mem_of_getElem? (i := 125) rfl), me_1 (List.mem_of_getElem? (i := 6) rfl), by decide⟩
set_option maxRecDepth 100000 in
theorem nk_5 : nOK (2, 25, 5) := ⟨me_1 (List.mem_of_getElem? (i := 176) rfl), me_1 (List.mem_of_getElem? (i := 177) rfl), me_1 (List.mem_of_getElem? (i := 7) rfl), by decide⟩
set_option maxRecDepth 100000 in
theorem nk_6 : nOK (2, 34, 6) := ⟨me_1 (List.mem_of_getElem? (i := 215) rfl), me_1 (List.mem_of_getElem? (i := 216) rfl), me_1 (List.mem_of_getElem? (i := 8) rfl), by decide⟩
set_option maxRecDepth 100000 in
theorem nk_7 : nOK (0, 51, 7) := ⟨me_2 (List.mem_of_getElem? (i := 46) rfl), me_2 (List.mem_of_getElem? (i := 47) rfl), me_1 (List.mem_of_getElem? (i := 9) rfl), by decide⟩
set_option maxRecDepth 100000 in
theorem nk_8 : nOK (0, 58, 8) := ⟨me_2 (List.mem_of_getElem? (i := 132) rfl), me_2 (List.mem_of_getElem? (i := 133) rfl), me_1 (List.mem_of_getElem? (i := 14) rfl), by decide⟩
set_option maxRecDepth 100000 in
theorem nk_9 : nOK (0, 67, 9) := ⟨me_2 (List.mem_of_getElem? (i := 148) rfl), me_2 (List.mem_of_getElem? (i := 149) rfl), me_1 (List.mem_of_getElem? (i := 15) rfl), by decide⟩
set_option maxRecDepth 100000 in
theorem nk_10 : nOK (0, 80, 10) := ⟨me_2 (List.mem_of_getElem? (i := 170) rfl), me_2 (List.mem_of_getElem? (i := 171) rfl), me_1 (List.mem_of_getElem? (i := 16) rfl), by decide⟩
set_option maxRecDepth 100000 in
theorem nk_11 : nOK (10, 40, 5) := ⟨me_2 (List.mem_of_getElem? (i := 176) rfl), me_1 (List.mem_of_getElem? (i := 177) rfl), me_1 (List.mem_of_getElem? (i := 7) rfl), by decide⟩
set_option maxRecDepth 100000 in
theorem nk_12 : nOK (0, 24, 11) := ⟨me_2 (List.mem_of_getElem? (i := 233) rfl), me_2 (List.mem_of_getElem? (i := 234) rfl), me_1 (List.mem_of_getElem? (i := 17) rfl), by decide⟩
set_option maxRecDepth 100000 in
theorem nk_13 : nOK (13, 10, 12) := ⟨me_7 (List.mem_of_getElem? (i := 20) rfl), me_7 (List.mem_of_getElem? (i := 21) rfl), me_1 (List.mem_of_getElem? (i := 18) rfl), by decide⟩
def nTab : List (Nat × Nat × Nat) := [(13, 7, 0), (0, 30, 1), (0, 37, 2), (2, 9, 3), (2, 18, 4), (2, 25, 5), (2, 34, 6), (0, 51, 7), (0, 58, 8), (0, 67, 9), (0, 80, 10), (10, 40, 5), (0, 24, 11), (13, 10, 12)]
set_option maxRecDepth 100000 in
theorem nTab_ok : ∀ t ∈ nTab, nOK t := List.forall_mem_cons.mpr ⟨nk_0, List.forall_mem_cons.mpr ⟨nk_1, List.forall_mem_cons.mpr ⟨nk_2, List.forall_mem_cons.mpr ⟨nk_3, List.forall_mem_cons.mpr ⟨nk_4, List.forall_mem_cons.mpr ⟨nk_5, List.forall_mem_cons.mpr ⟨nk_6, List.forall_mem_cons.mpr ⟨nk_7, List.forall_mem_cons.mpr ⟨nk_8, List.forall_mem_cons.mpr ⟨nk_9, List.forall_mem_cons.mpr ⟨nk_10, List.forall_mem_cons.mpr ⟨nk_11, List.forall_mem_cons.mpr ⟨nk_12, List.forall_mem_cons.mpr ⟨nk_13, fun _ h => absurd h List.not_mem_nil⟩⟩⟩⟩⟩⟩⟩⟩⟩⟩⟩⟩⟩⟩
def kOKi (t : Nat × Nat × Int32) : Prop := Cond.constant (cN t.1) t.2.1 t.2.2 ∈ lw_tbl
set_option maxRecDepth 100000 in
theorem ki_0 : kOKi (15, 265, 1431655765) := me_5 (List.mem_of_getElem? (i := 3) rfl)
set_option maxRecDepth 100000 in
theorem ki_1 : kOKi (15, 266, 858993459) := me_5 (List.mem_of_getElem? (i := 4) rfl)
set_option maxRecDepth 100000 in
theorem ki_2 : kOKi (15, 267, 252645135) := me_5 (List.mem_of_getElem? (i := 5) rfl)
set_option maxRecDepth 100000 in
theorem ki_3 : kOKi (10, 76, -1000000) := me_6 (List.mem_of_getElem? (i := 33) rfl)
set_option maxRecDepth 100000 in
theorem ki_4 : kOKi (10, 132, 1000000) := me_6 (List.mem_of_getElem? (i := 79) rfl)
set_option maxRecDepth 100000 in
theorem ki_5 : kOKi (11, 56, 1000000) := me_6 (List.mem_of_getElem? (i := 190) rfl)
set_option maxRecDepth 100000 in
theorem ki_6 : kOKi (11, 184, 65536) := me_6 (List.mem_of_getElem? (i := 228) rfl)
set_option maxRecDepth 100000 in
theorem ki_7 : kOKi (12, 147, 100000) := me_8 (List.mem_of_getElem? (i := 6) rfl)
set_option maxRecDepth 100000 in
theorem ki_8 : kOKi (12, 353, 1000000) := me_9 (List.mem_of_getElem? (i := 20) rfl)
set_option maxRecDepth 100000 in
theorem ki_9 : kOKi (12, 474, 65536) := me_10 (List.mem_of_getElem? (i := 54) rfl)
def iTab : List (Nat × Nat × Int32) := [(15, 265, 1431655765), (15, 266, 858993459), (15, 267, 252645135), (10, 76, -1000000), (10, 132, 1000000), (11, 56, 1000000), (11, 184, 65536), (12, 147, 100000), (12, 353, 1000000), (12, 474, 65536)]
set_option maxRecDepth 100000 in
theorem iTab_ok : ∀ t ∈ iTab, kOKi t := List.forall_mem_cons.mpr ⟨ki_0, List.forall_mem_cons.mpr ⟨ki_1, List.forall_mem_cons.mpr ⟨ki_2, List.forall_mem_cons.mpr ⟨ki_3, List.forall_mem_cons.mpr ⟨ki_4, List.forall_mem_cons.mpr ⟨ki_5, List.forall_mem_cons.mpr ⟨ki_6, List.forall_mem_cons.mpr ⟨ki_7, List.forall_mem_cons.mpr ⟨ki_8, List.forall_mem_cons.mpr ⟨ki_9, fun _ h => absurd h List.not_mem_nil⟩⟩⟩⟩⟩⟩⟩⟩⟩⟩
def kOKl (t : Nat × Nat × Int64) : Prop := Cond.constantLong (cN t.1) t.2.1 t.2.2 ∈ lw_tbl
set_option maxRecDepth 100000 in
theorem kl_0 : kOKl (7, 31, 27) := me_2 (List.mem_of_getElem? (i := 101) rfl)
set_option maxRecDepth 100000 in
theorem kl_1 : kOKl (1, 46, -1) := me_3 (List.mem_of_getElem? (i := 169) rfl)
set_option maxRecDepth 100000 in
theorem kl_2 : kOKl (7, 70, -1) := me_3 (List.mem_of_getElem? (i := 214) rfl)
set_option maxRecDepth 100000 in
theorem kl_3 : kOKl (7, 72, 10) := me_3 (List.mem_of_getElem? (i := 219) rfl)
set_option maxRecDepth 100000 in
theorem kl_4 : kOKl (7, 82, 59) := me_4 (List.mem_of_getElem? (i := 41) rfl)
set_option maxRecDepth 100000 in
theorem kl_5 : kOKl (0, 410, 16) := me_6 (List.mem_of_getElem? (i := 159) rfl)
set_option maxRecDepth 100000 in
theorem kl_6 : kOKl (3, 72, 16) := me_6 (List.mem_of_getElem? (i := 166) rfl)
set_option maxRecDepth 100000 in
theorem kl_7 : kOKl (12, 115, -1) := me_7 (List.mem_of_getElem? (i := 207) rfl)
set_option maxRecDepth 100000 in
theorem kl_8 : kOKl (12, 344, 99) := me_8 (List.mem_of_getElem? (i := 235) rfl)
set_option maxRecDepth 100000 in
theorem kl_9 : kOKl (12, 360, 20) := me_9 (List.mem_of_getElem? (i := 11) rfl)
set_option maxRecDepth 100000 in
theorem kl_10 : kOKl (12, 365, 9) := me_9 (List.mem_of_getElem? (i := 45) rfl)
set_option maxRecDepth 100000 in
theorem kl_11 : kOKl (12, 404, 3) := me_9 (List.mem_of_getElem? (i := 149) rfl)
set_option maxRecDepth 100000 in
theorem kl_12 : kOKl (12, 413, 2) := me_9 (List.mem_of_getElem? (i := 169) rfl)
set_option maxRecDepth 100000 in
theorem kl_13 : kOKl (12, 461, 16) := me_10 (List.mem_of_getElem? (i := 5) rfl)
set_option maxRecDepth 100000 in
theorem kl_14 : kOKl (12, 503, 9999) := me_10 (List.mem_of_getElem? (i := 26) rfl)
set_option maxRecDepth 100000 in
theorem kl_15 : kOKl (13, 32, 4294967295) := me_10 (List.mem_of_getElem? (i := 83) rfl)
def jTab : List (Nat × Nat × Int64) := [(7, 31, 27), (1, 46, -1), (7, 70, -1), (7, 72, 10), (7, 82, 59), (0, 410, 16), (3, 72, 16), (12, 115, -1), (12, 344, 99), (12, 360, 20), (12, 365, 9), (12, 404, 3), (12, 413, 2), (12, 461, 16), (12, 503, 9999), (13, 32, 4294967295)]
set_option maxRecDepth 100000 in
theorem jTab_ok : ∀ t ∈ jTab, kOKl t := List.forall_mem_cons.mpr ⟨kl_0, List.forall_mem_cons.mpr ⟨kl_1, List.forall_mem_cons.mpr ⟨kl_2, List.forall_mem_cons.mpr ⟨kl_3, List.forall_mem_cons.mpr ⟨kl_4, List.forall_mem_cons.mpr ⟨kl_5, List.forall_mem_cons.mpr ⟨kl_6, List.forall_mem_cons.mpr ⟨kl_7, List.forall_mem_cons.mpr ⟨kl_8, List.forall_mem_cons.mpr ⟨kl_9, List.forall_mem_cons.mpr ⟨kl_10, List.forall_mem_cons.mpr ⟨kl_11, List.forall_mem_cons.mpr ⟨kl_12, List.forall_mem_cons.mpr ⟨kl_13, List.forall_mem_cons.mpr ⟨kl_14, List.forall_mem_cons.mpr ⟨kl_15, fun _ h => absurd h List.not_mem_nil⟩⟩⟩⟩⟩⟩⟩⟩⟩⟩⟩⟩⟩⟩⟩⟩
def nM (c j : Nat) : Option Nat := (nTab.find? (fun t => Nat.beq t.1 c && Nat.beq t.2.1 j)).map (fun t => t.2.2)
theorem nM_ok {c j : Nat} {q : Nat} (h : nM c j = some q) : nOK (c, j, q) := by
  unfold nM at h
  cases hf : nTab.find? (fun t => Nat.beq t.1 c && Nat.beq t.2.1 j) with
  | none => rw [hf] at h; cases h
  | some t =>
    rw [hf] at h
    have h1 := List.find?_some hf
    have h2 := nTab_ok t (List.mem_of_find?_eq_some hf)
    simp only [Bool.and_eq_true] at h1
    obtain ⟨t1, t2, t3⟩ := t
    have e1 : t1 = c := Nat.eq_of_beq_eq_true h1.1
    have e2 : t2 = j := Nat.eq_of_beq_eq_true h1.2
    subst e1; subst e2
    cases h
    exact h2
def iM (c j : Nat) : Option Int32 := (iTab.find? (fun t => Nat.beq t.1 c && Nat.beq t.2.1 j)).map (fun t => t.2.2)
theorem iM_ok {c j : Nat} {q : Int32} (h : iM c j = some q) : kOKi (c, j, q) := by
  unfold iM at h
  cases hf : iTab.find? (fun t => Nat.beq t.1 c && Nat.beq t.2.1 j) with
  | none => rw [hf] at h; cases h
  | some t =>
    rw [hf] at h
    have h1 := List.find?_some hf
    have h2 := iTab_ok t (List.mem_of_find?_eq_some hf)
    simp only [Bool.and_eq_true] at h1
    obtain ⟨t1, t2, t3⟩ := t
    have e1 : t1 = c := Nat.eq_of_beq_eq_true h1.1
    have e2 : t2 = j := Nat.eq_of_beq_eq_true h1.2
    subst e1; subst e2
    cases h
    exact h2
def jM (c j : Nat) : Option Int64 := (jTab.find? (fun t => Nat.beq t.1 c && Nat.beq t.2.1 j)).map (fun t => t.2.2)
theorem jM_ok {c j : Nat} {q : Int64} (h : jM c j = some q) : kOKl (c, j, q) := by
  unfold jM at h
  cases hf : jTab.find? (fun t => Nat.beq t.1 c && Nat.beq t.2.1 j) with
  | none => rw [hf] at h; cases h
  | some t =>
    rw [hf] at h
    have h1 := List.find?_some hf
    have h2 := jTab_ok t (List.mem_of_find?_eq_some hf)
    simp only [Bool.and_eq_true] at h1
    obtain ⟨t1, t2, t3⟩ := t
    have e1 : t1 = c := Nat.eq_of_beq_eq_true h1.1
    have e2 : t2 = j := Nat.eq_of_beq_eq_true h1.2
    subst e1; subst e2
    cases h
    exact h2
/-- strings: (class, index) of each of the two constants -/
def sM (c j : Nat) : Option Nat := if c = 7 ∧ j = 19 then some 0 else if c = 12 ∧ j = 186 then some 1 else none
