/-! ===== THE CLASSES (written by gen_classes.py): fields, types, starts, words ===== -/
def lw_gd : List Cond := lw_tbl.filter goodWord
theorem gd_at {i : Nat} {w : Cond} (h : lw_tbl[i]? = some w) (hg : goodWord w = true) : w ∈ lw_gd := List.mem_filter.mpr ⟨List.mem_of_getElem? h, hg⟩
theorem gd_all {ws : List Cond} (ps : List Nat) (hp : ws = ps.filterMap (fun i => lw_tbl[i]?)) (h : ws.all goodWord = true) : ∀ w ∈ ws, w ∈ lw_gd := by
  intro w hw
  have h1 := List.all_eq_true.mp h w hw
  rw [hp] at hw
  obtain ⟨i, -, hi⟩ := List.mem_filterMap.mp hw
  exact gd_at hi h1
def pT0 : u_T := fun k => match k with
  | 0 => ("PairSorts$Characters", "known", "Z", false)
  | 1 => ("PairSorts$Characters", "count", "I", false)
  | 2 => ("PairSorts$Characters", "greatest", "I", false)
  | 3 => ("PairSorts$Characters", "product", "J", false)
  | 4 => ("PairSorts$Characters", "values", "[I", true)
  | 5 => ("PairSorts$Characters", "multiplicities", "[I", true)
  | 6 => ("PairSorts$Characters", "valencies", "[I", true)
  | _ => ("PairSorts$Characters", "attempt", "[I", true)
def pY0 : Nat → FieldType := fun k => match k with
  | 0 => .boolean
  | 1 => .int
  | 2 => .int
  | 3 => .long
  | 4 => .array .int
  | 5 => .array .int
  | 6 => .array .int
  | _ => .array .int
def pD0 : List Value := [.int 0, .int 0, .int 0, .long 0, .null, .null, .null, .null]
def pT1 : u_T := fun k => match k with
  | 0 => ("PairSorts$Codes", "tally", "[I", true)
  | 1 => ("PairSorts$Codes", "friends", "[I", true)
  | _ => ("PairSorts$Codes", "best", "I", false)
def pY1 : Nat → FieldType := fun k => match k with
  | 0 => .array .int
  | 1 => .array .int
  | _ => .int
def pD1 : List Value := [.null, .null, .int 0]
def pT2 : u_T := fun k => match k with
  | 0 => ("PairSorts$Fusions", "known", "Z", false)
  | 1 => ("PairSorts$Fusions", "count", "I", false)
  | 2 => ("PairSorts$Fusions", "found", "[I", true)
  | 3 => ("PairSorts$Fusions", "digits", "[I", true)
  | _ => ("PairSorts$Fusions", "fused", "LPairSorts$Scheme;", true)
def pY2 : Nat → FieldType := fun k => match k with
  | 0 => .boolean
  | 1 => .int
  | 2 => .array .int
  | 3 => .array .int
  | _ => .object "PairSorts$Scheme"
def pD2 : List Value := [.int 0, .int 0, .null, .null, .null]
def pT3 : u_T := fun k => match k with
  | _ => ("PairSorts$Maker", "marks", "[I", true)
def pY3 : Nat → FieldType := fun k => match k with
  | _ => .array .int
def pD3 : List Value := [.null]
def pT4 : u_T := fun k => match k with
  | 0 => ("PairSorts$Orders", "known", "Z", false)
  | 1 => ("PairSorts$Orders", "count", "I", false)
  | 2 => ("PairSorts$Orders", "found", "[I", true)
  | 3 => ("PairSorts$Orders", "order", "[I", true)
  | 4 => ("PairSorts$Orders", "used", "[Z", true)
  | _ => ("PairSorts$Orders", "numbers", "[J", true)
def pY4 : Nat → FieldType := fun k => match k with
  | 0 => .boolean
  | 1 => .int
  | 2 => .array .int
  | 3 => .array .int
  | 4 => .array .boolean
  | _ => .array .long
def pD4 : List Value := [.int 0, .int 0, .null, .null, .null, .null]
def pT5 : u_T := fun k => match k with
  | 0 => ("PairSorts$Scheme", "table", "LPairSorts$Table;", true)
  | 1 => ("PairSorts$Scheme", "greatest", "I", false)
  | 2 => ("PairSorts$Scheme", "judged", "Z", false)
  | 3 => ("PairSorts$Scheme", "good", "Z", false)
  | 4 => ("PairSorts$Scheme", "explained", "Z", false)
  | 5 => ("PairSorts$Scheme", "parts", "[I", true)
  | 6 => ("PairSorts$Scheme", "seen", "[Z", true)
  | 7 => ("PairSorts$Scheme", "walks", "[I", true)
  | _ => ("PairSorts$Scheme", "firstWalks", "[I", true)
def pY5 : Nat → FieldType := fun k => match k with
  | 0 => .object "PairSorts$Table"
  | 1 => .int
  | 2 => .boolean
  | 3 => .boolean
  | 4 => .boolean
  | 5 => .array .int
  | 6 => .array .boolean
  | 7 => .array .int
  | _ => .array .int
def pD5 : List Value := [.null, .int 0, .int 0, .int 0, .int 0, .null, .null, .null, .null]
def pT6 : u_T := fun k => match k with
  | 0 => ("PairSorts$Shelf", "count", "I", false)
  | _ => ("PairSorts$Shelf", "kept", "[LPairSorts$Table;", true)
def pY6 : Nat → FieldType := fun k => match k with
  | 0 => .int
  | _ => .array (.object "PairSorts$Table")
def pD6 : List Value := [.int 0, .null]
def pT7 : u_T := fun k => match k with
  | 0 => ("PairSorts$Simplex", "bottom", "J", false)
  | 1 => ("PairSorts$Simplex", "height", "I", false)
  | 2 => ("PairSorts$Simplex", "last", "I", false)
  | 3 => ("PairSorts$Simplex", "cells", "[J", true)
  | _ => ("PairSorts$Simplex", "basis", "[I", true)
def pY7 : Nat → FieldType := fun k => match k with
  | 0 => .long
  | 1 => .int
  | 2 => .int
  | 3 => .array .long
  | _ => .array .int
def pD7 : List Value := [.long 0, .int 0, .int 0, .null, .null]
def pT8 : u_T := fun k => match k with
  | 0 => ("PairSorts$Table", "size", "I", false)
  | _ => ("PairSorts$Table", "cells", "[I", true)
def pY8 : Nat → FieldType := fun k => match k with
  | 0 => .int
  | _ => .array .int
def pD8 : List Value := [.int 0, .null]
def pT9 : u_T := fun k => match k with
  | 0 => ("PairSorts$Text", "size", "I", false)
  | 1 => ("PairSorts$Text", "commands", "I", false)
  | 2 => ("PairSorts$Text", "open", "Z", false)
  | 3 => ("PairSorts$Text", "wanted", "I", false)
  | 4 => ("PairSorts$Text", "got", "I", false)
  | 5 => ("PairSorts$Text", "digits", "I", false)
  | 6 => ("PairSorts$Text", "bytes", "[I", true)
  | 7 => ("PairSorts$Text", "letters", "[I", true)
  | _ => ("PairSorts$Text", "numbers", "[I", true)
def pY9 : Nat → FieldType := fun k => match k with
  | 0 => .int
  | 1 => .int
  | 2 => .boolean
  | 3 => .int
  | 4 => .int
  | 5 => .int
  | 6 => .array .int
  | 7 => .array .int
  | _ => .array .int
def pD9 : List Value := [.int 0, .int 0, .int 0, .int 0, .int 0, .int 0, .null, .null, .null]
def pT10 : u_T := fun k => match k with
  | 0 => ("PairSorts", "scheme", "LPairSorts$Scheme;", true)
  | 1 => ("PairSorts", "table", "LPairSorts$Table;", true)
  | 2 => ("PairSorts", "settled", "LPairSorts$Table;", true)
  | 3 => ("PairSorts", "shelf", "LPairSorts$Shelf;", true)
  | 4 => ("PairSorts", "maker", "LPairSorts$Maker;", true)
  | 5 => ("PairSorts", "characters", "LPairSorts$Characters;", true)
  | 6 => ("PairSorts", "stepOrders", "LPairSorts$Orders;", true)
  | 7 => ("PairSorts", "rowOrders", "LPairSorts$Orders;", true)
  | 8 => ("PairSorts", "goodFusions", "LPairSorts$Fusions;", true)
  | 9 => ("PairSorts", "codes", "LPairSorts$Codes;", true)
  | 10 => ("PairSorts", "simplex", "LPairSorts$Simplex;", true)
  | 11 => ("PairSorts", "text", "LPairSorts$Text;", true)
  | _ => ("PairSorts", "errors", "[I", true)
def pY10 : Nat → FieldType := fun k => match k with
  | 0 => .object "PairSorts$Scheme"
  | 1 => .object "PairSorts$Table"
  | 2 => .object "PairSorts$Table"
  | 3 => .object "PairSorts$Shelf"
  | 4 => .object "PairSorts$Maker"
  | 5 => .object "PairSorts$Characters"
  | 6 => .object "PairSorts$Orders"
  | 7 => .object "PairSorts$Orders"
  | 8 => .object "PairSorts$Fusions"
  | 9 => .object "PairSorts$Codes"
  | 10 => .object "PairSorts$Simplex"
  | 11 => .object "PairSorts$Text"
  | _ => .array .int
def pD10 : List Value := [.null, .null, .null, .null, .null, .null, .null, .null, .null, .null, .null, .null, .null]
def pT11 : u_T := fun k => match k with
  | 0 => ("PairSortsModel", "all", "[I", true)
  | 1 => ("PairSortsModel", "past", "[I", true)
  | 2 => ("PairSortsModel", "aside", "[I", true)
  | 3 => ("PairSortsModel", "states", "I", false)
  | 4 => ("PairSortsModel", "refused", "[I", true)
  | 5 => ("PairSortsModel", "sets", "[I", true)
  | 6 => ("PairSortsModel", "becomes", "[I", true)
  | 7 => ("PairSortsModel", "ofPair", "[I", true)
  | 8 => ("PairSortsModel", "firsts", "[I", true)
  | 9 => ("PairSortsModel", "paths", "[I", true)
  | 10 => ("PairSortsModel", "verdicts", "[I", true)
  | 11 => ("PairSortsModel", "lastNow", "I", false)
  | 12 => ("PairSortsModel", "valences", "[I", true)
  | 13 => ("PairSortsModel", "tried", "[I", true)
  | 14 => ("PairSortsModel", "found", "[I", true)
  | 15 => ("PairSortsModel", "foundMany", "I", false)
  | 16 => ("PairSortsModel", "times", "[I", true)
  | 17 => ("PairSortsModel", "above", "J", false)
  | 18 => ("PairSortsModel", "below", "J", false)
  | 19 => ("PairSortsModel", "order", "[I", true)
  | 20 => ("PairSortsModel", "follows", "[I", true)
  | 21 => ("PairSortsModel", "figures", "[I", true)
  | 22 => ("PairSortsModel", "weighed", "[I", true)
  | 23 => ("PairSortsModel", "weighedMany", "I", false)
  | 24 => ("PairSortsModel", "shares", "[J", true)
  | 25 => ("PairSortsModel", "shareBy", "J", false)
  | 26 => ("PairSortsModel", "met", "[I", true)
  | 27 => ("PairSortsModel", "lines", "[J", true)
  | 28 => ("PairSortsModel", "square", "[J", true)
  | 29 => ("PairSortsModel", "weights", "[J", true)
  | 30 => ("PairSortsModel", "text", "[I", true)
  | 31 => ("PairSortsModel", "textLong", "I", false)
  | 32 => ("PairSortsModel", "place", "I", false)
  | 33 => ("PairSortsModel", "numbers", "[I", true)
  | 34 => ("PairSortsModel", "stopped", "Z", false)
  | _ => ("PairSortsModel", "before", "[I", true)
def pY11 : Nat → FieldType := fun k => match k with
  | 0 => .array .int
  | 1 => .array .int
  | 2 => .array .int
  | 3 => .int
  | 4 => .array .int
  | 5 => .array .int
  | 6 => .array .int
  | 7 => .array .int
  | 8 => .array .int
  | 9 => .array .int
  | 10 => .array .int
  | 11 => .int
  | 12 => .array .int
  | 13 => .array .int
  | 14 => .array .int
  | 15 => .int
  | 16 => .array .int
  | 17 => .long
  | 18 => .long
  | 19 => .array .int
  | 20 => .array .int
  | 21 => .array .int
  | 22 => .array .int
  | 23 => .int
  | 24 => .array .long
  | 25 => .long
  | 26 => .array .int
  | 27 => .array .long
  | 28 => .array .long
  | 29 => .array .long
  | 30 => .array .int
  | 31 => .int
  | 32 => .int
  | 33 => .array .int
  | 34 => .boolean
  | _ => .array .int
def pD11 : List Value := [.null, .null, .null, .int 0, .null, .null, .null, .null, .null, .null, .null, .int 0, .null, .null, .null, .int 0, .null, .long 0, .long 0, .null, .null, .null, .null, .int 0, .null, .long 0, .null, .null, .null, .null, .null, .int 0, .int 0, .null, .int 0, .null]
def pCl : List vw_C := [("PairSorts$Characters", pT0, 8), ("PairSorts$Codes", pT1, 3), ("PairSorts$Fusions", pT2, 5), ("PairSorts$Maker", pT3, 1), ("PairSorts$Orders", pT4, 6), ("PairSorts$Scheme", pT5, 9), ("PairSorts$Shelf", pT6, 2), ("PairSorts$Simplex", pT7, 5), ("PairSorts$Table", pT8, 2), ("PairSorts$Text", pT9, 9), ("PairSorts", pT10, 13), ("PairSortsModel", pT11, 36)]
def pY : Nat → Nat → FieldType := fun c => match c with
  | 0 => pY0
  | 1 => pY1
  | 2 => pY2
  | 3 => pY3
  | 4 => pY4
  | 5 => pY5
  | 6 => pY6
  | 7 => pY7
  | 8 => pY8
  | 9 => pY9
  | 10 => pY10
  | _ => pY11
def pD : Nat → List Value := fun c => match c with
  | 0 => pD0
  | 1 => pD1
  | 2 => pD2
  | 3 => pD3
  | 4 => pD4
  | 5 => pD5
  | 6 => pD6
  | 7 => pD7
  | 8 => pD8
  | 9 => pD9
  | 10 => pD10
  | _ => pD11
def cl_ok (ci : Nat) (C : String) (T : u_T) (N : Nat) : Prop := (∀ w ∈ u_ws C T N, w ∈ lw_gd) ∧ (∀ k, k < N → parseFieldDescriptor (T k).2.2.1 = some (pY ci k)) ∧ (∀ a, a < N → ∀ b, b < N → a ≠ b → (T a).2.1 ≠ (T b).2.1) ∧ (∀ j, j < N → defaultValue (pY ci j) = vp_V (pD ci) j) ∧ (pD ci).length = N ∧ Cond.instantiable C N ∈ lw_gd ∧ Cond.initialized C ∈ lw_gd
set_option maxRecDepth 20000 in
theorem cl_ok0 : cl_ok 0 "PairSorts$Characters" pT0 8 := ⟨gd_all [259, 261, 263, 265, 267, 269, 271, 273] (by decide +kernel) (by decide +kernel), by decide +kernel, by decide +kernel, by decide +kernel, by decide +kernel, gd_at (i := 240) (by decide +kernel) (by decide +kernel), gd_at (i := 124) (by decide +kernel) (by decide +kernel)⟩
set_option maxRecDepth 20000 in
theorem cl_ok1 : cl_ok 1 "PairSorts$Codes" pT1 3 := ⟨gd_all [341, 343, 345] (by decide +kernel) (by decide +kernel), by decide +kernel, by decide +kernel, by decide +kernel, by decide +kernel, gd_at (i := 333) (by decide +kernel) (by decide +kernel), gd_at (i := 127) (by decide +kernel) (by decide +kernel)⟩
set_option maxRecDepth 20000 in
theorem cl_ok2 : cl_ok 2 "PairSorts$Fusions" pT2 5 := ⟨gd_all [321, 323, 325, 327, 329] (by decide +kernel) (by decide +kernel), by decide +kernel, by decide +kernel, by decide +kernel, by decide +kernel, gd_at (i := 306) (by decide +kernel) (by decide +kernel), gd_at (i := 126) (by decide +kernel) (by decide +kernel)⟩
set_option maxRecDepth 20000 in
theorem cl_ok3 : cl_ok 3 "PairSorts$Maker" pT3 1 := ⟨gd_all [236] (by decide +kernel) (by decide +kernel), by decide +kernel, by decide +kernel, by decide +kernel, by decide +kernel, gd_at (i := 230) (by decide +kernel) (by decide +kernel), gd_at (i := 123) (by decide +kernel) (by decide +kernel)⟩
set_option maxRecDepth 20000 in
theorem cl_ok4 : cl_ok 4 "PairSorts$Orders" pT4 6 := ⟨gd_all [291, 293, 295, 297, 299, 301] (by decide +kernel) (by decide +kernel), by decide +kernel, by decide +kernel, by decide +kernel, by decide +kernel, gd_at (i := 277) (by decide +kernel) (by decide +kernel), gd_at (i := 125) (by decide +kernel) (by decide +kernel)⟩
set_option maxRecDepth 20000 in
theorem cl_ok5 : cl_ok 5 "PairSorts$Scheme" pT5 9 := ⟨gd_all [190, 192, 194, 196, 198, 200, 202, 204, 206] (by decide +kernel) (by decide +kernel), by decide +kernel, by decide +kernel, by decide +kernel, by decide +kernel, gd_at (i := 144) (by decide +kernel) (by decide +kernel), gd_at (i := 120) (by decide +kernel) (by decide +kernel)⟩
set_option maxRecDepth 20000 in
theorem cl_ok6 : cl_ok 6 "PairSorts$Shelf" pT6 2 := ⟨gd_all [224, 226] (by decide +kernel) (by decide +kernel), by decide +kernel, by decide +kernel, by decide +kernel, by decide +kernel, gd_at (i := 213) (by decide +kernel) (by decide +kernel), gd_at (i := 122) (by decide +kernel) (by decide +kernel)⟩
set_option maxRecDepth 20000 in
theorem cl_ok7 : cl_ok 7 "PairSorts$Simplex" pT7 5 := ⟨gd_all [360, 362, 364, 366, 368] (by decide +kernel) (by decide +kernel), by decide +kernel, by decide +kernel, by decide +kernel, by decide +kernel, gd_at (i := 349) (by decide +kernel) (by decide +kernel), gd_at (i := 128) (by decide +kernel) (by decide +kernel)⟩
set_option maxRecDepth 20000 in
theorem cl_ok8 : cl_ok 8 "PairSorts$Table" pT8 2 := ⟨gd_all [169, 171] (by decide +kernel) (by decide +kernel), by decide +kernel, by decide +kernel, by decide +kernel, by decide +kernel, gd_at (i := 150) (by decide +kernel) (by decide +kernel), gd_at (i := 121) (by decide +kernel) (by decide +kernel)⟩
set_option maxRecDepth 20000 in
theorem cl_ok9 : cl_ok 9 "PairSorts$Text" pT9 9 := ⟨gd_all [388, 390, 392, 394, 396, 398, 400, 402, 404] (by decide +kernel) (by decide +kernel), by decide +kernel, by decide +kernel, by decide +kernel, by decide +kernel, gd_at (i := 372) (by decide +kernel) (by decide +kernel), gd_at (i := 129) (by decide +kernel) (by decide +kernel)⟩
set_option maxRecDepth 20000 in
theorem cl_ok10 : cl_ok 10 "PairSorts" pT10 13 := ⟨gd_all [420, 422, 424, 426, 428, 430, 432, 434, 436, 438, 440, 442, 444] (by decide +kernel) (by decide +kernel), by decide +kernel, by decide +kernel, by decide +kernel, by decide +kernel, gd_at (i := 136) (by decide +kernel) (by decide +kernel), gd_at (i := 119) (by decide +kernel) (by decide +kernel)⟩
set_option maxRecDepth 20000 in
theorem cl_ok11 : cl_ok 11 "PairSortsModel" pT11 36 := ⟨gd_all [1048, 1050, 1052, 1054, 1056, 1058, 1060, 1062, 1064, 1066, 1068, 1070, 1072, 1074, 1076, 1078, 1080, 1082, 1084, 1086, 1088, 1090, 1092, 1094, 1096, 1098, 1100, 1102, 1104, 1106, 1108, 1110, 1112, 1114, 1116, 1118] (by decide +kernel) (by decide +kernel), by decide +kernel, by decide +kernel, by decide +kernel, by decide +kernel, gd_at (i := 1003) (by decide +kernel) (by decide +kernel), gd_at (i := 130) (by decide +kernel) (by decide +kernel)⟩
theorem cl_all : ∀ (ci : Nat) (C : String) (T : u_T) (N : Nat), pCl[ci]? = some (C, T, N) → cl_ok ci C T N := by
  intro ci C T N h
  match ci, h with
  | 0, h => cases h; exact cl_ok0
  | 1, h => cases h; exact cl_ok1
  | 2, h => cases h; exact cl_ok2
  | 3, h => cases h; exact cl_ok3
  | 4, h => cases h; exact cl_ok4
  | 5, h => cases h; exact cl_ok5
  | 6, h => cases h; exact cl_ok6
  | 7, h => cases h; exact cl_ok7
  | 8, h => cases h; exact cl_ok8
  | 9, h => cases h; exact cl_ok9
  | 10, h => cases h; exact cl_ok10
  | 11, h => cases h; exact cl_ok11
  | k + 12, h => simp [pCl] at h
