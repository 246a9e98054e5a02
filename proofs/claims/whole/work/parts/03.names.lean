def TX0 : u_T := fun k => match k with
  | 0 => ("TileBins", "wide", "I", false)
  | 1 => ("TileBins", "high", "I", false)
  | 2 => ("TileBins", "shift", "I", false)
  | 3 => ("TileBins", "columns", "I", false)
  | 4 => ("TileBins", "lines", "I", false)
  | 5 => ("TileBins", "cells", "I", false)
  | 6 => ("TileBins", "parts", "[I", false)
  | 7 => ("TileBins", "items", "I", false)
  | 8 => ("TileBins", "taken", "I", false)
  | 9 => ("TileBins", "opened", "I", false)
  | _ => ("TileBins", "ahead", "I", false)
def tyX0 : Nat → FieldType := fun k => match k with
  | 0 => .int
  | 1 => .int
  | 2 => .int
  | 3 => .int
  | 4 => .int
  | 5 => .int
  | 6 => .array .int
  | 7 => .int
  | 8 => .int
  | 9 => .int
  | _ => .int
theorem nmX0 : ∀ a, a < 11 → ∀ b, b < 11 → a ≠ b → (TX0 a).2.1 ≠ (TX0 b).2.1 := by decide +kernel
theorem tyX0_ok : ∀ k, k < 11 → parseFieldDescriptor (TX0 k).2.2.1 = some (tyX0 k) := by decide +kernel
def TX1 : u_T := fun k => match k with
  | 0 => ("TileBinsModel", "thrown", "I", false)
  | 1 => ("TileBinsModel", "wide", "I", false)
  | 2 => ("TileBinsModel", "high", "I", false)
  | 3 => ("TileBinsModel", "side", "I", false)
  | 4 => ("TileBinsModel", "cells", "I", false)
  | 5 => ("TileBinsModel", "items", "I", false)
  | 6 => ("TileBinsModel", "taken", "I", false)
  | 7 => ("TileBinsModel", "left", "[I", true)
  | 8 => ("TileBinsModel", "top", "[I", true)
  | 9 => ("TileBinsModel", "right", "[I", true)
  | 10 => ("TileBinsModel", "bottom", "[I", true)
  | 11 => ("TileBinsModel", "tag", "[I", true)
  | 12 => ("TileBinsModel", "opened", "I", false)
  | _ => ("TileBinsModel", "after", "I", false)
def tyX1 : Nat → FieldType := fun k => match k with
  | 0 => .int
  | 1 => .int
  | 2 => .int
  | 3 => .int
  | 4 => .int
  | 5 => .int
  | 6 => .int
  | 7 => .array .int
  | 8 => .array .int
  | 9 => .array .int
  | 10 => .array .int
  | 11 => .array .int
  | 12 => .int
  | _ => .int
theorem nmX1 : ∀ a, a < 14 → ∀ b, b < 14 → a ≠ b → (TX1 a).2.1 ≠ (TX1 b).2.1 := by decide +kernel
theorem tyX1_ok : ∀ k, k < 14 → parseFieldDescriptor (TX1 k).2.2.1 = some (tyX1 k) := by decide +kernel
abbrev vwCl : List vw_C := [("TileBins", TX0, 11), ("TileBinsModel", TX1, 14)]
/-- the good words of the tables: every contract here asks for all of them -/
def gb : List Cond := lw_tbl.filter goodWord
theorem gb_in : ∀ w ∈ gb, w ∈ lw_tbl ∧ goodWord w = true := fun w h => List.mem_filter.mp h
theorem gb_of {w : Cond} (h : w ∈ lw_tbl) (hg : goodWord w = true) : w ∈ gb := List.mem_filter.mpr ⟨h, hg⟩
theorem inX0 : ∀ w ∈ u_ws "TileBins" TX0 11, w ∈ gb := by decide +kernel
theorem inX1 : ∀ w ∈ u_ws "TileBinsModel" TX1 14, w ∈ gb := by decide +kernel
abbrev cX0_init : ByteArray := prog_1_method_1_code
abbrev yX0_init : MethodName := ⟨"TileBins", "<init>", "()V"⟩
abbrev cX0_field : ByteArray := prog_1_method_2_code
abbrev yX0_field : MethodName := ⟨"TileBins", "field", "(IIII)I"⟩
abbrev cX0_put : ByteArray := prog_1_method_3_code
abbrev yX0_put : MethodName := ⟨"TileBins", "put", "(IIIII)I"⟩
abbrev cX0_empty : ByteArray := prog_1_method_4_code
abbrev yX0_empty : MethodName := ⟨"TileBins", "empty", "()V"⟩
abbrev cX0_open : ByteArray := prog_1_method_5_code
abbrev yX0_open : MethodName := ⟨"TileBins", "open", "(I)I"⟩
abbrev cX0_next : ByteArray := prog_1_method_6_code
abbrev yX0_next : MethodName := ⟨"TileBins", "next", "()I"⟩
abbrev cX0_item : ByteArray := prog_1_method_7_code
abbrev yX0_item : MethodName := ⟨"TileBins", "item", "(II)I"⟩
abbrev cX0_tile : ByteArray := prog_1_method_8_code
abbrev yX0_tile : MethodName := ⟨"TileBins", "tile", "(II)I"⟩
abbrev cX0_tileOf : ByteArray := prog_1_method_9_code
abbrev yX0_tileOf : MethodName := ⟨"TileBins", "tileOf", "(II)I"⟩
abbrev cX0_count : ByteArray := prog_1_method_10_code
abbrev yX0_count : MethodName := ⟨"TileBins", "count", "(I)I"⟩
abbrev cX0_layOut : ByteArray := prog_1_method_11_code
abbrev yX0_layOut : MethodName := ⟨"TileBins", "layOut", "(IIII)V"⟩
abbrev cX0_takeAllOut : ByteArray := prog_1_method_12_code
abbrev yX0_takeAllOut : MethodName := ⟨"TileBins", "takeAllOut", "()V"⟩
abbrev cX0_makeRoom : ByteArray := prog_1_method_13_code
abbrev yX0_makeRoom : MethodName := ⟨"TileBins", "makeRoom", "()V"⟩
abbrev cX0_tilesAcross : ByteArray := prog_1_method_14_code
abbrev yX0_tilesAcross : MethodName := ⟨"TileBins", "tilesAcross", "(II)I"⟩
abbrev cX0_tilesInAll : ByteArray := prog_1_method_15_code
abbrev yX0_tilesInAll : MethodName := ⟨"TileBins", "tilesInAll", "()I"⟩
abbrev cX0_isTile : ByteArray := prog_1_method_16_code
abbrev yX0_isTile : MethodName := ⟨"TileBins", "isTile", "(I)Z"⟩
abbrev cX0_sideLength : ByteArray := prog_1_method_17_code
abbrev yX0_sideLength : MethodName := ⟨"TileBins", "sideLength", "()I"⟩
abbrev cX0_leftOf : ByteArray := prog_1_method_18_code
abbrev yX0_leftOf : MethodName := ⟨"TileBins", "leftOf", "(I)I"⟩
abbrev cX0_topOf : ByteArray := prog_1_method_19_code
abbrev yX0_topOf : MethodName := ⟨"TileBins", "topOf", "(I)I"⟩
abbrev cX0_itemsTouching : ByteArray := prog_1_method_20_code
abbrev yX0_itemsTouching : MethodName := ⟨"TileBins", "itemsTouching", "(I)I"⟩
abbrev cX0_firstTouching : ByteArray := prog_1_method_21_code
abbrev yX0_firstTouching : MethodName := ⟨"TileBins", "firstTouching", "(II)I"⟩
abbrev cX0_touches : ByteArray := prog_1_method_22_code
abbrev yX0_touches : MethodName := ⟨"TileBins", "touches", "(III)Z"⟩
abbrev cX0_isWithin : ByteArray := prog_1_method_23_code
abbrev yX0_isWithin : MethodName := ⟨"TileBins", "isWithin", "(III)Z"⟩
abbrev cX0_powerOf : ByteArray := prog_1_method_24_code
abbrev yX0_powerOf : MethodName := ⟨"TileBins", "powerOf", "(I)I"⟩
abbrev cX1_init : ByteArray := prog_3_method_1_code
abbrev yX1_init : MethodName := ⟨"TileBinsModel", "<init>", "()V"⟩
abbrev cX1_thrown : ByteArray := prog_3_method_2_code
abbrev yX1_thrown : MethodName := ⟨"TileBinsModel", "thrown", "()I"⟩
abbrev cX1_refuse : ByteArray := prog_3_method_3_code
abbrev yX1_refuse : MethodName := ⟨"TileBinsModel", "refuse", "(ZZ)Z"⟩
abbrev cX1_in : ByteArray := prog_3_method_4_code
abbrev yX1_in : MethodName := ⟨"TileBinsModel", "in", "(III)Z"⟩
abbrev cX1_across : ByteArray := prog_3_method_5_code
abbrev yX1_across : MethodName := ⟨"TileBinsModel", "across", "()I"⟩
abbrev cX1_tiles : ByteArray := prog_3_method_6_code
abbrev yX1_tiles : MethodName := ⟨"TileBinsModel", "tiles", "()I"⟩
abbrev cX1_isTile : ByteArray := prog_3_method_7_code
abbrev yX1_isTile : MethodName := ⟨"TileBinsModel", "isTile", "(I)Z"⟩
abbrev cX1_field : ByteArray := prog_3_method_8_code
abbrev yX1_field : MethodName := ⟨"TileBinsModel", "field", "(IIII)I"⟩
abbrev cX1_least : ByteArray := prog_3_method_9_code
abbrev yX1_least : MethodName := ⟨"TileBinsModel", "least", "(II)I"⟩
abbrev cX1_greatest : ByteArray := prog_3_method_10_code
abbrev yX1_greatest : MethodName := ⟨"TileBinsModel", "greatest", "(II)I"⟩
abbrev cX1_edge : ByteArray := prog_3_method_11_code
abbrev yX1_edge : MethodName := ⟨"TileBinsModel", "edge", "(II)I"⟩
abbrev cX1_isEmpty : ByteArray := prog_3_method_12_code
abbrev yX1_isEmpty : MethodName := ⟨"TileBinsModel", "isEmpty", "(IIII)Z"⟩
abbrev cX1_touches : ByteArray := prog_3_method_13_code
abbrev yX1_touches : MethodName := ⟨"TileBinsModel", "touches", "(II)Z"⟩
abbrev cX1_tilesOf : ByteArray := prog_3_method_14_code
abbrev yX1_tilesOf : MethodName := ⟨"TileBinsModel", "tilesOf", "(I)I"⟩
abbrev cX1_put : ByteArray := prog_3_method_15_code
abbrev yX1_put : MethodName := ⟨"TileBinsModel", "put", "(IIIII)I"⟩
abbrev cX1_empty : ByteArray := prog_3_method_16_code
abbrev yX1_empty : MethodName := ⟨"TileBinsModel", "empty", "()V"⟩
abbrev cX1_manyOf : ByteArray := prog_3_method_17_code
abbrev yX1_manyOf : MethodName := ⟨"TileBinsModel", "manyOf", "(I)I"⟩
abbrev cX1_open : ByteArray := prog_3_method_18_code
abbrev yX1_open : MethodName := ⟨"TileBinsModel", "open", "(I)I"⟩
abbrev cX1_next : ByteArray := prog_3_method_19_code
abbrev yX1_next : MethodName := ⟨"TileBinsModel", "next", "()I"⟩
abbrev cX1_item : ByteArray := prog_3_method_20_code
abbrev yX1_item : MethodName := ⟨"TileBinsModel", "item", "(II)I"⟩
abbrev cX1_tile : ByteArray := prog_3_method_21_code
abbrev yX1_tile : MethodName := ⟨"TileBinsModel", "tile", "(II)I"⟩
abbrev cX1_tileOf : ByteArray := prog_3_method_22_code
abbrev yX1_tileOf : MethodName := ⟨"TileBinsModel", "tileOf", "(II)I"⟩
abbrev cX1_count : ByteArray := prog_3_method_23_code
abbrev yX1_count : MethodName := ⟨"TileBinsModel", "count", "(I)I"⟩
abbrev cL_field : ByteArray := method_3_code
abbrev yL_field : MethodName := ⟨"TileBinsLaw", "field", "(LTileBins;IIII[J)I"⟩
abbrev cL_put : ByteArray := method_4_code
abbrev yL_put : MethodName := ⟨"TileBinsLaw", "put", "(LTileBins;IIIII[J)I"⟩
abbrev cL_open : ByteArray := method_5_code
abbrev yL_open : MethodName := ⟨"TileBinsLaw", "open", "(LTileBins;I[J)I"⟩
abbrev cL_next : ByteArray := method_6_code
abbrev yL_next : MethodName := ⟨"TileBinsLaw", "next", "(LTileBins;[J)I"⟩
abbrev cL_item : ByteArray := method_7_code
abbrev yL_item : MethodName := ⟨"TileBinsLaw", "item", "(LTileBins;II[J)I"⟩
abbrev cL_tile : ByteArray := method_8_code
abbrev yL_tile : MethodName := ⟨"TileBinsLaw", "tile", "(LTileBins;II[J)I"⟩
abbrev cL_tileOf : ByteArray := method_9_code
abbrev yL_tileOf : MethodName := ⟨"TileBinsLaw", "tileOf", "(LTileBins;II[J)I"⟩
abbrev cL_count : ByteArray := method_10_code
abbrev yL_count : MethodName := ⟨"TileBinsLaw", "count", "(LTileBins;I[J)I"⟩
abbrev yL_law : MethodName := ⟨"TileBinsLaw", "law", "([I)Z"⟩
abbrev cJ7_copyOf : ByteArray := prog_14_method_123_code
abbrev yJ7_copyOf : MethodName := ⟨"java/util/Arrays", "copyOf", "([II)[I"⟩
theorem kw_0 : (.selects "TileBins" ⟨"TileBins", "layOut", "(IIII)V"⟩ ⟨"TileBins", "layOut", "(IIII)V"⟩ : Cond) ∈ gb := gb_of (List.mem_of_getElem? (i := 0) (by decide +kernel)) (by decide +kernel)
theorem kw_1 : (.selects "TileBins" ⟨"TileBins", "tilesAcross", "(II)I"⟩ ⟨"TileBins", "tilesAcross", "(II)I"⟩ : Cond) ∈ gb := gb_of (List.mem_of_getElem? (i := 1) (by decide +kernel)) (by decide +kernel)
theorem kw_2 : (.selects "TileBins" ⟨"TileBins", "takeAllOut", "()V"⟩ ⟨"TileBins", "takeAllOut", "()V"⟩ : Cond) ∈ gb := gb_of (List.mem_of_getElem? (i := 2) (by decide +kernel)) (by decide +kernel)
theorem kw_3 : (.selects "java/lang/Throwable" ⟨"java/lang/Throwable", "fillInStackTrace", "(I)Ljava/lang/Throwable;"⟩ ⟨"java/lang/Throwable", "fillInStackTrace", "(I)Ljava/lang/Throwable;"⟩ : Cond) ∈ gb := gb_of (List.mem_of_getElem? (i := 3) (by decide +kernel)) (by decide +kernel)
theorem kw_4 : (.selects "TileBins" ⟨"TileBins", "tilesInAll", "()I"⟩ ⟨"TileBins", "tilesInAll", "()I"⟩ : Cond) ∈ gb := gb_of (List.mem_of_getElem? (i := 4) (by decide +kernel)) (by decide +kernel)
theorem kw_5 : (.selects "TileBins" ⟨"TileBins", "makeRoom", "()V"⟩ ⟨"TileBins", "makeRoom", "()V"⟩ : Cond) ∈ gb := gb_of (List.mem_of_getElem? (i := 5) (by decide +kernel)) (by decide +kernel)
theorem kw_6 : (.selects "TileBins" ⟨"TileBins", "isTile", "(I)Z"⟩ ⟨"TileBins", "isTile", "(I)Z"⟩ : Cond) ∈ gb := gb_of (List.mem_of_getElem? (i := 6) (by decide +kernel)) (by decide +kernel)
theorem kw_7 : (.selects "TileBins" ⟨"TileBins", "itemsTouching", "(I)I"⟩ ⟨"TileBins", "itemsTouching", "(I)I"⟩ : Cond) ∈ gb := gb_of (List.mem_of_getElem? (i := 7) (by decide +kernel)) (by decide +kernel)
theorem kw_8 : (.selects "TileBins" ⟨"TileBins", "leftOf", "(I)I"⟩ ⟨"TileBins", "leftOf", "(I)I"⟩ : Cond) ∈ gb := gb_of (List.mem_of_getElem? (i := 8) (by decide +kernel)) (by decide +kernel)
theorem kw_9 : (.selects "TileBins" ⟨"TileBins", "topOf", "(I)I"⟩ ⟨"TileBins", "topOf", "(I)I"⟩ : Cond) ∈ gb := gb_of (List.mem_of_getElem? (i := 9) (by decide +kernel)) (by decide +kernel)
theorem kw_10 : (.selects "TileBins" ⟨"TileBins", "touches", "(III)Z"⟩ ⟨"TileBins", "touches", "(III)Z"⟩ : Cond) ∈ gb := gb_of (List.mem_of_getElem? (i := 10) (by decide +kernel)) (by decide +kernel)
theorem kw_11 : (.selects "TileBins" ⟨"TileBins", "sideLength", "()I"⟩ ⟨"TileBins", "sideLength", "()I"⟩ : Cond) ∈ gb := gb_of (List.mem_of_getElem? (i := 11) (by decide +kernel)) (by decide +kernel)
theorem kw_12 : (.selects "TileBins" ⟨"TileBins", "firstTouching", "(II)I"⟩ ⟨"TileBins", "firstTouching", "(II)I"⟩ : Cond) ∈ gb := gb_of (List.mem_of_getElem? (i := 12) (by decide +kernel)) (by decide +kernel)
theorem kw_13 : (.selects "TileBinsModel" ⟨"TileBinsModel", "refuse", "(ZZ)Z"⟩ ⟨"TileBinsModel", "refuse", "(ZZ)Z"⟩ : Cond) ∈ gb := gb_of (List.mem_of_getElem? (i := 13) (by decide +kernel)) (by decide +kernel)
theorem kw_14 : (.selects "TileBinsModel" ⟨"TileBinsModel", "tiles", "()I"⟩ ⟨"TileBinsModel", "tiles", "()I"⟩ : Cond) ∈ gb := gb_of (List.mem_of_getElem? (i := 14) (by decide +kernel)) (by decide +kernel)
theorem kw_15 : (.selects "TileBinsModel" ⟨"TileBinsModel", "across", "()I"⟩ ⟨"TileBinsModel", "across", "()I"⟩ : Cond) ∈ gb := gb_of (List.mem_of_getElem? (i := 15) (by decide +kernel)) (by decide +kernel)
theorem kw_16 : (.selects "TileBinsModel" ⟨"TileBinsModel", "tilesOf", "(I)I"⟩ ⟨"TileBinsModel", "tilesOf", "(I)I"⟩ : Cond) ∈ gb := gb_of (List.mem_of_getElem? (i := 16) (by decide +kernel)) (by decide +kernel)
theorem kw_17 : (.selects "TileBinsModel" ⟨"TileBinsModel", "touches", "(II)Z"⟩ ⟨"TileBinsModel", "touches", "(II)Z"⟩ : Cond) ∈ gb := gb_of (List.mem_of_getElem? (i := 17) (by decide +kernel)) (by decide +kernel)
theorem kw_18 : (.selects "TileBinsModel" ⟨"TileBinsModel", "edge", "(II)I"⟩ ⟨"TileBinsModel", "edge", "(II)I"⟩ : Cond) ∈ gb := gb_of (List.mem_of_getElem? (i := 18) (by decide +kernel)) (by decide +kernel)
theorem kw_19 : (.selects "TileBinsModel" ⟨"TileBinsModel", "isTile", "(I)Z"⟩ ⟨"TileBinsModel", "isTile", "(I)Z"⟩ : Cond) ∈ gb := gb_of (List.mem_of_getElem? (i := 19) (by decide +kernel)) (by decide +kernel)
theorem kw_20 : (.selects "TileBinsModel" ⟨"TileBinsModel", "manyOf", "(I)I"⟩ ⟨"TileBinsModel", "manyOf", "(I)I"⟩ : Cond) ∈ gb := gb_of (List.mem_of_getElem? (i := 20) (by decide +kernel)) (by decide +kernel)
theorem kw_21 : (.initialized "TileBinsLaw" : Cond) ∈ gb := gb_of (List.mem_of_getElem? (i := 21) (by decide +kernel)) (by decide +kernel)
theorem kw_22 : (.initialized "TileBins" : Cond) ∈ gb := gb_of (List.mem_of_getElem? (i := 22) (by decide +kernel)) (by decide +kernel)
theorem kw_23 : (.initialized "TileBinsModel" : Cond) ∈ gb := gb_of (List.mem_of_getElem? (i := 23) (by decide +kernel)) (by decide +kernel)
theorem kw_24 : (.initialized "java/lang/Throwable" : Cond) ∈ gb := gb_of (List.mem_of_getElem? (i := 24) (by decide +kernel)) (by decide +kernel)
theorem kw_25 : (.initialized "java/lang/Exception" : Cond) ∈ gb := gb_of (List.mem_of_getElem? (i := 25) (by decide +kernel)) (by decide +kernel)
theorem kw_26 : (.initialized "java/lang/RuntimeException" : Cond) ∈ gb := gb_of (List.mem_of_getElem? (i := 26) (by decide +kernel)) (by decide +kernel)
theorem kw_27 : (.initialized "java/lang/IllegalArgumentException" : Cond) ∈ gb := gb_of (List.mem_of_getElem? (i := 27) (by decide +kernel)) (by decide +kernel)
theorem kw_28 : (.initialized "java/lang/Math" : Cond) ∈ gb := gb_of (List.mem_of_getElem? (i := 28) (by decide +kernel)) (by decide +kernel)
theorem kw_29 : (.initialized "java/lang/IllegalStateException" : Cond) ∈ gb := gb_of (List.mem_of_getElem? (i := 29) (by decide +kernel)) (by decide +kernel)
theorem kw_30 : (.initialized "java/util/Arrays" : Cond) ∈ gb := gb_of (List.mem_of_getElem? (i := 30) (by decide +kernel)) (by decide +kernel)
theorem kw_31 : (.initialized "java/lang/System" : Cond) ∈ gb := gb_of (List.mem_of_getElem? (i := 31) (by decide +kernel)) (by decide +kernel)
theorem kw_32 : (.initialized "java/lang/IndexOutOfBoundsException" : Cond) ∈ gb := gb_of (List.mem_of_getElem? (i := 32) (by decide +kernel)) (by decide +kernel)
theorem kw_33 : (.classLink "TileBinsLaw" 8 "TileBins" : Cond) ∈ gb := gb_of (List.mem_of_getElem? (i := 33) (by decide +kernel)) (by decide +kernel)
theorem kw_34 : (.instantiable "TileBins" 11 : Cond) ∈ gb := gb_of (List.mem_of_getElem? (i := 34) (by decide +kernel)) (by decide +kernel)
theorem kw_35 : (.methodLink "TileBinsLaw" 44 ⟨"TileBins", "<init>", "()V"⟩ : Cond) ∈ gb := gb_of (List.mem_of_getElem? (i := 35) (by decide +kernel)) (by decide +kernel)
theorem kw_36 : (.instanceMethod ⟨"TileBins", "<init>", "()V"⟩ : Cond) ∈ gb := gb_of (List.mem_of_getElem? (i := 36) (by decide +kernel)) (by decide +kernel)
theorem kw_37 : (.code ⟨"TileBins", "<init>", "()V"⟩ prog_1_method_1_code 1 (Option.none : Option ClassFile.FieldType) : Cond) ∈ gb := gb_of (List.mem_of_getElem? (i := 37) (by decide +kernel)) (by decide +kernel)
theorem kw_38 : (.methodLink "TileBins" 1 ⟨"java/lang/Object", "<init>", "()V"⟩ : Cond) ∈ gb := gb_of (List.mem_of_getElem? (i := 38) (by decide +kernel)) (by decide +kernel)
theorem kw_39 : (.instanceMethod ⟨"java/lang/Object", "<init>", "()V"⟩ : Cond) ∈ gb := gb_of (List.mem_of_getElem? (i := 39) (by decide +kernel)) (by decide +kernel)
theorem kw_40 : (.code ⟨"java/lang/Object", "<init>", "()V"⟩ object_method_1_code 1 (Option.none : Option ClassFile.FieldType) : Cond) ∈ gb := gb_of (List.mem_of_getElem? (i := 40) (by decide +kernel)) (by decide +kernel)
theorem kw_41 : (.methodLink "TileBins" 13 ⟨"TileBins", "layOut", "(IIII)V"⟩ : Cond) ∈ gb := gb_of (List.mem_of_getElem? (i := 41) (by decide +kernel)) (by decide +kernel)
theorem kw_43 : (.instanceMethod ⟨"TileBins", "layOut", "(IIII)V"⟩ : Cond) ∈ gb := gb_of (List.mem_of_getElem? (i := 43) (by decide +kernel)) (by decide +kernel)
theorem kw_44 : (.code ⟨"TileBins", "layOut", "(IIII)V"⟩ prog_1_method_11_code 5 (Option.none : Option ClassFile.FieldType) : Cond) ∈ gb := gb_of (List.mem_of_getElem? (i := 44) (by decide +kernel)) (by decide +kernel)
theorem kw_45 : (.methodLink "TileBins" 56 ⟨"TileBins", "tilesAcross", "(II)I"⟩ : Cond) ∈ gb := gb_of (List.mem_of_getElem? (i := 45) (by decide +kernel)) (by decide +kernel)
theorem kw_47 : (.instanceMethod ⟨"TileBins", "tilesAcross", "(II)I"⟩ : Cond) ∈ gb := gb_of (List.mem_of_getElem? (i := 47) (by decide +kernel)) (by decide +kernel)
theorem kw_48 : (.code ⟨"TileBins", "tilesAcross", "(II)I"⟩ prog_1_method_14_code 3 (Option.some .int) : Cond) ∈ gb := gb_of (List.mem_of_getElem? (i := 48) (by decide +kernel)) (by decide +kernel)
theorem kw_49 : (.methodLink "TileBins" 76 ⟨"TileBins", "takeAllOut", "()V"⟩ : Cond) ∈ gb := gb_of (List.mem_of_getElem? (i := 49) (by decide +kernel)) (by decide +kernel)
theorem kw_51 : (.instanceMethod ⟨"TileBins", "takeAllOut", "()V"⟩ : Cond) ∈ gb := gb_of (List.mem_of_getElem? (i := 51) (by decide +kernel)) (by decide +kernel)
theorem kw_52 : (.code ⟨"TileBins", "takeAllOut", "()V"⟩ prog_1_method_12_code 1 (Option.none : Option ClassFile.FieldType) : Cond) ∈ gb := gb_of (List.mem_of_getElem? (i := 52) (by decide +kernel)) (by decide +kernel)
theorem kw_53 : (.fieldLink "TileBins" 46 "TileBins" "wide" "I" : Cond) ∈ gb := gb_of (List.mem_of_getElem? (i := 53) (by decide +kernel)) (by decide +kernel)
theorem kw_54 : (.fieldLink "TileBins" 53 "TileBins" "high" "I" : Cond) ∈ gb := gb_of (List.mem_of_getElem? (i := 54) (by decide +kernel)) (by decide +kernel)
theorem kw_55 : (.fieldLink "TileBins" 119 "TileBins" "shift" "I" : Cond) ∈ gb := gb_of (List.mem_of_getElem? (i := 55) (by decide +kernel)) (by decide +kernel)
theorem kw_56 : (.fieldLink "TileBins" 122 "TileBins" "columns" "I" : Cond) ∈ gb := gb_of (List.mem_of_getElem? (i := 56) (by decide +kernel)) (by decide +kernel)
theorem kw_57 : (.fieldLink "TileBins" 127 "TileBins" "lines" "I" : Cond) ∈ gb := gb_of (List.mem_of_getElem? (i := 57) (by decide +kernel)) (by decide +kernel)
theorem kw_58 : (.fieldLink "TileBins" 62 "TileBins" "cells" "I" : Cond) ∈ gb := gb_of (List.mem_of_getElem? (i := 58) (by decide +kernel)) (by decide +kernel)
theorem kw_59 : (.fieldLink "TileBins" 9 "TileBins" "parts" "[I" : Cond) ∈ gb := gb_of (List.mem_of_getElem? (i := 59) (by decide +kernel)) (by decide +kernel)
theorem kw_60 : (.fieldLink "TileBins" 59 "TileBins" "items" "I" : Cond) ∈ gb := gb_of (List.mem_of_getElem? (i := 60) (by decide +kernel)) (by decide +kernel)
theorem kw_61 : (.fieldLink "TileBins" 65 "TileBins" "taken" "I" : Cond) ∈ gb := gb_of (List.mem_of_getElem? (i := 61) (by decide +kernel)) (by decide +kernel)
theorem kw_62 : (.fieldLink "TileBins" 85 "TileBins" "opened" "I" : Cond) ∈ gb := gb_of (List.mem_of_getElem? (i := 62) (by decide +kernel)) (by decide +kernel)
theorem kw_63 : (.fieldLink "TileBins" 88 "TileBins" "ahead" "I" : Cond) ∈ gb := gb_of (List.mem_of_getElem? (i := 63) (by decide +kernel)) (by decide +kernel)
theorem kw_87 : (.arrayClass .int : Cond) ∈ gb := gb_of (List.mem_of_getElem? (i := 87) (by decide +kernel)) (by decide +kernel)
theorem kw_88 : (.methodLink "TileBinsLaw" 61 ⟨"TileBins", "empty", "()V"⟩ : Cond) ∈ gb := gb_of (List.mem_of_getElem? (i := 88) (by decide +kernel)) (by decide +kernel)
theorem kw_89 : (.instanceMethod ⟨"TileBins", "empty", "()V"⟩ : Cond) ∈ gb := gb_of (List.mem_of_getElem? (i := 89) (by decide +kernel)) (by decide +kernel)
theorem kw_90 : (.selects "TileBins" ⟨"TileBins", "empty", "()V"⟩ ⟨"TileBins", "empty", "()V"⟩ : Cond) ∈ gb := gb_of (List.mem_of_getElem? (i := 90) (by decide +kernel)) (by decide +kernel)
theorem kw_91 : (.code ⟨"TileBins", "empty", "()V"⟩ prog_1_method_4_code 1 (Option.none : Option ClassFile.FieldType) : Cond) ∈ gb := gb_of (List.mem_of_getElem? (i := 91) (by decide +kernel)) (by decide +kernel)
theorem kw_92 : (.methodLink "TileBinsLaw" 48 ⟨"TileBinsLaw", "field", "(LTileBins;IIII[J)I"⟩ : Cond) ∈ gb := gb_of (List.mem_of_getElem? (i := 92) (by decide +kernel)) (by decide +kernel)
theorem kw_93 : (.static ⟨"TileBinsLaw", "field", "(LTileBins;IIII[J)I"⟩ : Cond) ∈ gb := gb_of (List.mem_of_getElem? (i := 93) (by decide +kernel)) (by decide +kernel)
theorem kw_94 : (.codeWith ⟨"TileBinsLaw", "field", "(LTileBins;IIII[J)I"⟩ method_3_code 7 (Option.some .int) [(0, 14, 17, 13)] : Cond) ∈ gb := gb_of (List.mem_of_getElem? (i := 94) (by decide +kernel)) (by decide +kernel)
theorem kw_95 : (.classLink "TileBinsLaw" 13 "java/lang/IllegalArgumentException" : Cond) ∈ gb := gb_of (List.mem_of_getElem? (i := 95) (by decide +kernel)) (by decide +kernel)
theorem kw_96 : (.methodLink "TileBinsLaw" 7 ⟨"TileBins", "field", "(IIII)I"⟩ : Cond) ∈ gb := gb_of (List.mem_of_getElem? (i := 96) (by decide +kernel)) (by decide +kernel)
theorem kw_97 : (.instanceMethod ⟨"TileBins", "field", "(IIII)I"⟩ : Cond) ∈ gb := gb_of (List.mem_of_getElem? (i := 97) (by decide +kernel)) (by decide +kernel)
theorem kw_98 : (.selects "TileBins" ⟨"TileBins", "field", "(IIII)I"⟩ ⟨"TileBins", "field", "(IIII)I"⟩ : Cond) ∈ gb := gb_of (List.mem_of_getElem? (i := 98) (by decide +kernel)) (by decide +kernel)
theorem kw_99 : (.code ⟨"TileBins", "field", "(IIII)I"⟩ prog_1_method_2_code 6 (Option.some .int) : Cond) ∈ gb := gb_of (List.mem_of_getElem? (i := 99) (by decide +kernel)) (by decide +kernel)
theorem kw_100 : (.methodLink "TileBins" 17 ⟨"TileBins", "isWithin", "(III)Z"⟩ : Cond) ∈ gb := gb_of (List.mem_of_getElem? (i := 100) (by decide +kernel)) (by decide +kernel)
theorem kw_101 : (.static ⟨"TileBins", "isWithin", "(III)Z"⟩ : Cond) ∈ gb := gb_of (List.mem_of_getElem? (i := 101) (by decide +kernel)) (by decide +kernel)
theorem kw_102 : (.code ⟨"TileBins", "isWithin", "(III)Z"⟩ prog_1_method_23_code 3 (Option.some .boolean) : Cond) ∈ gb := gb_of (List.mem_of_getElem? (i := 102) (by decide +kernel)) (by decide +kernel)
theorem kw_103 : (.classLink "TileBins" 21 "java/lang/IllegalArgumentException" : Cond) ∈ gb := gb_of (List.mem_of_getElem? (i := 103) (by decide +kernel)) (by decide +kernel)
theorem kw_104 : (.instantiable "java/lang/IllegalArgumentException" 6 : Cond) ∈ gb := gb_of (List.mem_of_getElem? (i := 104) (by decide +kernel)) (by decide +kernel)
theorem kw_112 : (.selects "java/lang/IllegalArgumentException" ⟨"java/lang/Throwable", "fillInStackTrace", "(I)Ljava/lang/Throwable;"⟩ ⟨"java/lang/Throwable", "fillInStackTrace", "(I)Ljava/lang/Throwable;"⟩ : Cond) ∈ gb := gb_of (List.mem_of_getElem? (i := 112) (by decide +kernel)) (by decide +kernel)
theorem kw_113 : (.selects "java/lang/IllegalArgumentException" ⟨"java/lang/Throwable", "fillInStackTrace", "()Ljava/lang/Throwable;"⟩ ⟨"java/lang/Throwable", "fillInStackTrace", "()Ljava/lang/Throwable;"⟩ : Cond) ∈ gb := gb_of (List.mem_of_getElem? (i := 113) (by decide +kernel)) (by decide +kernel)
theorem kw_124 : (.fieldLink "java/lang/Throwable" 198 "java/lang/Throwable" "backtrace" "Ljava/lang/Object;" : Cond) ∈ gb := gb_of (List.mem_of_getElem? (i := 124) (by decide +kernel)) (by decide +kernel)
theorem kw_126 : (.instanceMethod ⟨"java/lang/Throwable", "<init>", "()V"⟩ : Cond) ∈ gb := gb_of (List.mem_of_getElem? (i := 126) (by decide +kernel)) (by decide +kernel)
theorem kw_127 : (.code ⟨"java/lang/Throwable", "<init>", "()V"⟩ prog_13_method_1_code 1 (Option.none : Option ClassFile.FieldType) : Cond) ∈ gb := gb_of (List.mem_of_getElem? (i := 127) (by decide +kernel)) (by decide +kernel)
theorem kw_128 : (.methodLink "java/lang/Throwable" 1 ⟨"java/lang/Object", "<init>", "()V"⟩ : Cond) ∈ gb := gb_of (List.mem_of_getElem? (i := 128) (by decide +kernel)) (by decide +kernel)
theorem kw_129 : (.fieldLink "java/lang/Throwable" 13 "java/lang/Throwable" "UNASSIGNED_STACK" "[Ljava/lang/StackTraceElement;" : Cond) ∈ gb := gb_of (List.mem_of_getElem? (i := 129) (by decide +kernel)) (by decide +kernel)
theorem kw_131 : (.fieldLink "java/lang/Throwable" 20 "java/lang/Throwable" "SUPPRESSED_SENTINEL" "Ljava/util/List;" : Cond) ∈ gb := gb_of (List.mem_of_getElem? (i := 131) (by decide +kernel)) (by decide +kernel)
theorem kw_133 : (.methodLink "java/lang/Throwable" 27 ⟨"java/lang/Throwable", "fillInStackTrace", "()Ljava/lang/Throwable;"⟩ : Cond) ∈ gb := gb_of (List.mem_of_getElem? (i := 133) (by decide +kernel)) (by decide +kernel)
theorem kw_134 : (.instanceMethod ⟨"java/lang/Throwable", "fillInStackTrace", "()Ljava/lang/Throwable;"⟩ : Cond) ∈ gb := gb_of (List.mem_of_getElem? (i := 134) (by decide +kernel)) (by decide +kernel)
theorem kw_135 : (.sameMethod "java/lang/Throwable" "java/lang/Throwable" "fillInStackTrace" "()Ljava/lang/Throwable;" : Cond) ∈ gb := gb_of (List.mem_of_getElem? (i := 135) (by decide +kernel)) (by decide +kernel)
theorem kw_136 : (.selects "java/lang/IllegalStateException" ⟨"java/lang/Throwable", "fillInStackTrace", "()Ljava/lang/Throwable;"⟩ ⟨"java/lang/Throwable", "fillInStackTrace", "()Ljava/lang/Throwable;"⟩ : Cond) ∈ gb := gb_of (List.mem_of_getElem? (i := 136) (by decide +kernel)) (by decide +kernel)
theorem kw_137 : (.selects "java/lang/IndexOutOfBoundsException" ⟨"java/lang/Throwable", "fillInStackTrace", "()Ljava/lang/Throwable;"⟩ ⟨"java/lang/Throwable", "fillInStackTrace", "()Ljava/lang/Throwable;"⟩ : Cond) ∈ gb := gb_of (List.mem_of_getElem? (i := 137) (by decide +kernel)) (by decide +kernel)
theorem kw_139 : (.methodLink "java/lang/Throwable" 202 ⟨"java/lang/Throwable", "fillInStackTrace", "(I)Ljava/lang/Throwable;"⟩ : Cond) ∈ gb := gb_of (List.mem_of_getElem? (i := 139) (by decide +kernel)) (by decide +kernel)
theorem kw_141 : (.instanceMethod ⟨"java/lang/Throwable", "fillInStackTrace", "(I)Ljava/lang/Throwable;"⟩ : Cond) ∈ gb := gb_of (List.mem_of_getElem? (i := 141) (by decide +kernel)) (by decide +kernel)
theorem kw_142 : (.instantiable "java/lang/Throwable" 6 : Cond) ∈ gb := gb_of (List.mem_of_getElem? (i := 142) (by decide +kernel)) (by decide +kernel)
theorem kw_143 : (.native ⟨"java/lang/Throwable", "fillInStackTrace", "(I)Ljava/lang/Throwable;"⟩ : Cond) ∈ gb := gb_of (List.mem_of_getElem? (i := 143) (by decide +kernel)) (by decide +kernel)
theorem kw_145 : (.methodLink "TileBins" 25 ⟨"java/lang/IllegalArgumentException", "<init>", "(Ljava/lang/String;)V"⟩ : Cond) ∈ gb := gb_of (List.mem_of_getElem? (i := 145) (by decide +kernel)) (by decide +kernel)
theorem kw_146 : (.instanceMethod ⟨"java/lang/IllegalArgumentException", "<init>", "(Ljava/lang/String;)V"⟩ : Cond) ∈ gb := gb_of (List.mem_of_getElem? (i := 146) (by decide +kernel)) (by decide +kernel)
theorem kw_147 : (.code ⟨"java/lang/IllegalArgumentException", "<init>", "(Ljava/lang/String;)V"⟩ prog_6_method_2_code 2 (Option.none : Option ClassFile.FieldType) : Cond) ∈ gb := gb_of (List.mem_of_getElem? (i := 147) (by decide +kernel)) (by decide +kernel)
theorem kw_148 : (.methodLink "java/lang/IllegalArgumentException" 7 ⟨"java/lang/RuntimeException", "<init>", "(Ljava/lang/String;)V"⟩ : Cond) ∈ gb := gb_of (List.mem_of_getElem? (i := 148) (by decide +kernel)) (by decide +kernel)
theorem kw_149 : (.instanceMethod ⟨"java/lang/RuntimeException", "<init>", "(Ljava/lang/String;)V"⟩ : Cond) ∈ gb := gb_of (List.mem_of_getElem? (i := 149) (by decide +kernel)) (by decide +kernel)
theorem kw_150 : (.code ⟨"java/lang/RuntimeException", "<init>", "(Ljava/lang/String;)V"⟩ prog_10_method_2_code 2 (Option.none : Option ClassFile.FieldType) : Cond) ∈ gb := gb_of (List.mem_of_getElem? (i := 150) (by decide +kernel)) (by decide +kernel)
theorem kw_151 : (.methodLink "java/lang/RuntimeException" 7 ⟨"java/lang/Exception", "<init>", "(Ljava/lang/String;)V"⟩ : Cond) ∈ gb := gb_of (List.mem_of_getElem? (i := 151) (by decide +kernel)) (by decide +kernel)
theorem kw_152 : (.instanceMethod ⟨"java/lang/Exception", "<init>", "(Ljava/lang/String;)V"⟩ : Cond) ∈ gb := gb_of (List.mem_of_getElem? (i := 152) (by decide +kernel)) (by decide +kernel)
theorem kw_153 : (.code ⟨"java/lang/Exception", "<init>", "(Ljava/lang/String;)V"⟩ prog_5_method_2_code 2 (Option.none : Option ClassFile.FieldType) : Cond) ∈ gb := gb_of (List.mem_of_getElem? (i := 153) (by decide +kernel)) (by decide +kernel)
theorem kw_154 : (.methodLink "java/lang/Exception" 7 ⟨"java/lang/Throwable", "<init>", "(Ljava/lang/String;)V"⟩ : Cond) ∈ gb := gb_of (List.mem_of_getElem? (i := 154) (by decide +kernel)) (by decide +kernel)
theorem kw_155 : (.instanceMethod ⟨"java/lang/Throwable", "<init>", "(Ljava/lang/String;)V"⟩ : Cond) ∈ gb := gb_of (List.mem_of_getElem? (i := 155) (by decide +kernel)) (by decide +kernel)
theorem kw_156 : (.code ⟨"java/lang/Throwable", "<init>", "(Ljava/lang/String;)V"⟩ prog_13_method_2_code 2 (Option.none : Option ClassFile.FieldType) : Cond) ∈ gb := gb_of (List.mem_of_getElem? (i := 156) (by decide +kernel)) (by decide +kernel)
theorem kw_158 : (.fieldLink "java/lang/Throwable" 31 "java/lang/Throwable" "detailMessage" "Ljava/lang/String;" : Cond) ∈ gb := gb_of (List.mem_of_getElem? (i := 158) (by decide +kernel)) (by decide +kernel)
theorem kw_159 : (.fieldLink "java/lang/Throwable" 7 "java/lang/Throwable" "cause" "Ljava/lang/Throwable;" : Cond) ∈ gb := gb_of (List.mem_of_getElem? (i := 159) (by decide +kernel)) (by decide +kernel)
theorem kw_160 : (.fieldLink "java/lang/Throwable" 17 "java/lang/Throwable" "stackTrace" "[Ljava/lang/StackTraceElement;" : Cond) ∈ gb := gb_of (List.mem_of_getElem? (i := 160) (by decide +kernel)) (by decide +kernel)
theorem kw_161 : (.fieldLink "java/lang/Throwable" 24 "java/lang/Throwable" "suppressedExceptions" "Ljava/util/List;" : Cond) ∈ gb := gb_of (List.mem_of_getElem? (i := 161) (by decide +kernel)) (by decide +kernel)
theorem kw_170 : (.arrayClass .byte : Cond) ∈ gb := gb_of (List.mem_of_getElem? (i := 170) (by decide +kernel)) (by decide +kernel)
theorem kw_171 : (.methodLink "TileBins" 28 ⟨"TileBins", "powerOf", "(I)I"⟩ : Cond) ∈ gb := gb_of (List.mem_of_getElem? (i := 171) (by decide +kernel)) (by decide +kernel)
theorem kw_172 : (.static ⟨"TileBins", "powerOf", "(I)I"⟩ : Cond) ∈ gb := gb_of (List.mem_of_getElem? (i := 172) (by decide +kernel)) (by decide +kernel)
theorem kw_173 : (.code ⟨"TileBins", "powerOf", "(I)I"⟩ prog_1_method_24_code 1 (Option.some .int) : Cond) ∈ gb := gb_of (List.mem_of_getElem? (i := 173) (by decide +kernel)) (by decide +kernel)
theorem kw_176 : (.methodLink "TileBins" 36 ⟨"TileBins", "tilesInAll", "()I"⟩ : Cond) ∈ gb := gb_of (List.mem_of_getElem? (i := 176) (by decide +kernel)) (by decide +kernel)
theorem kw_178 : (.instanceMethod ⟨"TileBins", "tilesInAll", "()I"⟩ : Cond) ∈ gb := gb_of (List.mem_of_getElem? (i := 178) (by decide +kernel)) (by decide +kernel)
theorem kw_179 : (.code ⟨"TileBins", "tilesInAll", "()I"⟩ prog_1_method_15_code 1 (Option.some .int) : Cond) ∈ gb := gb_of (List.mem_of_getElem? (i := 179) (by decide +kernel)) (by decide +kernel)
theorem kw_180 : (.methodLink "TileBinsLaw" 57 ⟨"TileBinsLaw", "put", "(LTileBins;IIIII[J)I"⟩ : Cond) ∈ gb := gb_of (List.mem_of_getElem? (i := 180) (by decide +kernel)) (by decide +kernel)
theorem kw_181 : (.static ⟨"TileBinsLaw", "put", "(LTileBins;IIIII[J)I"⟩ : Cond) ∈ gb := gb_of (List.mem_of_getElem? (i := 181) (by decide +kernel)) (by decide +kernel)
theorem kw_182 : (.codeWith ⟨"TileBinsLaw", "put", "(LTileBins;IIIII[J)I"⟩ method_4_code 8 (Option.some .int) [(0, 16, 19, 19)] : Cond) ∈ gb := gb_of (List.mem_of_getElem? (i := 182) (by decide +kernel)) (by decide +kernel)
theorem kw_183 : (.classLink "TileBinsLaw" 19 "java/lang/IllegalStateException" : Cond) ∈ gb := gb_of (List.mem_of_getElem? (i := 183) (by decide +kernel)) (by decide +kernel)
theorem kw_184 : (.methodLink "TileBinsLaw" 15 ⟨"TileBins", "put", "(IIIII)I"⟩ : Cond) ∈ gb := gb_of (List.mem_of_getElem? (i := 184) (by decide +kernel)) (by decide +kernel)
theorem kw_185 : (.instanceMethod ⟨"TileBins", "put", "(IIIII)I"⟩ : Cond) ∈ gb := gb_of (List.mem_of_getElem? (i := 185) (by decide +kernel)) (by decide +kernel)
theorem kw_186 : (.selects "TileBins" ⟨"TileBins", "put", "(IIIII)I"⟩ ⟨"TileBins", "put", "(IIIII)I"⟩ : Cond) ∈ gb := gb_of (List.mem_of_getElem? (i := 186) (by decide +kernel)) (by decide +kernel)
theorem kw_187 : (.code ⟨"TileBins", "put", "(IIIII)I"⟩ prog_1_method_3_code 13 (Option.some .int) : Cond) ∈ gb := gb_of (List.mem_of_getElem? (i := 187) (by decide +kernel)) (by decide +kernel)
theorem kw_188 : (.methodLink "TileBins" 40 ⟨"java/lang/Math", "max", "(II)I"⟩ : Cond) ∈ gb := gb_of (List.mem_of_getElem? (i := 188) (by decide +kernel)) (by decide +kernel)
theorem kw_189 : (.static ⟨"java/lang/Math", "max", "(II)I"⟩ : Cond) ∈ gb := gb_of (List.mem_of_getElem? (i := 189) (by decide +kernel)) (by decide +kernel)
theorem kw_190 : (.code ⟨"java/lang/Math", "max", "(II)I"⟩ prog_9_method_65_code 2 (Option.some .int) : Cond) ∈ gb := gb_of (List.mem_of_getElem? (i := 190) (by decide +kernel)) (by decide +kernel)
theorem kw_191 : (.methodLink "TileBins" 50 ⟨"java/lang/Math", "min", "(II)I"⟩ : Cond) ∈ gb := gb_of (List.mem_of_getElem? (i := 191) (by decide +kernel)) (by decide +kernel)
theorem kw_192 : (.static ⟨"java/lang/Math", "min", "(II)I"⟩ : Cond) ∈ gb := gb_of (List.mem_of_getElem? (i := 192) (by decide +kernel)) (by decide +kernel)
theorem kw_193 : (.code ⟨"java/lang/Math", "min", "(II)I"⟩ prog_9_method_69_code 2 (Option.some .int) : Cond) ∈ gb := gb_of (List.mem_of_getElem? (i := 193) (by decide +kernel)) (by decide +kernel)
theorem kw_194 : (.classLink "TileBins" 68 "java/lang/IllegalStateException" : Cond) ∈ gb := gb_of (List.mem_of_getElem? (i := 194) (by decide +kernel)) (by decide +kernel)
theorem kw_195 : (.instantiable "java/lang/IllegalStateException" 6 : Cond) ∈ gb := gb_of (List.mem_of_getElem? (i := 195) (by decide +kernel)) (by decide +kernel)
theorem kw_197 : (.selects "java/lang/IllegalStateException" ⟨"java/lang/Throwable", "fillInStackTrace", "(I)Ljava/lang/Throwable;"⟩ ⟨"java/lang/Throwable", "fillInStackTrace", "(I)Ljava/lang/Throwable;"⟩ : Cond) ∈ gb := gb_of (List.mem_of_getElem? (i := 197) (by decide +kernel)) (by decide +kernel)
theorem kw_204 : (.methodLink "TileBins" 72 ⟨"java/lang/IllegalStateException", "<init>", "(Ljava/lang/String;)V"⟩ : Cond) ∈ gb := gb_of (List.mem_of_getElem? (i := 204) (by decide +kernel)) (by decide +kernel)
theorem kw_205 : (.instanceMethod ⟨"java/lang/IllegalStateException", "<init>", "(Ljava/lang/String;)V"⟩ : Cond) ∈ gb := gb_of (List.mem_of_getElem? (i := 205) (by decide +kernel)) (by decide +kernel)
theorem kw_206 : (.code ⟨"java/lang/IllegalStateException", "<init>", "(Ljava/lang/String;)V"⟩ prog_7_method_2_code 2 (Option.none : Option ClassFile.FieldType) : Cond) ∈ gb := gb_of (List.mem_of_getElem? (i := 206) (by decide +kernel)) (by decide +kernel)
theorem kw_207 : (.methodLink "java/lang/IllegalStateException" 7 ⟨"java/lang/RuntimeException", "<init>", "(Ljava/lang/String;)V"⟩ : Cond) ∈ gb := gb_of (List.mem_of_getElem? (i := 207) (by decide +kernel)) (by decide +kernel)
theorem kw_210 : (.methodLink "TileBins" 73 ⟨"TileBins", "makeRoom", "()V"⟩ : Cond) ∈ gb := gb_of (List.mem_of_getElem? (i := 210) (by decide +kernel)) (by decide +kernel)
theorem kw_212 : (.instanceMethod ⟨"TileBins", "makeRoom", "()V"⟩ : Cond) ∈ gb := gb_of (List.mem_of_getElem? (i := 212) (by decide +kernel)) (by decide +kernel)
theorem kw_213 : (.code ⟨"TileBins", "makeRoom", "()V"⟩ prog_1_method_13_code 1 (Option.none : Option ClassFile.FieldType) : Cond) ∈ gb := gb_of (List.mem_of_getElem? (i := 213) (by decide +kernel)) (by decide +kernel)
theorem kw_214 : (.methodLink "TileBins" 130 ⟨"java/util/Arrays", "copyOf", "([II)[I"⟩ : Cond) ∈ gb := gb_of (List.mem_of_getElem? (i := 214) (by decide +kernel)) (by decide +kernel)
theorem kw_215 : (.static ⟨"java/util/Arrays", "copyOf", "([II)[I"⟩ : Cond) ∈ gb := gb_of (List.mem_of_getElem? (i := 215) (by decide +kernel)) (by decide +kernel)
theorem kw_216 : (.code ⟨"java/util/Arrays", "copyOf", "([II)[I"⟩ prog_14_method_123_code 3 (Option.some (.array .int)) : Cond) ∈ gb := gb_of (List.mem_of_getElem? (i := 216) (by decide +kernel)) (by decide +kernel)
theorem kw_217 : (.methodLink "java/util/Arrays" 316 ⟨"[I", "clone", "()Ljava/lang/Object;"⟩ : Cond) ∈ gb := gb_of (List.mem_of_getElem? (i := 217) (by decide +kernel)) (by decide +kernel)
theorem kw_218 : (.sameMethod "[I" "java/lang/Object" "clone" "()Ljava/lang/Object;" : Cond) ∈ gb := gb_of (List.mem_of_getElem? (i := 218) (by decide +kernel)) (by decide +kernel)
theorem kw_219 : (.native ⟨"java/lang/Object", "clone", "()Ljava/lang/Object;"⟩ : Cond) ∈ gb := gb_of (List.mem_of_getElem? (i := 219) (by decide +kernel)) (by decide +kernel)
theorem kw_220 : (.instanceMethod ⟨"java/lang/Object", "clone", "()Ljava/lang/Object;"⟩ : Cond) ∈ gb := gb_of (List.mem_of_getElem? (i := 220) (by decide +kernel)) (by decide +kernel)
theorem kw_221 : (.selects "[I" ⟨"[I", "clone", "()Ljava/lang/Object;"⟩ ⟨"java/lang/Object", "clone", "()Ljava/lang/Object;"⟩ : Cond) ∈ gb := gb_of (List.mem_of_getElem? (i := 221) (by decide +kernel)) (by decide +kernel)
theorem kw_223 : (.classLink "java/util/Arrays" 317 "[I" : Cond) ∈ gb := gb_of (List.mem_of_getElem? (i := 223) (by decide +kernel)) (by decide +kernel)
theorem kw_224 : (.methodLink "java/util/Arrays" 304 ⟨"java/lang/Math", "min", "(II)I"⟩ : Cond) ∈ gb := gb_of (List.mem_of_getElem? (i := 224) (by decide +kernel)) (by decide +kernel)
theorem kw_225 : (.methodLink "java/util/Arrays" 150 ⟨"java/lang/System", "arraycopy", "(Ljava/lang/Object;ILjava/lang/Object;II)V"⟩ : Cond) ∈ gb := gb_of (List.mem_of_getElem? (i := 225) (by decide +kernel)) (by decide +kernel)
theorem kw_226 : (.static ⟨"java/lang/System", "arraycopy", "(Ljava/lang/Object;ILjava/lang/Object;II)V"⟩ : Cond) ∈ gb := gb_of (List.mem_of_getElem? (i := 226) (by decide +kernel)) (by decide +kernel)
theorem kw_227 : (.native ⟨"java/lang/System", "arraycopy", "(Ljava/lang/Object;ILjava/lang/Object;II)V"⟩ : Cond) ∈ gb := gb_of (List.mem_of_getElem? (i := 227) (by decide +kernel)) (by decide +kernel)
theorem kw_228 : (.methodLink "TileBinsLaw" 65 ⟨"TileBinsLaw", "open", "(LTileBins;I[J)I"⟩ : Cond) ∈ gb := gb_of (List.mem_of_getElem? (i := 228) (by decide +kernel)) (by decide +kernel)
theorem kw_229 : (.static ⟨"TileBinsLaw", "open", "(LTileBins;I[J)I"⟩ : Cond) ∈ gb := gb_of (List.mem_of_getElem? (i := 229) (by decide +kernel)) (by decide +kernel)
theorem kw_230 : (.codeWith ⟨"TileBinsLaw", "open", "(LTileBins;I[J)I"⟩ method_5_code 4 (Option.some .int) [(0, 9, 12, 13)] : Cond) ∈ gb := gb_of (List.mem_of_getElem? (i := 230) (by decide +kernel)) (by decide +kernel)
theorem kw_231 : (.methodLink "TileBinsLaw" 21 ⟨"TileBins", "open", "(I)I"⟩ : Cond) ∈ gb := gb_of (List.mem_of_getElem? (i := 231) (by decide +kernel)) (by decide +kernel)
theorem kw_232 : (.instanceMethod ⟨"TileBins", "open", "(I)I"⟩ : Cond) ∈ gb := gb_of (List.mem_of_getElem? (i := 232) (by decide +kernel)) (by decide +kernel)
theorem kw_233 : (.selects "TileBins" ⟨"TileBins", "open", "(I)I"⟩ ⟨"TileBins", "open", "(I)I"⟩ : Cond) ∈ gb := gb_of (List.mem_of_getElem? (i := 233) (by decide +kernel)) (by decide +kernel)
theorem kw_234 : (.code ⟨"TileBins", "open", "(I)I"⟩ prog_1_method_5_code 2 (Option.some .int) : Cond) ∈ gb := gb_of (List.mem_of_getElem? (i := 234) (by decide +kernel)) (by decide +kernel)
theorem kw_235 : (.methodLink "TileBins" 79 ⟨"TileBins", "isTile", "(I)Z"⟩ : Cond) ∈ gb := gb_of (List.mem_of_getElem? (i := 235) (by decide +kernel)) (by decide +kernel)
theorem kw_237 : (.instanceMethod ⟨"TileBins", "isTile", "(I)Z"⟩ : Cond) ∈ gb := gb_of (List.mem_of_getElem? (i := 237) (by decide +kernel)) (by decide +kernel)
theorem kw_238 : (.code ⟨"TileBins", "isTile", "(I)Z"⟩ prog_1_method_16_code 2 (Option.some .boolean) : Cond) ∈ gb := gb_of (List.mem_of_getElem? (i := 238) (by decide +kernel)) (by decide +kernel)
theorem kw_240 : (.methodLink "TileBins" 91 ⟨"TileBins", "itemsTouching", "(I)I"⟩ : Cond) ∈ gb := gb_of (List.mem_of_getElem? (i := 240) (by decide +kernel)) (by decide +kernel)
theorem kw_242 : (.instanceMethod ⟨"TileBins", "itemsTouching", "(I)I"⟩ : Cond) ∈ gb := gb_of (List.mem_of_getElem? (i := 242) (by decide +kernel)) (by decide +kernel)
theorem kw_243 : (.code ⟨"TileBins", "itemsTouching", "(I)I"⟩ prog_1_method_20_code 6 (Option.some .int) : Cond) ∈ gb := gb_of (List.mem_of_getElem? (i := 243) (by decide +kernel)) (by decide +kernel)
theorem kw_244 : (.methodLink "TileBins" 106 ⟨"TileBins", "leftOf", "(I)I"⟩ : Cond) ∈ gb := gb_of (List.mem_of_getElem? (i := 244) (by decide +kernel)) (by decide +kernel)
theorem kw_246 : (.instanceMethod ⟨"TileBins", "leftOf", "(I)I"⟩ : Cond) ∈ gb := gb_of (List.mem_of_getElem? (i := 246) (by decide +kernel)) (by decide +kernel)
theorem kw_247 : (.code ⟨"TileBins", "leftOf", "(I)I"⟩ prog_1_method_18_code 2 (Option.some .int) : Cond) ∈ gb := gb_of (List.mem_of_getElem? (i := 247) (by decide +kernel)) (by decide +kernel)
theorem kw_248 : (.methodLink "TileBins" 109 ⟨"TileBins", "topOf", "(I)I"⟩ : Cond) ∈ gb := gb_of (List.mem_of_getElem? (i := 248) (by decide +kernel)) (by decide +kernel)
theorem kw_250 : (.instanceMethod ⟨"TileBins", "topOf", "(I)I"⟩ : Cond) ∈ gb := gb_of (List.mem_of_getElem? (i := 250) (by decide +kernel)) (by decide +kernel)
theorem kw_251 : (.code ⟨"TileBins", "topOf", "(I)I"⟩ prog_1_method_19_code 2 (Option.some .int) : Cond) ∈ gb := gb_of (List.mem_of_getElem? (i := 251) (by decide +kernel)) (by decide +kernel)
theorem kw_252 : (.methodLink "TileBins" 136 ⟨"TileBins", "touches", "(III)Z"⟩ : Cond) ∈ gb := gb_of (List.mem_of_getElem? (i := 252) (by decide +kernel)) (by decide +kernel)
theorem kw_254 : (.instanceMethod ⟨"TileBins", "touches", "(III)Z"⟩ : Cond) ∈ gb := gb_of (List.mem_of_getElem? (i := 254) (by decide +kernel)) (by decide +kernel)
theorem kw_255 : (.code ⟨"TileBins", "touches", "(III)Z"⟩ prog_1_method_22_code 5 (Option.some .boolean) : Cond) ∈ gb := gb_of (List.mem_of_getElem? (i := 255) (by decide +kernel)) (by decide +kernel)
theorem kw_256 : (.methodLink "TileBins" 112 ⟨"TileBins", "sideLength", "()I"⟩ : Cond) ∈ gb := gb_of (List.mem_of_getElem? (i := 256) (by decide +kernel)) (by decide +kernel)
theorem kw_258 : (.instanceMethod ⟨"TileBins", "sideLength", "()I"⟩ : Cond) ∈ gb := gb_of (List.mem_of_getElem? (i := 258) (by decide +kernel)) (by decide +kernel)
theorem kw_259 : (.code ⟨"TileBins", "sideLength", "()I"⟩ prog_1_method_17_code 1 (Option.some .int) : Cond) ∈ gb := gb_of (List.mem_of_getElem? (i := 259) (by decide +kernel)) (by decide +kernel)
theorem kw_260 : (.methodLink "TileBinsLaw" 69 ⟨"TileBinsLaw", "next", "(LTileBins;[J)I"⟩ : Cond) ∈ gb := gb_of (List.mem_of_getElem? (i := 260) (by decide +kernel)) (by decide +kernel)
theorem kw_261 : (.static ⟨"TileBinsLaw", "next", "(LTileBins;[J)I"⟩ : Cond) ∈ gb := gb_of (List.mem_of_getElem? (i := 261) (by decide +kernel)) (by decide +kernel)
theorem kw_262 : (.codeWith ⟨"TileBinsLaw", "next", "(LTileBins;[J)I"⟩ method_6_code 3 (Option.some .int) [(0, 8, 11, 19)] : Cond) ∈ gb := gb_of (List.mem_of_getElem? (i := 262) (by decide +kernel)) (by decide +kernel)
theorem kw_263 : (.methodLink "TileBinsLaw" 25 ⟨"TileBins", "next", "()I"⟩ : Cond) ∈ gb := gb_of (List.mem_of_getElem? (i := 263) (by decide +kernel)) (by decide +kernel)
theorem kw_264 : (.instanceMethod ⟨"TileBins", "next", "()I"⟩ : Cond) ∈ gb := gb_of (List.mem_of_getElem? (i := 264) (by decide +kernel)) (by decide +kernel)
theorem kw_265 : (.selects "TileBins" ⟨"TileBins", "next", "()I"⟩ ⟨"TileBins", "next", "()I"⟩ : Cond) ∈ gb := gb_of (List.mem_of_getElem? (i := 265) (by decide +kernel)) (by decide +kernel)
theorem kw_266 : (.code ⟨"TileBins", "next", "()I"⟩ prog_1_method_6_code 2 (Option.some .int) : Cond) ∈ gb := gb_of (List.mem_of_getElem? (i := 266) (by decide +kernel)) (by decide +kernel)
theorem kw_268 : (.methodLink "TileBins" 96 ⟨"TileBins", "firstTouching", "(II)I"⟩ : Cond) ∈ gb := gb_of (List.mem_of_getElem? (i := 268) (by decide +kernel)) (by decide +kernel)
theorem kw_270 : (.instanceMethod ⟨"TileBins", "firstTouching", "(II)I"⟩ : Cond) ∈ gb := gb_of (List.mem_of_getElem? (i := 270) (by decide +kernel)) (by decide +kernel)
theorem kw_271 : (.code ⟨"TileBins", "firstTouching", "(II)I"⟩ prog_1_method_21_code 6 (Option.some .int) : Cond) ∈ gb := gb_of (List.mem_of_getElem? (i := 271) (by decide +kernel)) (by decide +kernel)
theorem kw_272 : (.methodLink "TileBinsLaw" 73 ⟨"TileBinsLaw", "item", "(LTileBins;II[J)I"⟩ : Cond) ∈ gb := gb_of (List.mem_of_getElem? (i := 272) (by decide +kernel)) (by decide +kernel)
theorem kw_273 : (.static ⟨"TileBinsLaw", "item", "(LTileBins;II[J)I"⟩ : Cond) ∈ gb := gb_of (List.mem_of_getElem? (i := 273) (by decide +kernel)) (by decide +kernel)
theorem kw_274 : (.codeWith ⟨"TileBinsLaw", "item", "(LTileBins;II[J)I"⟩ method_7_code 5 (Option.some .int) [(0, 10, 13, 33), (0, 10, 17, 13)] : Cond) ∈ gb := gb_of (List.mem_of_getElem? (i := 274) (by decide +kernel)) (by decide +kernel)
theorem kw_275 : (.classLink "TileBinsLaw" 33 "java/lang/IndexOutOfBoundsException" : Cond) ∈ gb := gb_of (List.mem_of_getElem? (i := 275) (by decide +kernel)) (by decide +kernel)
theorem kw_276 : (.methodLink "TileBinsLaw" 29 ⟨"TileBins", "item", "(II)I"⟩ : Cond) ∈ gb := gb_of (List.mem_of_getElem? (i := 276) (by decide +kernel)) (by decide +kernel)
theorem kw_277 : (.instanceMethod ⟨"TileBins", "item", "(II)I"⟩ : Cond) ∈ gb := gb_of (List.mem_of_getElem? (i := 277) (by decide +kernel)) (by decide +kernel)
theorem kw_278 : (.selects "TileBins" ⟨"TileBins", "item", "(II)I"⟩ ⟨"TileBins", "item", "(II)I"⟩ : Cond) ∈ gb := gb_of (List.mem_of_getElem? (i := 278) (by decide +kernel)) (by decide +kernel)
theorem kw_279 : (.code ⟨"TileBins", "item", "(II)I"⟩ prog_1_method_7_code 3 (Option.some .int) : Cond) ∈ gb := gb_of (List.mem_of_getElem? (i := 279) (by decide +kernel)) (by decide +kernel)
theorem kw_280 : (.classLink "TileBins" 99 "java/lang/IndexOutOfBoundsException" : Cond) ∈ gb := gb_of (List.mem_of_getElem? (i := 280) (by decide +kernel)) (by decide +kernel)
theorem kw_281 : (.instantiable "java/lang/IndexOutOfBoundsException" 6 : Cond) ∈ gb := gb_of (List.mem_of_getElem? (i := 281) (by decide +kernel)) (by decide +kernel)
theorem kw_283 : (.selects "java/lang/IndexOutOfBoundsException" ⟨"java/lang/Throwable", "fillInStackTrace", "(I)Ljava/lang/Throwable;"⟩ ⟨"java/lang/Throwable", "fillInStackTrace", "(I)Ljava/lang/Throwable;"⟩ : Cond) ∈ gb := gb_of (List.mem_of_getElem? (i := 283) (by decide +kernel)) (by decide +kernel)
theorem kw_290 : (.methodLink "TileBins" 103 ⟨"java/lang/IndexOutOfBoundsException", "<init>", "(Ljava/lang/String;)V"⟩ : Cond) ∈ gb := gb_of (List.mem_of_getElem? (i := 290) (by decide +kernel)) (by decide +kernel)
theorem kw_291 : (.instanceMethod ⟨"java/lang/IndexOutOfBoundsException", "<init>", "(Ljava/lang/String;)V"⟩ : Cond) ∈ gb := gb_of (List.mem_of_getElem? (i := 291) (by decide +kernel)) (by decide +kernel)
theorem kw_292 : (.code ⟨"java/lang/IndexOutOfBoundsException", "<init>", "(Ljava/lang/String;)V"⟩ prog_8_method_2_code 2 (Option.none : Option ClassFile.FieldType) : Cond) ∈ gb := gb_of (List.mem_of_getElem? (i := 292) (by decide +kernel)) (by decide +kernel)
theorem kw_293 : (.methodLink "java/lang/IndexOutOfBoundsException" 7 ⟨"java/lang/RuntimeException", "<init>", "(Ljava/lang/String;)V"⟩ : Cond) ∈ gb := gb_of (List.mem_of_getElem? (i := 293) (by decide +kernel)) (by decide +kernel)
theorem kw_297 : (.methodLink "TileBinsLaw" 77 ⟨"TileBinsLaw", "tile", "(LTileBins;II[J)I"⟩ : Cond) ∈ gb := gb_of (List.mem_of_getElem? (i := 297) (by decide +kernel)) (by decide +kernel)
theorem kw_298 : (.static ⟨"TileBinsLaw", "tile", "(LTileBins;II[J)I"⟩ : Cond) ∈ gb := gb_of (List.mem_of_getElem? (i := 298) (by decide +kernel)) (by decide +kernel)
theorem kw_299 : (.codeWith ⟨"TileBinsLaw", "tile", "(LTileBins;II[J)I"⟩ method_8_code 5 (Option.some .int) [(0, 10, 13, 13)] : Cond) ∈ gb := gb_of (List.mem_of_getElem? (i := 299) (by decide +kernel)) (by decide +kernel)
theorem kw_300 : (.methodLink "TileBinsLaw" 35 ⟨"TileBins", "tile", "(II)I"⟩ : Cond) ∈ gb := gb_of (List.mem_of_getElem? (i := 300) (by decide +kernel)) (by decide +kernel)
theorem kw_301 : (.instanceMethod ⟨"TileBins", "tile", "(II)I"⟩ : Cond) ∈ gb := gb_of (List.mem_of_getElem? (i := 301) (by decide +kernel)) (by decide +kernel)
theorem kw_302 : (.selects "TileBins" ⟨"TileBins", "tile", "(II)I"⟩ ⟨"TileBins", "tile", "(II)I"⟩ : Cond) ∈ gb := gb_of (List.mem_of_getElem? (i := 302) (by decide +kernel)) (by decide +kernel)
theorem kw_303 : (.code ⟨"TileBins", "tile", "(II)I"⟩ prog_1_method_8_code 3 (Option.some .int) : Cond) ∈ gb := gb_of (List.mem_of_getElem? (i := 303) (by decide +kernel)) (by decide +kernel)
theorem kw_305 : (.methodLink "TileBinsLaw" 80 ⟨"TileBinsLaw", "tileOf", "(LTileBins;II[J)I"⟩ : Cond) ∈ gb := gb_of (List.mem_of_getElem? (i := 305) (by decide +kernel)) (by decide +kernel)
theorem kw_306 : (.static ⟨"TileBinsLaw", "tileOf", "(LTileBins;II[J)I"⟩ : Cond) ∈ gb := gb_of (List.mem_of_getElem? (i := 306) (by decide +kernel)) (by decide +kernel)
theorem kw_307 : (.codeWith ⟨"TileBinsLaw", "tileOf", "(LTileBins;II[J)I"⟩ method_9_code 5 (Option.some .int) [(0, 10, 13, 13)] : Cond) ∈ gb := gb_of (List.mem_of_getElem? (i := 307) (by decide +kernel)) (by decide +kernel)
theorem kw_308 : (.methodLink "TileBinsLaw" 38 ⟨"TileBins", "tileOf", "(II)I"⟩ : Cond) ∈ gb := gb_of (List.mem_of_getElem? (i := 308) (by decide +kernel)) (by decide +kernel)
theorem kw_309 : (.instanceMethod ⟨"TileBins", "tileOf", "(II)I"⟩ : Cond) ∈ gb := gb_of (List.mem_of_getElem? (i := 309) (by decide +kernel)) (by decide +kernel)
theorem kw_310 : (.selects "TileBins" ⟨"TileBins", "tileOf", "(II)I"⟩ ⟨"TileBins", "tileOf", "(II)I"⟩ : Cond) ∈ gb := gb_of (List.mem_of_getElem? (i := 310) (by decide +kernel)) (by decide +kernel)
theorem kw_311 : (.code ⟨"TileBins", "tileOf", "(II)I"⟩ prog_1_method_9_code 3 (Option.some .int) : Cond) ∈ gb := gb_of (List.mem_of_getElem? (i := 311) (by decide +kernel)) (by decide +kernel)
theorem kw_313 : (.methodLink "TileBinsLaw" 83 ⟨"TileBinsLaw", "count", "(LTileBins;I[J)I"⟩ : Cond) ∈ gb := gb_of (List.mem_of_getElem? (i := 313) (by decide +kernel)) (by decide +kernel)
theorem kw_314 : (.static ⟨"TileBinsLaw", "count", "(LTileBins;I[J)I"⟩ : Cond) ∈ gb := gb_of (List.mem_of_getElem? (i := 314) (by decide +kernel)) (by decide +kernel)
theorem kw_315 : (.codeWith ⟨"TileBinsLaw", "count", "(LTileBins;I[J)I"⟩ method_10_code 4 (Option.some .int) [(0, 9, 12, 13)] : Cond) ∈ gb := gb_of (List.mem_of_getElem? (i := 315) (by decide +kernel)) (by decide +kernel)
theorem kw_316 : (.methodLink "TileBinsLaw" 41 ⟨"TileBins", "count", "(I)I"⟩ : Cond) ∈ gb := gb_of (List.mem_of_getElem? (i := 316) (by decide +kernel)) (by decide +kernel)
theorem kw_317 : (.instanceMethod ⟨"TileBins", "count", "(I)I"⟩ : Cond) ∈ gb := gb_of (List.mem_of_getElem? (i := 317) (by decide +kernel)) (by decide +kernel)
theorem kw_318 : (.selects "TileBins" ⟨"TileBins", "count", "(I)I"⟩ ⟨"TileBins", "count", "(I)I"⟩ : Cond) ∈ gb := gb_of (List.mem_of_getElem? (i := 318) (by decide +kernel)) (by decide +kernel)
theorem kw_319 : (.code ⟨"TileBins", "count", "(I)I"⟩ prog_1_method_10_code 2 (Option.some .int) : Cond) ∈ gb := gb_of (List.mem_of_getElem? (i := 319) (by decide +kernel)) (by decide +kernel)
theorem kw_321 : (.classLink "TileBinsLaw" 45 "TileBinsModel" : Cond) ∈ gb := gb_of (List.mem_of_getElem? (i := 321) (by decide +kernel)) (by decide +kernel)
theorem kw_322 : (.instantiable "TileBinsModel" 14 : Cond) ∈ gb := gb_of (List.mem_of_getElem? (i := 322) (by decide +kernel)) (by decide +kernel)
theorem kw_323 : (.methodLink "TileBinsLaw" 47 ⟨"TileBinsModel", "<init>", "()V"⟩ : Cond) ∈ gb := gb_of (List.mem_of_getElem? (i := 323) (by decide +kernel)) (by decide +kernel)
theorem kw_324 : (.instanceMethod ⟨"TileBinsModel", "<init>", "()V"⟩ : Cond) ∈ gb := gb_of (List.mem_of_getElem? (i := 324) (by decide +kernel)) (by decide +kernel)
theorem kw_325 : (.code ⟨"TileBinsModel", "<init>", "()V"⟩ prog_3_method_1_code 1 (Option.none : Option ClassFile.FieldType) : Cond) ∈ gb := gb_of (List.mem_of_getElem? (i := 325) (by decide +kernel)) (by decide +kernel)
theorem kw_326 : (.methodLink "TileBinsModel" 1 ⟨"java/lang/Object", "<init>", "()V"⟩ : Cond) ∈ gb := gb_of (List.mem_of_getElem? (i := 326) (by decide +kernel)) (by decide +kernel)
theorem kw_327 : (.fieldLink "TileBinsModel" 41 "TileBinsModel" "thrown" "I" : Cond) ∈ gb := gb_of (List.mem_of_getElem? (i := 327) (by decide +kernel)) (by decide +kernel)
theorem kw_328 : (.fieldLink "TileBinsModel" 7 "TileBinsModel" "wide" "I" : Cond) ∈ gb := gb_of (List.mem_of_getElem? (i := 328) (by decide +kernel)) (by decide +kernel)
theorem kw_329 : (.fieldLink "TileBinsModel" 13 "TileBinsModel" "high" "I" : Cond) ∈ gb := gb_of (List.mem_of_getElem? (i := 329) (by decide +kernel)) (by decide +kernel)
theorem kw_330 : (.fieldLink "TileBinsModel" 16 "TileBinsModel" "side" "I" : Cond) ∈ gb := gb_of (List.mem_of_getElem? (i := 330) (by decide +kernel)) (by decide +kernel)
theorem kw_331 : (.fieldLink "TileBinsModel" 19 "TileBinsModel" "cells" "I" : Cond) ∈ gb := gb_of (List.mem_of_getElem? (i := 331) (by decide +kernel)) (by decide +kernel)
theorem kw_332 : (.fieldLink "TileBinsModel" 59 "TileBinsModel" "items" "I" : Cond) ∈ gb := gb_of (List.mem_of_getElem? (i := 332) (by decide +kernel)) (by decide +kernel)
theorem kw_333 : (.fieldLink "TileBinsModel" 62 "TileBinsModel" "taken" "I" : Cond) ∈ gb := gb_of (List.mem_of_getElem? (i := 333) (by decide +kernel)) (by decide +kernel)
theorem kw_334 : (.fieldLink "TileBinsModel" 22 "TileBinsModel" "left" "[I" : Cond) ∈ gb := gb_of (List.mem_of_getElem? (i := 334) (by decide +kernel)) (by decide +kernel)
theorem kw_335 : (.fieldLink "TileBinsModel" 26 "TileBinsModel" "top" "[I" : Cond) ∈ gb := gb_of (List.mem_of_getElem? (i := 335) (by decide +kernel)) (by decide +kernel)
theorem kw_336 : (.fieldLink "TileBinsModel" 29 "TileBinsModel" "right" "[I" : Cond) ∈ gb := gb_of (List.mem_of_getElem? (i := 336) (by decide +kernel)) (by decide +kernel)
theorem kw_337 : (.fieldLink "TileBinsModel" 32 "TileBinsModel" "bottom" "[I" : Cond) ∈ gb := gb_of (List.mem_of_getElem? (i := 337) (by decide +kernel)) (by decide +kernel)
theorem kw_338 : (.fieldLink "TileBinsModel" 35 "TileBinsModel" "tag" "[I" : Cond) ∈ gb := gb_of (List.mem_of_getElem? (i := 338) (by decide +kernel)) (by decide +kernel)
theorem kw_339 : (.fieldLink "TileBinsModel" 38 "TileBinsModel" "opened" "I" : Cond) ∈ gb := gb_of (List.mem_of_getElem? (i := 339) (by decide +kernel)) (by decide +kernel)
theorem kw_340 : (.fieldLink "TileBinsModel" 91 "TileBinsModel" "after" "I" : Cond) ∈ gb := gb_of (List.mem_of_getElem? (i := 340) (by decide +kernel)) (by decide +kernel)
theorem kw_370 : (.methodLink "TileBinsLaw" 54 ⟨"TileBinsModel", "thrown", "()I"⟩ : Cond) ∈ gb := gb_of (List.mem_of_getElem? (i := 370) (by decide +kernel)) (by decide +kernel)
theorem kw_371 : (.instanceMethod ⟨"TileBinsModel", "thrown", "()I"⟩ : Cond) ∈ gb := gb_of (List.mem_of_getElem? (i := 371) (by decide +kernel)) (by decide +kernel)
theorem kw_372 : (.selects "TileBinsModel" ⟨"TileBinsModel", "thrown", "()I"⟩ ⟨"TileBinsModel", "thrown", "()I"⟩ : Cond) ∈ gb := gb_of (List.mem_of_getElem? (i := 372) (by decide +kernel)) (by decide +kernel)
theorem kw_373 : (.code ⟨"TileBinsModel", "thrown", "()I"⟩ prog_3_method_2_code 1 (Option.some .int) : Cond) ∈ gb := gb_of (List.mem_of_getElem? (i := 373) (by decide +kernel)) (by decide +kernel)
theorem kw_374 : (.methodLink "TileBinsLaw" 53 ⟨"TileBinsModel", "field", "(IIII)I"⟩ : Cond) ∈ gb := gb_of (List.mem_of_getElem? (i := 374) (by decide +kernel)) (by decide +kernel)
theorem kw_375 : (.instanceMethod ⟨"TileBinsModel", "field", "(IIII)I"⟩ : Cond) ∈ gb := gb_of (List.mem_of_getElem? (i := 375) (by decide +kernel)) (by decide +kernel)
theorem kw_376 : (.selects "TileBinsModel" ⟨"TileBinsModel", "field", "(IIII)I"⟩ ⟨"TileBinsModel", "field", "(IIII)I"⟩ : Cond) ∈ gb := gb_of (List.mem_of_getElem? (i := 376) (by decide +kernel)) (by decide +kernel)
theorem kw_377 : (.code ⟨"TileBinsModel", "field", "(IIII)I"⟩ prog_3_method_8_code 6 (Option.some .int) : Cond) ∈ gb := gb_of (List.mem_of_getElem? (i := 377) (by decide +kernel)) (by decide +kernel)
theorem kw_378 : (.methodLink "TileBinsModel" 51 ⟨"TileBinsModel", "in", "(III)Z"⟩ : Cond) ∈ gb := gb_of (List.mem_of_getElem? (i := 378) (by decide +kernel)) (by decide +kernel)
theorem kw_379 : (.static ⟨"TileBinsModel", "in", "(III)Z"⟩ : Cond) ∈ gb := gb_of (List.mem_of_getElem? (i := 379) (by decide +kernel)) (by decide +kernel)
theorem kw_380 : (.code ⟨"TileBinsModel", "in", "(III)Z"⟩ prog_3_method_4_code 3 (Option.some .boolean) : Cond) ∈ gb := gb_of (List.mem_of_getElem? (i := 380) (by decide +kernel)) (by decide +kernel)
theorem kw_381 : (.methodLink "TileBinsModel" 55 ⟨"TileBinsModel", "refuse", "(ZZ)Z"⟩ : Cond) ∈ gb := gb_of (List.mem_of_getElem? (i := 381) (by decide +kernel)) (by decide +kernel)
theorem kw_383 : (.instanceMethod ⟨"TileBinsModel", "refuse", "(ZZ)Z"⟩ : Cond) ∈ gb := gb_of (List.mem_of_getElem? (i := 383) (by decide +kernel)) (by decide +kernel)
theorem kw_384 : (.code ⟨"TileBinsModel", "refuse", "(ZZ)Z"⟩ prog_3_method_3_code 3 (Option.some .boolean) : Cond) ∈ gb := gb_of (List.mem_of_getElem? (i := 384) (by decide +kernel)) (by decide +kernel)
theorem kw_385 : (.methodLink "TileBinsModel" 48 ⟨"TileBinsModel", "tiles", "()I"⟩ : Cond) ∈ gb := gb_of (List.mem_of_getElem? (i := 385) (by decide +kernel)) (by decide +kernel)
theorem kw_387 : (.instanceMethod ⟨"TileBinsModel", "tiles", "()I"⟩ : Cond) ∈ gb := gb_of (List.mem_of_getElem? (i := 387) (by decide +kernel)) (by decide +kernel)
theorem kw_388 : (.code ⟨"TileBinsModel", "tiles", "()I"⟩ prog_3_method_6_code 1 (Option.some .int) : Cond) ∈ gb := gb_of (List.mem_of_getElem? (i := 388) (by decide +kernel)) (by decide +kernel)
theorem kw_389 : (.methodLink "TileBinsModel" 44 ⟨"TileBinsModel", "across", "()I"⟩ : Cond) ∈ gb := gb_of (List.mem_of_getElem? (i := 389) (by decide +kernel)) (by decide +kernel)
theorem kw_391 : (.instanceMethod ⟨"TileBinsModel", "across", "()I"⟩ : Cond) ∈ gb := gb_of (List.mem_of_getElem? (i := 391) (by decide +kernel)) (by decide +kernel)
theorem kw_392 : (.code ⟨"TileBinsModel", "across", "()I"⟩ prog_3_method_5_code 1 (Option.some .int) : Cond) ∈ gb := gb_of (List.mem_of_getElem? (i := 392) (by decide +kernel)) (by decide +kernel)
theorem kw_393 : (.methodLink "TileBinsLaw" 60 ⟨"TileBinsModel", "put", "(IIIII)I"⟩ : Cond) ∈ gb := gb_of (List.mem_of_getElem? (i := 393) (by decide +kernel)) (by decide +kernel)
theorem kw_394 : (.instanceMethod ⟨"TileBinsModel", "put", "(IIIII)I"⟩ : Cond) ∈ gb := gb_of (List.mem_of_getElem? (i := 394) (by decide +kernel)) (by decide +kernel)
theorem kw_395 : (.selects "TileBinsModel" ⟨"TileBinsModel", "put", "(IIIII)I"⟩ ⟨"TileBinsModel", "put", "(IIIII)I"⟩ : Cond) ∈ gb := gb_of (List.mem_of_getElem? (i := 395) (by decide +kernel)) (by decide +kernel)
theorem kw_396 : (.code ⟨"TileBinsModel", "put", "(IIIII)I"⟩ prog_3_method_15_code 8 (Option.some .int) : Cond) ∈ gb := gb_of (List.mem_of_getElem? (i := 396) (by decide +kernel)) (by decide +kernel)
theorem kw_397 : (.methodLink "TileBinsModel" 72 ⟨"TileBinsModel", "greatest", "(II)I"⟩ : Cond) ∈ gb := gb_of (List.mem_of_getElem? (i := 397) (by decide +kernel)) (by decide +kernel)
theorem kw_398 : (.static ⟨"TileBinsModel", "greatest", "(II)I"⟩ : Cond) ∈ gb := gb_of (List.mem_of_getElem? (i := 398) (by decide +kernel)) (by decide +kernel)
theorem kw_399 : (.code ⟨"TileBinsModel", "greatest", "(II)I"⟩ prog_3_method_10_code 2 (Option.some .int) : Cond) ∈ gb := gb_of (List.mem_of_getElem? (i := 399) (by decide +kernel)) (by decide +kernel)
theorem kw_400 : (.methodLink "TileBinsModel" 65 ⟨"TileBinsModel", "least", "(II)I"⟩ : Cond) ∈ gb := gb_of (List.mem_of_getElem? (i := 400) (by decide +kernel)) (by decide +kernel)
theorem kw_401 : (.static ⟨"TileBinsModel", "least", "(II)I"⟩ : Cond) ∈ gb := gb_of (List.mem_of_getElem? (i := 401) (by decide +kernel)) (by decide +kernel)
theorem kw_402 : (.code ⟨"TileBinsModel", "least", "(II)I"⟩ prog_3_method_9_code 2 (Option.some .int) : Cond) ∈ gb := gb_of (List.mem_of_getElem? (i := 402) (by decide +kernel)) (by decide +kernel)
theorem kw_403 : (.methodLink "TileBinsModel" 75 ⟨"TileBinsModel", "isEmpty", "(IIII)Z"⟩ : Cond) ∈ gb := gb_of (List.mem_of_getElem? (i := 403) (by decide +kernel)) (by decide +kernel)
theorem kw_404 : (.static ⟨"TileBinsModel", "isEmpty", "(IIII)Z"⟩ : Cond) ∈ gb := gb_of (List.mem_of_getElem? (i := 404) (by decide +kernel)) (by decide +kernel)
theorem kw_405 : (.code ⟨"TileBinsModel", "isEmpty", "(IIII)Z"⟩ prog_3_method_12_code 4 (Option.some .boolean) : Cond) ∈ gb := gb_of (List.mem_of_getElem? (i := 405) (by decide +kernel)) (by decide +kernel)
theorem kw_406 : (.methodLink "TileBinsModel" 83 ⟨"TileBinsModel", "tilesOf", "(I)I"⟩ : Cond) ∈ gb := gb_of (List.mem_of_getElem? (i := 406) (by decide +kernel)) (by decide +kernel)
theorem kw_408 : (.instanceMethod ⟨"TileBinsModel", "tilesOf", "(I)I"⟩ : Cond) ∈ gb := gb_of (List.mem_of_getElem? (i := 408) (by decide +kernel)) (by decide +kernel)
theorem kw_409 : (.code ⟨"TileBinsModel", "tilesOf", "(I)I"⟩ prog_3_method_14_code 4 (Option.some .int) : Cond) ∈ gb := gb_of (List.mem_of_getElem? (i := 409) (by decide +kernel)) (by decide +kernel)
theorem kw_410 : (.methodLink "TileBinsModel" 79 ⟨"TileBinsModel", "touches", "(II)Z"⟩ : Cond) ∈ gb := gb_of (List.mem_of_getElem? (i := 410) (by decide +kernel)) (by decide +kernel)
theorem kw_412 : (.instanceMethod ⟨"TileBinsModel", "touches", "(II)Z"⟩ : Cond) ∈ gb := gb_of (List.mem_of_getElem? (i := 412) (by decide +kernel)) (by decide +kernel)
theorem kw_413 : (.code ⟨"TileBinsModel", "touches", "(II)Z"⟩ prog_3_method_13_code 3 (Option.some .boolean) : Cond) ∈ gb := gb_of (List.mem_of_getElem? (i := 413) (by decide +kernel)) (by decide +kernel)
theorem kw_414 : (.methodLink "TileBinsModel" 69 ⟨"TileBinsModel", "edge", "(II)I"⟩ : Cond) ∈ gb := gb_of (List.mem_of_getElem? (i := 414) (by decide +kernel)) (by decide +kernel)
theorem kw_416 : (.instanceMethod ⟨"TileBinsModel", "edge", "(II)I"⟩ : Cond) ∈ gb := gb_of (List.mem_of_getElem? (i := 416) (by decide +kernel)) (by decide +kernel)
theorem kw_417 : (.code ⟨"TileBinsModel", "edge", "(II)I"⟩ prog_3_method_11_code 5 (Option.some .int) : Cond) ∈ gb := gb_of (List.mem_of_getElem? (i := 417) (by decide +kernel)) (by decide +kernel)
theorem kw_418 : (.methodLink "TileBinsLaw" 64 ⟨"TileBinsModel", "empty", "()V"⟩ : Cond) ∈ gb := gb_of (List.mem_of_getElem? (i := 418) (by decide +kernel)) (by decide +kernel)
theorem kw_419 : (.instanceMethod ⟨"TileBinsModel", "empty", "()V"⟩ : Cond) ∈ gb := gb_of (List.mem_of_getElem? (i := 419) (by decide +kernel)) (by decide +kernel)
theorem kw_420 : (.selects "TileBinsModel" ⟨"TileBinsModel", "empty", "()V"⟩ ⟨"TileBinsModel", "empty", "()V"⟩ : Cond) ∈ gb := gb_of (List.mem_of_getElem? (i := 420) (by decide +kernel)) (by decide +kernel)
theorem kw_421 : (.code ⟨"TileBinsModel", "empty", "()V"⟩ prog_3_method_16_code 1 (Option.none : Option ClassFile.FieldType) : Cond) ∈ gb := gb_of (List.mem_of_getElem? (i := 421) (by decide +kernel)) (by decide +kernel)
theorem kw_422 : (.methodLink "TileBinsLaw" 68 ⟨"TileBinsModel", "open", "(I)I"⟩ : Cond) ∈ gb := gb_of (List.mem_of_getElem? (i := 422) (by decide +kernel)) (by decide +kernel)
theorem kw_423 : (.instanceMethod ⟨"TileBinsModel", "open", "(I)I"⟩ : Cond) ∈ gb := gb_of (List.mem_of_getElem? (i := 423) (by decide +kernel)) (by decide +kernel)
theorem kw_424 : (.selects "TileBinsModel" ⟨"TileBinsModel", "open", "(I)I"⟩ ⟨"TileBinsModel", "open", "(I)I"⟩ : Cond) ∈ gb := gb_of (List.mem_of_getElem? (i := 424) (by decide +kernel)) (by decide +kernel)
theorem kw_425 : (.code ⟨"TileBinsModel", "open", "(I)I"⟩ prog_3_method_18_code 2 (Option.some .int) : Cond) ∈ gb := gb_of (List.mem_of_getElem? (i := 425) (by decide +kernel)) (by decide +kernel)
theorem kw_426 : (.methodLink "TileBinsModel" 87 ⟨"TileBinsModel", "isTile", "(I)Z"⟩ : Cond) ∈ gb := gb_of (List.mem_of_getElem? (i := 426) (by decide +kernel)) (by decide +kernel)
theorem kw_428 : (.instanceMethod ⟨"TileBinsModel", "isTile", "(I)Z"⟩ : Cond) ∈ gb := gb_of (List.mem_of_getElem? (i := 428) (by decide +kernel)) (by decide +kernel)
theorem kw_429 : (.code ⟨"TileBinsModel", "isTile", "(I)Z"⟩ prog_3_method_7_code 2 (Option.some .boolean) : Cond) ∈ gb := gb_of (List.mem_of_getElem? (i := 429) (by decide +kernel)) (by decide +kernel)
theorem kw_430 : (.methodLink "TileBinsModel" 94 ⟨"TileBinsModel", "manyOf", "(I)I"⟩ : Cond) ∈ gb := gb_of (List.mem_of_getElem? (i := 430) (by decide +kernel)) (by decide +kernel)
theorem kw_432 : (.instanceMethod ⟨"TileBinsModel", "manyOf", "(I)I"⟩ : Cond) ∈ gb := gb_of (List.mem_of_getElem? (i := 432) (by decide +kernel)) (by decide +kernel)
theorem kw_433 : (.code ⟨"TileBinsModel", "manyOf", "(I)I"⟩ prog_3_method_17_code 4 (Option.some .int) : Cond) ∈ gb := gb_of (List.mem_of_getElem? (i := 433) (by decide +kernel)) (by decide +kernel)
theorem kw_434 : (.methodLink "TileBinsLaw" 72 ⟨"TileBinsModel", "next", "()I"⟩ : Cond) ∈ gb := gb_of (List.mem_of_getElem? (i := 434) (by decide +kernel)) (by decide +kernel)
theorem kw_435 : (.instanceMethod ⟨"TileBinsModel", "next", "()I"⟩ : Cond) ∈ gb := gb_of (List.mem_of_getElem? (i := 435) (by decide +kernel)) (by decide +kernel)
theorem kw_436 : (.selects "TileBinsModel" ⟨"TileBinsModel", "next", "()I"⟩ ⟨"TileBinsModel", "next", "()I"⟩ : Cond) ∈ gb := gb_of (List.mem_of_getElem? (i := 436) (by decide +kernel)) (by decide +kernel)
theorem kw_437 : (.code ⟨"TileBinsModel", "next", "()I"⟩ prog_3_method_19_code 1 (Option.some .int) : Cond) ∈ gb := gb_of (List.mem_of_getElem? (i := 437) (by decide +kernel)) (by decide +kernel)
theorem kw_438 : (.methodLink "TileBinsLaw" 76 ⟨"TileBinsModel", "item", "(II)I"⟩ : Cond) ∈ gb := gb_of (List.mem_of_getElem? (i := 438) (by decide +kernel)) (by decide +kernel)
theorem kw_439 : (.instanceMethod ⟨"TileBinsModel", "item", "(II)I"⟩ : Cond) ∈ gb := gb_of (List.mem_of_getElem? (i := 439) (by decide +kernel)) (by decide +kernel)
theorem kw_440 : (.selects "TileBinsModel" ⟨"TileBinsModel", "item", "(II)I"⟩ ⟨"TileBinsModel", "item", "(II)I"⟩ : Cond) ∈ gb := gb_of (List.mem_of_getElem? (i := 440) (by decide +kernel)) (by decide +kernel)
theorem kw_441 : (.code ⟨"TileBinsModel", "item", "(II)I"⟩ prog_3_method_20_code 3 (Option.some .int) : Cond) ∈ gb := gb_of (List.mem_of_getElem? (i := 441) (by decide +kernel)) (by decide +kernel)
theorem kw_442 : (.methodLink "TileBinsLaw" 79 ⟨"TileBinsModel", "tile", "(II)I"⟩ : Cond) ∈ gb := gb_of (List.mem_of_getElem? (i := 442) (by decide +kernel)) (by decide +kernel)
theorem kw_443 : (.instanceMethod ⟨"TileBinsModel", "tile", "(II)I"⟩ : Cond) ∈ gb := gb_of (List.mem_of_getElem? (i := 443) (by decide +kernel)) (by decide +kernel)
theorem kw_444 : (.selects "TileBinsModel" ⟨"TileBinsModel", "tile", "(II)I"⟩ ⟨"TileBinsModel", "tile", "(II)I"⟩ : Cond) ∈ gb := gb_of (List.mem_of_getElem? (i := 444) (by decide +kernel)) (by decide +kernel)
theorem kw_445 : (.code ⟨"TileBinsModel", "tile", "(II)I"⟩ prog_3_method_21_code 3 (Option.some .int) : Cond) ∈ gb := gb_of (List.mem_of_getElem? (i := 445) (by decide +kernel)) (by decide +kernel)
theorem kw_446 : (.methodLink "TileBinsLaw" 82 ⟨"TileBinsModel", "tileOf", "(II)I"⟩ : Cond) ∈ gb := gb_of (List.mem_of_getElem? (i := 446) (by decide +kernel)) (by decide +kernel)
theorem kw_447 : (.instanceMethod ⟨"TileBinsModel", "tileOf", "(II)I"⟩ : Cond) ∈ gb := gb_of (List.mem_of_getElem? (i := 447) (by decide +kernel)) (by decide +kernel)
theorem kw_448 : (.selects "TileBinsModel" ⟨"TileBinsModel", "tileOf", "(II)I"⟩ ⟨"TileBinsModel", "tileOf", "(II)I"⟩ : Cond) ∈ gb := gb_of (List.mem_of_getElem? (i := 448) (by decide +kernel)) (by decide +kernel)
theorem kw_449 : (.code ⟨"TileBinsModel", "tileOf", "(II)I"⟩ prog_3_method_22_code 4 (Option.some .int) : Cond) ∈ gb := gb_of (List.mem_of_getElem? (i := 449) (by decide +kernel)) (by decide +kernel)
theorem kw_450 : (.methodLink "TileBinsLaw" 85 ⟨"TileBinsModel", "count", "(I)I"⟩ : Cond) ∈ gb := gb_of (List.mem_of_getElem? (i := 450) (by decide +kernel)) (by decide +kernel)
theorem kw_451 : (.instanceMethod ⟨"TileBinsModel", "count", "(I)I"⟩ : Cond) ∈ gb := gb_of (List.mem_of_getElem? (i := 451) (by decide +kernel)) (by decide +kernel)
theorem kw_452 : (.selects "TileBinsModel" ⟨"TileBinsModel", "count", "(I)I"⟩ ⟨"TileBinsModel", "count", "(I)I"⟩ : Cond) ∈ gb := gb_of (List.mem_of_getElem? (i := 452) (by decide +kernel)) (by decide +kernel)
theorem kw_453 : (.code ⟨"TileBinsModel", "count", "(I)I"⟩ prog_3_method_23_code 2 (Option.some .int) : Cond) ∈ gb := gb_of (List.mem_of_getElem? (i := 453) (by decide +kernel)) (by decide +kernel)
theorem kw_454 : (.arrayClass .long : Cond) ∈ gb := gb_of (List.mem_of_getElem? (i := 454) (by decide +kernel)) (by decide +kernel)
theorem kw_455 : (.sameMethod "java/lang/Throwable" "java/lang/Throwable" "fillInStackTrace" "(I)Ljava/lang/Throwable;" : Cond) ∈ gb := gb_of (List.mem_of_getElem? (i := 455) (by decide +kernel)) (by decide +kernel)
