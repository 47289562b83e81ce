def RX0 : String := "FieldEditor$Edit"
def TX0 : u_T := fun k => match k with
  | 0 => ("FieldEditor$Edit", "object", "I", true)
  | 1 => ("FieldEditor$Edit", "field", "I", true)
  | 2 => ("FieldEditor$Edit", "before", "[I", true)
  | _ => ("FieldEditor$Edit", "after", "[I", true)
def tyX0 : Nat → FieldType := fun k => match k with
  | 0 => .int
  | 1 => .int
  | 2 => .array .int
  | _ => .array .int
theorem nmX0 : ∀ a, a < 4 → ∀ b, b < 4 → a ≠ b → (TX0 a).2.1 ≠ (TX0 b).2.1 := by decide +kernel
theorem tyX0_ok : ∀ k, k < 4 → parseFieldDescriptor (TX0 k).2.2.1 = some (tyX0 k) := by decide +kernel
abbrev cX0_init : ByteArray := prog_2_method_1_code
def yX0_init : MethodName := ⟨RX0, "<init>", "(II[I[I)V"⟩
def RX1 : String := "FieldEditor$Field"
def TX1 : u_T := fun k => match k with
  | 0 => ("FieldEditor$Field", "kind", "I", true)
  | 1 => ("FieldEditor$Field", "first", "I", true)
  | 2 => ("FieldEditor$Field", "second", "I", true)
  | 3 => ("FieldEditor$Field", "g", "I", true)
  | _ => ("FieldEditor$Field", "flags", "I", true)
def tyX1 : Nat → FieldType := fun k => match k with
  | 0 => .int
  | 1 => .int
  | 2 => .int
  | 3 => .int
  | _ => .int
theorem nmX1 : ∀ a, a < 5 → ∀ b, b < 5 → a ≠ b → (TX1 a).2.1 ≠ (TX1 b).2.1 := by decide +kernel
theorem tyX1_ok : ∀ k, k < 5 → parseFieldDescriptor (TX1 k).2.2.1 = some (tyX1 k) := by decide +kernel
abbrev cX1_init : ByteArray := prog_3_method_1_code
def yX1_init : MethodName := ⟨RX1, "<init>", "(IIIII)V"⟩
abbrev cX1_has : ByteArray := prog_3_method_2_code
def yX1_has : MethodName := ⟨RX1, "has", "(I)Z"⟩
abbrev cX1_isNumeric : ByteArray := prog_3_method_3_code
def yX1_isNumeric : MethodName := ⟨RX1, "isNumeric", "()Z"⟩
abbrev cX1_leads : ByteArray := prog_3_method_4_code
def yX1_leads : MethodName := ⟨RX1, "leads", "()Z"⟩
abbrev cX1_holdsOn : ByteArray := prog_3_method_5_code
def yX1_holdsOn : MethodName := ⟨RX1, "holdsOn", "()Z"⟩
abbrev cX1_firstRow : ByteArray := prog_3_method_6_code
def yX1_firstRow : MethodName := ⟨RX1, "firstRow", "()[I"⟩
abbrev cX1_plainValue : ByteArray := prog_3_method_7_code
def yX1_plainValue : MethodName := ⟨RX1, "plainValue", "([I)I"⟩
def RX2 : String := "FieldEditor$Group"
def TX2 : u_T := fun k => match k with
  | _ => ("FieldEditor$Group", "edits", "Ljava/util/ArrayList;", true)
def tyX2 : Nat → FieldType := fun k => match k with
  | _ => .object "java/util/ArrayList"
theorem nmX2 : ∀ a, a < 1 → ∀ b, b < 1 → a ≠ b → (TX2 a).2.1 ≠ (TX2 b).2.1 := by decide +kernel
theorem tyX2_ok : ∀ k, k < 1 → parseFieldDescriptor (TX2 k).2.2.1 = some (tyX2 k) := by decide +kernel
abbrev cX2_init : ByteArray := prog_4_method_1_code
def yX2_init : MethodName := ⟨RX2, "<init>", "()V"⟩
def RX3 : String := "FieldEditor$History"
def TX3 : u_T := fun k => match k with
  | 0 => ("FieldEditor$History", "done", "Ljava/util/ArrayList;", true)
  | 1 => ("FieldEditor$History", "undone", "Ljava/util/ArrayList;", true)
  | _ => ("FieldEditor$History", "open", "LFieldEditor$Group;", false)
def tyX3 : Nat → FieldType := fun k => match k with
  | 0 => .object "java/util/ArrayList"
  | 1 => .object "java/util/ArrayList"
  | _ => .object "FieldEditor$Group"
theorem nmX3 : ∀ a, a < 3 → ∀ b, b < 3 → a ≠ b → (TX3 a).2.1 ≠ (TX3 b).2.1 := by decide +kernel
theorem tyX3_ok : ∀ k, k < 3 → parseFieldDescriptor (TX3 k).2.2.1 = some (tyX3 k) := by decide +kernel
abbrev cX3_init : ByteArray := prog_5_method_1_code
def yX3_init : MethodName := ⟨RX3, "<init>", "()V"⟩
abbrev cX3_hasRoom : ByteArray := prog_5_method_2_code
def yX3_hasRoom : MethodName := ⟨RX3, "hasRoom", "()Z"⟩
abbrev cX3_keep : ByteArray := prog_5_method_3_code
def yX3_keep : MethodName := ⟨RX3, "keep", "(LFieldEditor$Edit;)V"⟩
abbrev cX3_push : ByteArray := prog_5_method_4_code
def yX3_push : MethodName := ⟨RX3, "push", "(LFieldEditor$Group;)V"⟩
def RX4 : String := "FieldEditor$Pairs"
def TX4 : u_T := fun k => match k with
  | 0 => ("FieldEditor$Pairs", "left", "[I", true)
  | 1 => ("FieldEditor$Pairs", "right", "[I", true)
  | 2 => ("FieldEditor$Pairs", "family", "[I", true)
  | _ => ("FieldEditor$Pairs", "size", "I", false)
def tyX4 : Nat → FieldType := fun k => match k with
  | 0 => .array .int
  | 1 => .array .int
  | 2 => .array .int
  | _ => .int
theorem nmX4 : ∀ a, a < 4 → ∀ b, b < 4 → a ≠ b → (TX4 a).2.1 ≠ (TX4 b).2.1 := by decide +kernel
theorem tyX4_ok : ∀ k, k < 4 → parseFieldDescriptor (TX4 k).2.2.1 = some (tyX4 k) := by decide +kernel
abbrev cX4_init : ByteArray := prog_6_method_1_code
def yX4_init : MethodName := ⟨RX4, "<init>", "()V"⟩
abbrev cX4_start : ByteArray := prog_6_method_2_code
def yX4_start : MethodName := ⟨RX4, "start", "()V"⟩
abbrev cX4_join : ByteArray := prog_6_method_3_code
def yX4_join : MethodName := ⟨RX4, "join", "(II)V"⟩
def RX5 : String := "FieldEditor$Path"
def TX5 : u_T := fun k => match k with
  | 0 => ("FieldEditor$Path", "kinds", "[I", true)
  | 1 => ("FieldEditor$Path", "numbers", "[I", true)
  | _ => ("FieldEditor$Path", "size", "I", false)
def tyX5 : Nat → FieldType := fun k => match k with
  | 0 => .array .int
  | 1 => .array .int
  | _ => .int
theorem nmX5 : ∀ a, a < 3 → ∀ b, b < 3 → a ≠ b → (TX5 a).2.1 ≠ (TX5 b).2.1 := by decide +kernel
theorem tyX5_ok : ∀ k, k < 3 → parseFieldDescriptor (TX5 k).2.2.1 = some (tyX5 k) := by decide +kernel
abbrev cX5_init : ByteArray := prog_7_method_1_code
def yX5_init : MethodName := ⟨RX5, "<init>", "()V"⟩
abbrev cX5_append : ByteArray := prog_7_method_2_code
def yX5_append : MethodName := ⟨RX5, "append", "(II)I"⟩
def RX6 : String := "FieldEditor$Reach"
def TX6 : u_T := fun k => match k with
  | 0 => ("FieldEditor$Reach", "row", "[I", true)
  | 1 => ("FieldEditor$Reach", "placeOf", "[I", true)
  | _ => ("FieldEditor$Reach", "size", "I", false)
def tyX6 : Nat → FieldType := fun k => match k with
  | 0 => .array .int
  | 1 => .array .int
  | _ => .int
theorem nmX6 : ∀ a, a < 3 → ∀ b, b < 3 → a ≠ b → (TX6 a).2.1 ≠ (TX6 b).2.1 := by decide +kernel
theorem tyX6_ok : ∀ k, k < 3 → parseFieldDescriptor (TX6 k).2.2.1 = some (tyX6 k) := by decide +kernel
abbrev cX6_init : ByteArray := prog_8_method_1_code
def yX6_init : MethodName := ⟨RX6, "<init>", "()V"⟩
abbrev cX6_start : ByteArray := prog_8_method_2_code
def yX6_start : MethodName := ⟨RX6, "start", "(I)V"⟩
abbrev cX6_addAll : ByteArray := prog_8_method_3_code
def yX6_addAll : MethodName := ⟨RX6, "addAll", "([I)V"⟩
abbrev cX6_add : ByteArray := prog_8_method_4_code
def yX6_add : MethodName := ⟨RX6, "add", "(I)V"⟩
def RX7 : String := "FieldEditor$Shape"
def TX7 : u_T := fun k => match k with
  | 0 => ("FieldEditor$Shape", "above", "I", true)
  | 1 => ("FieldEditor$Shape", "fields", "[LFieldEditor$Field;", true)
  | 2 => ("FieldEditor$Shape", "size", "I", false)
  | _ => ("FieldEditor$Shape", "closed", "Z", false)
def tyX7 : Nat → FieldType := fun k => match k with
  | 0 => .int
  | 1 => .array (.object "FieldEditor$Field")
  | 2 => .int
  | _ => .boolean
theorem nmX7 : ∀ a, a < 4 → ∀ b, b < 4 → a ≠ b → (TX7 a).2.1 ≠ (TX7 b).2.1 := by decide +kernel
theorem tyX7_ok : ∀ k, k < 4 → parseFieldDescriptor (TX7 k).2.2.1 = some (tyX7 k) := by decide +kernel
abbrev cX7_init : ByteArray := prog_9_method_1_code
def yX7_init : MethodName := ⟨RX7, "<init>", "(I)V"⟩
abbrev cX7_inherit : ByteArray := prog_9_method_2_code
def yX7_inherit : MethodName := ⟨RX7, "inherit", "(LFieldEditor$Shape;)V"⟩
abbrev cX7_append : ByteArray := prog_9_method_3_code
def yX7_append : MethodName := ⟨RX7, "append", "(LFieldEditor$Field;)I"⟩
abbrev cX7_fieldAt : ByteArray := prog_9_method_4_code
def yX7_fieldAt : MethodName := ⟨RX7, "fieldAt", "(I)LFieldEditor$Field;"⟩
def RX8 : String := "FieldEditor$Spots"
def TX8 : u_T := fun k => match k with
  | 0 => ("FieldEditor$Spots", "objects", "[I", true)
  | 1 => ("FieldEditor$Spots", "fields", "[I", true)
  | _ => ("FieldEditor$Spots", "size", "I", false)
def tyX8 : Nat → FieldType := fun k => match k with
  | 0 => .array .int
  | 1 => .array .int
  | _ => .int
theorem nmX8 : ∀ a, a < 3 → ∀ b, b < 3 → a ≠ b → (TX8 a).2.1 ≠ (TX8 b).2.1 := by decide +kernel
theorem tyX8_ok : ∀ k, k < 3 → parseFieldDescriptor (TX8 k).2.2.1 = some (tyX8 k) := by decide +kernel
abbrev cX8_init : ByteArray := prog_10_method_1_code
def yX8_init : MethodName := ⟨RX8, "<init>", "()V"⟩
abbrev cX8_add : ByteArray := prog_10_method_2_code
def yX8_add : MethodName := ⟨RX8, "add", "(II)V"⟩
def RX9 : String := "FieldEditor$Thing"
def TX9 : u_T := fun k => match k with
  | 0 => ("FieldEditor$Thing", "shape", "I", true)
  | _ => ("FieldEditor$Thing", "rows", "[[I", true)
def tyX9 : Nat → FieldType := fun k => match k with
  | 0 => .int
  | _ => .array (.array .int)
theorem nmX9 : ∀ a, a < 2 → ∀ b, b < 2 → a ≠ b → (TX9 a).2.1 ≠ (TX9 b).2.1 := by decide +kernel
theorem tyX9_ok : ∀ k, k < 2 → parseFieldDescriptor (TX9 k).2.2.1 = some (tyX9 k) := by decide +kernel
abbrev cX9_init : ByteArray := prog_11_method_1_code
def yX9_init : MethodName := ⟨RX9, "<init>", "(II)V"⟩
def RX10 : String := "FieldEditor$Watch"
def TX10 : u_T := fun k => match k with
  | 0 => ("FieldEditor$Watch", "shape", "I", true)
  | 1 => ("FieldEditor$Watch", "field", "I", true)
  | 2 => ("FieldEditor$Watch", "veto", "Z", true)
  | 3 => ("FieldEditor$Watch", "limit", "I", true)
  | 4 => ("FieldEditor$Watch", "objects", "[I", true)
  | 5 => ("FieldEditor$Watch", "ahead", "[I", true)
  | 6 => ("FieldEditor$Watch", "behind", "[I", true)
  | _ => ("FieldEditor$Watch", "size", "I", false)
def tyX10 : Nat → FieldType := fun k => match k with
  | 0 => .int
  | 1 => .int
  | 2 => .boolean
  | 3 => .int
  | 4 => .array .int
  | 5 => .array .int
  | 6 => .array .int
  | _ => .int
theorem nmX10 : ∀ a, a < 8 → ∀ b, b < 8 → a ≠ b → (TX10 a).2.1 ≠ (TX10 b).2.1 := by decide +kernel
theorem tyX10_ok : ∀ k, k < 8 → parseFieldDescriptor (TX10 k).2.2.1 = some (tyX10 k) := by decide +kernel
abbrev cX10_init : ByteArray := prog_12_method_1_code
def yX10_init : MethodName := ⟨RX10, "<init>", "(IIZI)V"⟩
abbrev cX10_write : ByteArray := prog_12_method_2_code
def yX10_write : MethodName := ⟨RX10, "write", "(III)V"⟩
def RX11 : String := "FieldEditor"
def TX11 : u_T := fun k => match k with
  | 0 => ("FieldEditor", "shapes", "[LFieldEditor$Shape;", true)
  | 1 => ("FieldEditor", "shapeCount", "I", false)
  | 2 => ("FieldEditor", "things", "[LFieldEditor$Thing;", true)
  | 3 => ("FieldEditor", "thingCount", "I", false)
  | 4 => ("FieldEditor", "paths", "[LFieldEditor$Path;", true)
  | 5 => ("FieldEditor", "pathCount", "I", false)
  | 6 => ("FieldEditor", "watches", "[LFieldEditor$Watch;", true)
  | 7 => ("FieldEditor", "watchCount", "I", false)
  | 8 => ("FieldEditor", "history", "LFieldEditor$History;", true)
  | 9 => ("FieldEditor", "reached", "LFieldEditor$Reach;", true)
  | 10 => ("FieldEditor", "pairs", "LFieldEditor$Pairs;", true)
  | 11 => ("FieldEditor", "spots", "LFieldEditor$Spots;", true)
  | 12 => ("FieldEditor", "otherSpots", "LFieldEditor$Spots;", true)
  | _ => ("FieldEditor", "values", "[I", true)
def tyX11 : Nat → FieldType := fun k => match k with
  | 0 => .array (.object "FieldEditor$Shape")
  | 1 => .int
  | 2 => .array (.object "FieldEditor$Thing")
  | 3 => .int
  | 4 => .array (.object "FieldEditor$Path")
  | 5 => .int
  | 6 => .array (.object "FieldEditor$Watch")
  | 7 => .int
  | 8 => .object "FieldEditor$History"
  | 9 => .object "FieldEditor$Reach"
  | 10 => .object "FieldEditor$Pairs"
  | 11 => .object "FieldEditor$Spots"
  | 12 => .object "FieldEditor$Spots"
  | _ => .array .int
theorem nmX11 : ∀ a, a < 14 → ∀ b, b < 14 → a ≠ b → (TX11 a).2.1 ≠ (TX11 b).2.1 := by decide +kernel
theorem tyX11_ok : ∀ k, k < 14 → parseFieldDescriptor (TX11 k).2.2.1 = some (tyX11 k) := by decide +kernel
abbrev cX11_init : ByteArray := prog_1_method_1_code
def yX11_init : MethodName := ⟨RX11, "<init>", "()V"⟩
abbrev cX11_shape : ByteArray := prog_1_method_2_code
def yX11_shape : MethodName := ⟨RX11, "shape", "(I)I"⟩
abbrev cX11_number : ByteArray := prog_1_method_3_code
def yX11_number : MethodName := ⟨RX11, "number", "(IIIZZ)I"⟩
abbrev cX11_link : ByteArray := prog_1_method_4_code
def yX11_link : MethodName := ⟨RX11, "link", "(IIZZZZ)I"⟩
abbrev cX11_derived : ByteArray := prog_1_method_5_code
def yX11_derived : MethodName := ⟨RX11, "derived", "(IIII)I"⟩
abbrev cX11_told : ByteArray := prog_1_method_6_code
def yX11_told : MethodName := ⟨RX11, "told", "(III)I"⟩
abbrev cX11_isShape : ByteArray := prog_1_method_7_code
def yX11_isShape : MethodName := ⟨RX11, "isShape", "(I)Z"⟩
abbrev cX11_flags : ByteArray := prog_1_method_8_code
def yX11_flags : MethodName := ⟨RX11, "flags", "(ZZZ)I"⟩
abbrev cX11_addField : ByteArray := prog_1_method_9_code
def yX11_addField : MethodName := ⟨RX11, "addField", "(LFieldEditor$Shape;LFieldEditor$Field;)I"⟩
abbrev cX11_canFollow : ByteArray := prog_1_method_10_code
def yX11_canFollow : MethodName := ⟨RX11, "canFollow", "(LFieldEditor$Shape;III)Z"⟩
abbrev cX11_isOf : ByteArray := prog_1_method_11_code
def yX11_isOf : MethodName := ⟨RX11, "isOf", "(II)Z"⟩
abbrev cX11_object : ByteArray := prog_1_method_12_code
def yX11_object : MethodName := ⟨RX11, "object", "(I)I"⟩
abbrev cX11_get : ByteArray := prog_1_method_13_code
def yX11_get : MethodName := ⟨RX11, "get", "(II)I"⟩
abbrev cX11_element : ByteArray := prog_1_method_14_code
def yX11_element : MethodName := ⟨RX11, "element", "(III)I"⟩
abbrev cX11_shapeOf : ByteArray := prog_1_method_15_code
def yX11_shapeOf : MethodName := ⟨RX11, "shapeOf", "(I)I"⟩
abbrev cX11_holders : ByteArray := prog_1_method_16_code
def yX11_holders : MethodName := ⟨RX11, "holders", "(I)I"⟩
abbrev cX11_holds : ByteArray := prog_1_method_17_code
def yX11_holds : MethodName := ⟨RX11, "holds", "(II)I"⟩
abbrev cX11_isThing : ByteArray := prog_1_method_18_code
def yX11_isThing : MethodName := ⟨RX11, "isThing", "(I)Z"⟩
abbrev cX11_fieldOf : ByteArray := prog_1_method_19_code
def yX11_fieldOf : MethodName := ⟨RX11, "fieldOf", "(II)LFieldEditor$Field;"⟩
abbrev cX11_timesIn : ByteArray := prog_1_method_20_code
def yX11_timesIn : MethodName := ⟨RX11, "timesIn", "([II)I"⟩
abbrev cX11_valueOf : ByteArray := prog_1_method_21_code
def yX11_valueOf : MethodName := ⟨RX11, "valueOf", "(II)I"⟩
abbrev cX11_fillValues : ByteArray := prog_1_method_22_code
def yX11_fillValues : MethodName := ⟨RX11, "fillValues", "(LFieldEditor$Thing;I)V"⟩
abbrev cX11_derive : ByteArray := prog_1_method_23_code
def yX11_derive : MethodName := ⟨RX11, "derive", "(LFieldEditor$Shape;LFieldEditor$Thing;LFieldEditor$Field;)I"⟩
abbrev cX11_ofTwo : ByteArray := prog_1_method_24_code
def yX11_ofTwo : MethodName := ⟨RX11, "ofTwo", "(III)I"⟩
abbrev cX11_total : ByteArray := prog_1_method_25_code
def yX11_total : MethodName := ⟨RX11, "total", "([II)I"⟩
abbrev cX11_reach : ByteArray := prog_1_method_26_code
def yX11_reach : MethodName := ⟨RX11, "reach", "(I)V"⟩
abbrev cX11_set : ByteArray := prog_1_method_27_code
def yX11_set : MethodName := ⟨RX11, "set", "(III)I"⟩
abbrev cX11_lead : ByteArray := prog_1_method_28_code
def yX11_lead : MethodName := ⟨RX11, "lead", "(III)I"⟩
abbrev cX11_unset : ByteArray := prog_1_method_29_code
def yX11_unset : MethodName := ⟨RX11, "unset", "(II)I"⟩
abbrev cX11_insert : ByteArray := prog_1_method_30_code
def yX11_insert : MethodName := ⟨RX11, "insert", "(IIII)I"⟩
abbrev cX11_remove : ByteArray := prog_1_method_31_code
def yX11_remove : MethodName := ⟨RX11, "remove", "(III)I"⟩
abbrev cX11_sort : ByteArray := prog_1_method_32_code
def yX11_sort : MethodName := ⟨RX11, "sort", "(IIIZ)I"⟩
abbrev cX11_begin : ByteArray := prog_1_method_33_code
def yX11_begin : MethodName := ⟨RX11, "begin", "()I"⟩
abbrev cX11_commit : ByteArray := prog_1_method_34_code
def yX11_commit : MethodName := ⟨RX11, "commit", "()I"⟩
abbrev cX11_abort : ByteArray := prog_1_method_35_code
def yX11_abort : MethodName := ⟨RX11, "abort", "()I"⟩
abbrev cX11_undo : ByteArray := prog_1_method_36_code
def yX11_undo : MethodName := ⟨RX11, "undo", "()I"⟩
abbrev cX11_redo : ByteArray := prog_1_method_37_code
def yX11_redo : MethodName := ⟨RX11, "redo", "()I"⟩
abbrev cX11_isLocked : ByteArray := prog_1_method_38_code
def yX11_isLocked : MethodName := ⟨RX11, "isLocked", "(IILFieldEditor$Field;)Z"⟩
abbrev cX11_wouldLoop : ByteArray := prog_1_method_39_code
def yX11_wouldLoop : MethodName := ⟨RX11, "wouldLoop", "(ILFieldEditor$Field;I)Z"⟩
abbrev cX11_isVetoed : ByteArray := prog_1_method_40_code
def yX11_isVetoed : MethodName := ⟨RX11, "isVetoed", "(III)Z"⟩
abbrev cX11_withPlace : ByteArray := prog_1_method_41_code
def yX11_withPlace : MethodName := ⟨RX11, "withPlace", "([III)[I"⟩
abbrev cX11_withoutPlace : ByteArray := prog_1_method_42_code
def yX11_withoutPlace : MethodName := ⟨RX11, "withoutPlace", "([II)[I"⟩
abbrev cX11_inOrder : ByteArray := prog_1_method_43_code
def yX11_inOrder : MethodName := ⟨RX11, "inOrder", "([IIZ)[I"⟩
abbrev cX11_sortKey : ByteArray := prog_1_method_44_code
def yX11_sortKey : MethodName := ⟨RX11, "sortKey", "(II)I"⟩
abbrev cX11_goesAhead : ByteArray := prog_1_method_45_code
def yX11_goesAhead : MethodName := ⟨RX11, "goesAhead", "(IIZ)Z"⟩
abbrev cX11_swap : ByteArray := prog_1_method_46_code
def yX11_swap : MethodName := ⟨RX11, "swap", "([II)V"⟩
abbrev cX11_take : ByteArray := prog_1_method_47_code
def yX11_take : MethodName := ⟨RX11, "take", "(II[I)I"⟩
abbrev cX11_takeBack : ByteArray := prog_1_method_48_code
def yX11_takeBack : MethodName := ⟨RX11, "takeBack", "(LFieldEditor$Group;)V"⟩
abbrev cX11_doAgain : ByteArray := prog_1_method_49_code
def yX11_doAgain : MethodName := ⟨RX11, "doAgain", "(LFieldEditor$Group;)V"⟩
abbrev cX11_put : ByteArray := prog_1_method_50_code
def yX11_put : MethodName := ⟨RX11, "put", "(II[I)V"⟩
abbrev cX11_path : ByteArray := prog_1_method_51_code
def yX11_path : MethodName := ⟨RX11, "path", "()I"⟩
abbrev cX11_step : ByteArray := prog_1_method_52_code
def yX11_step : MethodName := ⟨RX11, "step", "(III)I"⟩
abbrev cX11_fault : ByteArray := prog_1_method_53_code
def yX11_fault : MethodName := ⟨RX11, "fault", "(II)I"⟩
abbrev cX11_matches : ByteArray := prog_1_method_54_code
def yX11_matches : MethodName := ⟨RX11, "matches", "(II)I"⟩
abbrev cX11_match : ByteArray := prog_1_method_55_code
def yX11_match : MethodName := ⟨RX11, "match", "(IIII)I"⟩
abbrev cX11_isPath : ByteArray := prog_1_method_56_code
def yX11_isPath : MethodName := ⟨RX11, "isPath", "(I)Z"⟩
abbrev cX11_isStep : ByteArray := prog_1_method_57_code
def yX11_isStep : MethodName := ⟨RX11, "isStep", "(II)Z"⟩
abbrev cX11_judge : ByteArray := prog_1_method_58_code
def yX11_judge : MethodName := ⟨RX11, "judge", "(III)I"⟩
abbrev cX11_judgeField : ByteArray := prog_1_method_59_code
def yX11_judgeField : MethodName := ⟨RX11, "judgeField", "(LFieldEditor$Field;)I"⟩
abbrev cX11_walk : ByteArray := prog_1_method_60_code
def yX11_walk : MethodName := ⟨RX11, "walk", "(LFieldEditor$Path;I)LFieldEditor$Spots;"⟩
abbrev cX11_go : ByteArray := prog_1_method_61_code
def yX11_go : MethodName := ⟨RX11, "go", "(LFieldEditor$Path;IIILFieldEditor$Spots;)V"⟩
abbrev cX11_goToField : ByteArray := prog_1_method_62_code
def yX11_goToField : MethodName := ⟨RX11, "goToField", "(IIZLFieldEditor$Spots;)V"⟩
abbrev cX11_goIntoList : ByteArray := prog_1_method_63_code
def yX11_goIntoList : MethodName := ⟨RX11, "goIntoList", "([IIILFieldEditor$Spots;)V"⟩
abbrev cX11_copy : ByteArray := prog_1_method_64_code
def yX11_copy : MethodName := ⟨RX11, "copy", "(I)I"⟩
abbrev cX11_alike : ByteArray := prog_1_method_65_code
def yX11_alike : MethodName := ⟨RX11, "alike", "(II)I"⟩
abbrev cX11_copyOf : ByteArray := prog_1_method_66_code
def yX11_copyOf : MethodName := ⟨RX11, "copyOf", "(LFieldEditor$Thing;I)LFieldEditor$Thing;"⟩
abbrev cX11_leadToCopies : ByteArray := prog_1_method_67_code
def yX11_leadToCopies : MethodName := ⟨RX11, "leadToCopies", "([II)V"⟩
abbrev cX11_areLike : ByteArray := prog_1_method_68_code
def yX11_areLike : MethodName := ⟨RX11, "areLike", "(LFieldEditor$Thing;LFieldEditor$Thing;)Z"⟩
abbrev cX11_rowsLike : ByteArray := prog_1_method_69_code
def yX11_rowsLike : MethodName := ⟨RX11, "rowsLike", "([I[IZ)Z"⟩
abbrev cX11_watch : ByteArray := prog_1_method_70_code
def yX11_watch : MethodName := ⟨RX11, "watch", "(IIZI)I"⟩
abbrev cX11_note : ByteArray := prog_1_method_71_code
def yX11_note : MethodName := ⟨RX11, "note", "(III)I"⟩
abbrev cX11_lacks : ByteArray := prog_1_method_72_code
def yX11_lacks : MethodName := ⟨RX11, "lacks", "()I"⟩
abbrev cX11_count : ByteArray := prog_1_method_73_code
def yX11_count : MethodName := ⟨RX11, "count", "(I)I"⟩
abbrev cX11_digest : ByteArray := prog_1_method_74_code
def yX11_digest : MethodName := ⟨RX11, "digest", "()J"⟩
abbrev cX11_digestOf : ByteArray := prog_1_method_75_code
def yX11_digestOf : MethodName := ⟨RX11, "digestOf", "(LFieldEditor$Thing;J)J"⟩
abbrev cX11_sees : ByteArray := prog_1_method_76_code
def yX11_sees : MethodName := ⟨RX11, "sees", "(LFieldEditor$Watch;II)Z"⟩
def RX12 : String := "FieldEditorModel"
def TX12 : u_T := fun k => match k with
  | 0 => ("FieldEditorModel", "shapes", "I", false)
  | 1 => ("FieldEditorModel", "above", "[I", true)
  | 2 => ("FieldEditorModel", "fields", "[I", true)
  | 3 => ("FieldEditorModel", "kind", "[I", true)
  | 4 => ("FieldEditorModel", "first", "[I", true)
  | 5 => ("FieldEditorModel", "second", "[I", true)
  | 6 => ("FieldEditorModel", "third", "[I", true)
  | 7 => ("FieldEditorModel", "flags", "[I", true)
  | 8 => ("FieldEditorModel", "objects", "I", false)
  | 9 => ("FieldEditorModel", "shapeOf", "[I", true)
  | 10 => ("FieldEditorModel", "value", "[I", true)
  | 11 => ("FieldEditorModel", "place", "[I", true)
  | 12 => ("FieldEditorModel", "known", "[I", true)
  | 13 => ("FieldEditorModel", "row", "[I", true)
  | 14 => ("FieldEditorModel", "rowAt", "[I", true)
  | 15 => ("FieldEditorModel", "rowMany", "I", false)
  | 16 => ("FieldEditorModel", "edits", "I", false)
  | 17 => ("FieldEditorModel", "editOf", "[I", true)
  | 18 => ("FieldEditorModel", "was", "[I", true)
  | 19 => ("FieldEditorModel", "became", "[I", true)
  | 20 => ("FieldEditorModel", "entries", "I", false)
  | 21 => ("FieldEditorModel", "done", "I", false)
  | 22 => ("FieldEditorModel", "entryEnd", "[I", true)
  | 23 => ("FieldEditorModel", "isGroup", "Z", false)
  | 24 => ("FieldEditorModel", "groupFrom", "I", false)
  | 25 => ("FieldEditorModel", "watches", "I", false)
  | 26 => ("FieldEditorModel", "watchShape", "[I", true)
  | 27 => ("FieldEditorModel", "watchField", "[I", true)
  | 28 => ("FieldEditorModel", "vetoes", "[Z", true)
  | 29 => ("FieldEditorModel", "limit", "[I", true)
  | 30 => ("FieldEditorModel", "notes", "[I", true)
  | 31 => ("FieldEditorModel", "note", "[I", true)
  | 32 => ("FieldEditorModel", "weight", "[I", true)
  | 33 => ("FieldEditorModel", "paths", "I", false)
  | 34 => ("FieldEditorModel", "steps", "[I", true)
  | 35 => ("FieldEditorModel", "stepKind", "[I", true)
  | 36 => ("FieldEditorModel", "stepNumber", "[I", true)
  | 37 => ("FieldEditorModel", "found", "I", false)
  | 38 => ("FieldEditorModel", "foundObject", "[I", true)
  | 39 => ("FieldEditorModel", "foundField", "[I", true)
  | 40 => ("FieldEditorModel", "next", "I", false)
  | 41 => ("FieldEditorModel", "nextObject", "[I", true)
  | 42 => ("FieldEditorModel", "nextField", "[I", true)
  | 43 => ("FieldEditorModel", "pair", "[I", true)
  | 44 => ("FieldEditorModel", "isPair", "[Z", true)
  | _ => ("FieldEditorModel", "pairs", "I", false)
def tyX12 : Nat → FieldType := fun k => match k with
  | 0 => .int
  | 1 => .array .int
  | 2 => .array .int
  | 3 => .array .int
  | 4 => .array .int
  | 5 => .array .int
  | 6 => .array .int
  | 7 => .array .int
  | 8 => .int
  | 9 => .array .int
  | 10 => .array .int
  | 11 => .array .int
  | 12 => .array .int
  | 13 => .array .int
  | 14 => .array .int
  | 15 => .int
  | 16 => .int
  | 17 => .array .int
  | 18 => .array .int
  | 19 => .array .int
  | 20 => .int
  | 21 => .int
  | 22 => .array .int
  | 23 => .boolean
  | 24 => .int
  | 25 => .int
  | 26 => .array .int
  | 27 => .array .int
  | 28 => .array .boolean
  | 29 => .array .int
  | 30 => .array .int
  | 31 => .array .int
  | 32 => .array .int
  | 33 => .int
  | 34 => .array .int
  | 35 => .array .int
  | 36 => .array .int
  | 37 => .int
  | 38 => .array .int
  | 39 => .array .int
  | 40 => .int
  | 41 => .array .int
  | 42 => .array .int
  | 43 => .array .int
  | 44 => .array .boolean
  | _ => .int
theorem nmX12 : ∀ a, a < 46 → ∀ b, b < 46 → a ≠ b → (TX12 a).2.1 ≠ (TX12 b).2.1 := by decide +kernel
theorem tyX12_ok : ∀ k, k < 46 → parseFieldDescriptor (TX12 k).2.2.1 = some (tyX12 k) := by decide +kernel
abbrev cX12_init : ByteArray := prog_14_method_1_code
def yX12_init : MethodName := ⟨RX12, "<init>", "()V"⟩
abbrev cX12_in : ByteArray := prog_14_method_3_code
def yX12_in : MethodName := ⟨RX12, "in", "(III)Z"⟩
abbrev cX12_isShape : ByteArray := prog_14_method_4_code
def yX12_isShape : MethodName := ⟨RX12, "isShape", "(I)Z"⟩
abbrev cX12_isOf : ByteArray := prog_14_method_5_code
def yX12_isOf : MethodName := ⟨RX12, "isOf", "(II)Z"⟩
abbrev cX12_shape : ByteArray := prog_14_method_6_code
def yX12_shape : MethodName := ⟨RX12, "shape", "(I)I"⟩
abbrev cX12_against : ByteArray := prog_14_method_7_code
def yX12_against : MethodName := ⟨RX12, "against", "(I)I"⟩
abbrev cX12_adds : ByteArray := prog_14_method_8_code
def yX12_adds : MethodName := ⟨RX12, "adds", "(IIIIII)I"⟩
abbrev cX12_flag : ByteArray := prog_14_method_9_code
def yX12_flag : MethodName := ⟨RX12, "flag", "(ZZZ)I"⟩
abbrev cX12_number : ByteArray := prog_14_method_10_code
def yX12_number : MethodName := ⟨RX12, "number", "(IIIZZ)I"⟩
abbrev cX12_link : ByteArray := prog_14_method_11_code
def yX12_link : MethodName := ⟨RX12, "link", "(IIZZZZ)I"⟩
abbrev cX12_isNumeric : ByteArray := prog_14_method_12_code
def yX12_isNumeric : MethodName := ⟨RX12, "isNumeric", "(II)Z"⟩
abbrev cX12_isKind : ByteArray := prog_14_method_13_code
def yX12_isKind : MethodName := ⟨RX12, "isKind", "(III)Z"⟩
abbrev cX12_mayFollow : ByteArray := prog_14_method_14_code
def yX12_mayFollow : MethodName := ⟨RX12, "mayFollow", "(IIII)Z"⟩
abbrev cX12_derived : ByteArray := prog_14_method_15_code
def yX12_derived : MethodName := ⟨RX12, "derived", "(IIII)I"⟩
abbrev cX12_told : ByteArray := prog_14_method_16_code
def yX12_told : MethodName := ⟨RX12, "told", "(III)I"⟩
abbrev cX12_isObject : ByteArray := prog_14_method_17_code
def yX12_isObject : MethodName := ⟨RX12, "isObject", "(I)Z"⟩
abbrev cX12_hasField : ByteArray := prog_14_method_18_code
def yX12_hasField : MethodName := ⟨RX12, "hasField", "(II)Z"⟩
abbrev cX12_at : ByteArray := prog_14_method_19_code
def yX12_at : MethodName := ⟨RX12, "at", "(II)I"⟩
abbrev cX12_by : ByteArray := prog_14_method_20_code
def yX12_by : MethodName := ⟨RX12, "by", "(II)I"⟩
abbrev cX12_makes : ByteArray := prog_14_method_21_code
def yX12_makes : MethodName := ⟨RX12, "makes", "(I)I"⟩
abbrev cX12_object : ByteArray := prog_14_method_22_code
def yX12_object : MethodName := ⟨RX12, "object", "(I)I"⟩
abbrev cX12_total : ByteArray := prog_14_method_23_code
def yX12_total : MethodName := ⟨RX12, "total", "(III)I"⟩
abbrev cX12_followed : ByteArray := prog_14_method_24_code
def yX12_followed : MethodName := ⟨RX12, "followed", "(II)I"⟩
abbrev cX12_valueOf : ByteArray := prog_14_method_25_code
def yX12_valueOf : MethodName := ⟨RX12, "valueOf", "(II)I"⟩
abbrev cX12_get : ByteArray := prog_14_method_26_code
def yX12_get : MethodName := ⟨RX12, "get", "(II)I"⟩
abbrev cX12_element : ByteArray := prog_14_method_27_code
def yX12_element : MethodName := ⟨RX12, "element", "(III)I"⟩
abbrev cX12_shapeOf : ByteArray := prog_14_method_28_code
def yX12_shapeOf : MethodName := ⟨RX12, "shapeOf", "(I)I"⟩
abbrev cX12_holders : ByteArray := prog_14_method_29_code
def yX12_holders : MethodName := ⟨RX12, "holders", "(I)I"⟩
abbrev cX12_comes : ByteArray := prog_14_method_30_code
def yX12_comes : MethodName := ⟨RX12, "comes", "(I)V"⟩
abbrev cX12_comesHeld : ByteArray := prog_14_method_31_code
def yX12_comesHeld : MethodName := ⟨RX12, "comesHeld", "(I)V"⟩
abbrev cX12_findHeld : ByteArray := prog_14_method_32_code
def yX12_findHeld : MethodName := ⟨RX12, "findHeld", "(I)V"⟩
abbrev cX12_isHeld : ByteArray := prog_14_method_33_code
def yX12_isHeld : MethodName := ⟨RX12, "isHeld", "(II)Z"⟩
abbrev cX12_holds : ByteArray := prog_14_method_34_code
def yX12_holds : MethodName := ⟨RX12, "holds", "(II)I"⟩
abbrev cX12_keeps : ByteArray := prog_14_method_35_code
def yX12_keeps : MethodName := ⟨RX12, "keeps", "([III)V"⟩
abbrev cX12_puts : ByteArray := prog_14_method_36_code
def yX12_puts : MethodName := ⟨RX12, "puts", "([III)V"⟩
abbrev cX12_notes : ByteArray := prog_14_method_37_code
def yX12_notes : MethodName := ⟨RX12, "notes", "(III)V"⟩
abbrev cX12_doneEnd : ByteArray := prog_14_method_38_code
def yX12_doneEnd : MethodName := ⟨RX12, "doneEnd", "()I"⟩
abbrev cX12_begins : ByteArray := prog_14_method_39_code
def yX12_begins : MethodName := ⟨RX12, "begins", "(II)V"⟩
abbrev cX12_ends : ByteArray := prog_14_method_40_code
def yX12_ends : MethodName := ⟨RX12, "ends", "(II)I"⟩
abbrev cX12_enters : ByteArray := prog_14_method_41_code
def yX12_enters : MethodName := ⟨RX12, "enters", "()V"⟩
abbrev cX12_isReadOnly : ByteArray := prog_14_method_42_code
def yX12_isReadOnly : MethodName := ⟨RX12, "isReadOnly", "(IIZ)Z"⟩
abbrev cX12_isVetoed : ByteArray := prog_14_method_43_code
def yX12_isVetoed : MethodName := ⟨RX12, "isVetoed", "(III)Z"⟩
abbrev cX12_set : ByteArray := prog_14_method_44_code
def yX12_set : MethodName := ⟨RX12, "set", "(III)I"⟩
abbrev cX12_wouldLoop : ByteArray := prog_14_method_45_code
def yX12_wouldLoop : MethodName := ⟨RX12, "wouldLoop", "(III)Z"⟩
abbrev cX12_lead : ByteArray := prog_14_method_46_code
def yX12_lead : MethodName := ⟨RX12, "lead", "(III)I"⟩
abbrev cX12_unset : ByteArray := prog_14_method_47_code
def yX12_unset : MethodName := ⟨RX12, "unset", "(II)I"⟩
abbrev cX12_insert : ByteArray := prog_14_method_48_code
def yX12_insert : MethodName := ⟨RX12, "insert", "(IIII)I"⟩
abbrev cX12_remove : ByteArray := prog_14_method_49_code
def yX12_remove : MethodName := ⟨RX12, "remove", "(III)I"⟩
abbrev cX12_weightOf : ByteArray := prog_14_method_50_code
def yX12_weightOf : MethodName := ⟨RX12, "weightOf", "(II)I"⟩
abbrev cX12_isAhead : ByteArray := prog_14_method_51_code
def yX12_isAhead : MethodName := ⟨RX12, "isAhead", "(IIZ)Z"⟩
abbrev cX12_sort : ByteArray := prog_14_method_52_code
def yX12_sort : MethodName := ⟨RX12, "sort", "(IIIZ)I"⟩
abbrev cX12_begin : ByteArray := prog_14_method_53_code
def yX12_begin : MethodName := ⟨RX12, "begin", "()I"⟩
abbrev cX12_groupSize : ByteArray := prog_14_method_54_code
def yX12_groupSize : MethodName := ⟨RX12, "groupSize", "()I"⟩
abbrev cX12_commit : ByteArray := prog_14_method_55_code
def yX12_commit : MethodName := ⟨RX12, "commit", "()I"⟩
abbrev cX12_goes : ByteArray := prog_14_method_56_code
def yX12_goes : MethodName := ⟨RX12, "goes", "(IZ)V"⟩
abbrev cX12_abort : ByteArray := prog_14_method_57_code
def yX12_abort : MethodName := ⟨RX12, "abort", "()I"⟩
abbrev cX12_undo : ByteArray := prog_14_method_58_code
def yX12_undo : MethodName := ⟨RX12, "undo", "()I"⟩
abbrev cX12_redo : ByteArray := prog_14_method_59_code
def yX12_redo : MethodName := ⟨RX12, "redo", "()I"⟩
abbrev cX12_isPath : ByteArray := prog_14_method_60_code
def yX12_isPath : MethodName := ⟨RX12, "isPath", "(I)Z"⟩
abbrev cX12_path : ByteArray := prog_14_method_61_code
def yX12_path : MethodName := ⟨RX12, "path", "()I"⟩
abbrev cX12_step : ByteArray := prog_14_method_62_code
def yX12_step : MethodName := ⟨RX12, "step", "(III)I"⟩
abbrev cX12_fault : ByteArray := prog_14_method_63_code
def yX12_fault : MethodName := ⟨RX12, "fault", "(II)I"⟩
abbrev cX12_matched : ByteArray := prog_14_method_64_code
def yX12_matched : MethodName := ⟨RX12, "matched", "(II)V"⟩
abbrev cX12_walkField : ByteArray := prog_14_method_65_code
def yX12_walkField : MethodName := ⟨RX12, "walkField", "(IIZ)V"⟩
abbrev cX12_walkList : ByteArray := prog_14_method_66_code
def yX12_walkList : MethodName := ⟨RX12, "walkList", "(IIII)V"⟩
abbrev cX12_walk : ByteArray := prog_14_method_67_code
def yX12_walk : MethodName := ⟨RX12, "walk", "(II)V"⟩
abbrev cX12_matches : ByteArray := prog_14_method_68_code
def yX12_matches : MethodName := ⟨RX12, "matches", "(II)I"⟩
abbrev cX12_match : ByteArray := prog_14_method_69_code
def yX12_match : MethodName := ⟨RX12, "match", "(IIII)I"⟩
abbrev cX12_copied : ByteArray := prog_14_method_70_code
def yX12_copied : MethodName := ⟨RX12, "copied", "(II)I"⟩
abbrev cX12_copy : ByteArray := prog_14_method_71_code
def yX12_copy : MethodName := ⟨RX12, "copy", "(I)I"⟩
abbrev cX12_alsoAlike : ByteArray := prog_14_method_72_code
def yX12_alsoAlike : MethodName := ⟨RX12, "alsoAlike", "(II)V"⟩
abbrev cX12_areLike : ByteArray := prog_14_method_73_code
def yX12_areLike : MethodName := ⟨RX12, "areLike", "(II)Z"⟩
abbrev cX12_alike : ByteArray := prog_14_method_74_code
def yX12_alike : MethodName := ⟨RX12, "alike", "(II)I"⟩
abbrev cX12_watch : ByteArray := prog_14_method_75_code
def yX12_watch : MethodName := ⟨RX12, "watch", "(IIZI)I"⟩
abbrev cX12_note : ByteArray := prog_14_method_76_code
def yX12_note : MethodName := ⟨RX12, "note", "(III)I"⟩
abbrev cX12_lacks : ByteArray := prog_14_method_77_code
def yX12_lacks : MethodName := ⟨RX12, "lacks", "()I"⟩
abbrev cX12_count : ByteArray := prog_14_method_78_code
def yX12_count : MethodName := ⟨RX12, "count", "(I)I"⟩
abbrev cX12_digest : ByteArray := prog_14_method_79_code
def yX12_digest : MethodName := ⟨RX12, "digest", "()J"⟩
def RJx145de : String := "java/io/Serializable"
def TJx145de : u_T := fun k => match k with
  | _ => ("", "", "", false)
def tyJx145de : Nat → FieldType := fun k => match k with
  | _ => .int
theorem nmJx145de : ∀ a, a < 0 → ∀ b, b < 0 → a ≠ b → (TJx145de a).2.1 ≠ (TJx145de b).2.1 := by decide +kernel
theorem tyJx145de_ok : ∀ k, k < 0 → parseFieldDescriptor (TJx145de k).2.2.1 = some (tyJx145de k) := by decide +kernel
def RJx8e188 : String := "java/lang/Cloneable"
def TJx8e188 : u_T := fun k => match k with
  | _ => ("", "", "", false)
def tyJx8e188 : Nat → FieldType := fun k => match k with
  | _ => .int
theorem nmJx8e188 : ∀ a, a < 0 → ∀ b, b < 0 → a ≠ b → (TJx8e188 a).2.1 ≠ (TJx8e188 b).2.1 := by decide +kernel
theorem tyJx8e188_ok : ∀ k, k < 0 → parseFieldDescriptor (TJx8e188 k).2.2.1 = some (tyJx8e188 k) := by decide +kernel
def RJxab1ab : String := "java/lang/Iterable"
def TJxab1ab : u_T := fun k => match k with
  | _ => ("", "", "", false)
def tyJxab1ab : Nat → FieldType := fun k => match k with
  | _ => .int
theorem nmJxab1ab : ∀ a, a < 0 → ∀ b, b < 0 → a ≠ b → (TJxab1ab a).2.1 ≠ (TJxab1ab b).2.1 := by decide +kernel
theorem tyJxab1ab_ok : ∀ k, k < 0 → parseFieldDescriptor (TJxab1ab k).2.2.1 = some (tyJxab1ab k) := by decide +kernel
def RJ9 : String := "java/lang/Math"
def TJ9 : u_T := fun k => match k with
  | _ => ("", "", "", false)
def tyJ9 : Nat → FieldType := fun k => match k with
  | _ => .int
theorem nmJ9 : ∀ a, a < 0 → ∀ b, b < 0 → a ≠ b → (TJ9 a).2.1 ≠ (TJ9 b).2.1 := by decide +kernel
theorem tyJ9_ok : ∀ k, k < 0 → parseFieldDescriptor (TJ9 k).2.2.1 = some (tyJ9 k) := by decide +kernel
abbrev cJ9_max_7cf53 : ByteArray := prog_18_method_65_code
def yJ9_max_7cf53 : MethodName := ⟨RJ9, "max", "(II)I"⟩
abbrev cJ9_min_7cf53 : ByteArray := prog_18_method_69_code
def yJ9_min_7cf53 : MethodName := ⟨RJ9, "min", "(II)I"⟩
def RJ10 : String := "java/lang/System"
def TJ10 : u_T := fun k => match k with
  | _ => ("", "", "", false)
def tyJ10 : Nat → FieldType := fun k => match k with
  | _ => .int
theorem nmJ10 : ∀ a, a < 0 → ∀ b, b < 0 → a ≠ b → (TJ10 a).2.1 ≠ (TJ10 b).2.1 := by decide +kernel
theorem tyJ10_ok : ∀ k, k < 0 → parseFieldDescriptor (TJ10 k).2.2.1 = some (tyJ10 k) := by decide +kernel
def RJxa1e45 : String := "java/util/AbstractCollection"
def TJxa1e45 : u_T := fun k => match k with
  | _ => ("", "", "", false)
def tyJxa1e45 : Nat → FieldType := fun k => match k with
  | _ => .int
theorem nmJxa1e45 : ∀ a, a < 0 → ∀ b, b < 0 → a ≠ b → (TJxa1e45 a).2.1 ≠ (TJxa1e45 b).2.1 := by decide +kernel
theorem tyJxa1e45_ok : ∀ k, k < 0 → parseFieldDescriptor (TJxa1e45 k).2.2.1 = some (tyJxa1e45 k) := by decide +kernel
abbrev cJxa1e45_init_da8c8 : ByteArray := prog_20_method_1_code
def yJxa1e45_init_da8c8 : MethodName := ⟨RJxa1e45, "<init>", "()V"⟩
def RJxc12de : String := "java/util/AbstractList"
def TJxc12de : u_T := fun k => match k with
  | _ => ("", "", "", false)
def tyJxc12de : Nat → FieldType := fun k => match k with
  | _ => .int
theorem nmJxc12de : ∀ a, a < 0 → ∀ b, b < 0 → a ≠ b → (TJxc12de a).2.1 ≠ (TJxc12de b).2.1 := by decide +kernel
theorem tyJxc12de_ok : ∀ k, k < 0 → parseFieldDescriptor (TJxc12de k).2.2.1 = some (tyJxc12de k) := by decide +kernel
abbrev cJxc12de_init_da8c8 : ByteArray := prog_21_method_1_code
def yJxc12de_init_da8c8 : MethodName := ⟨RJxc12de, "<init>", "()V"⟩
def RJx4a65c : String := "java/util/ArrayList"
def TJx4a65c : u_T := fun k => match k with
  | 0 => ("java/util/AbstractList", "modCount", "I", false)
  | 1 => ("java/util/ArrayList", "elementData", "[Ljava/lang/Object;", false)
  | _ => ("java/util/ArrayList", "size", "I", false)
def tyJx4a65c : Nat → FieldType := fun k => match k with
  | 0 => .int
  | 1 => .array (.object "java/lang/Object")
  | _ => .int
theorem nmJx4a65c : ∀ a, a < 3 → ∀ b, b < 3 → a ≠ b → (TJx4a65c a).2.1 ≠ (TJx4a65c b).2.1 := by decide +kernel
theorem tyJx4a65c_ok : ∀ k, k < 3 → parseFieldDescriptor (TJx4a65c k).2.2.1 = some (tyJx4a65c k) := by decide +kernel
abbrev cJx4a65c_init_da8c8 : ByteArray := prog_22_method_2_code
def yJx4a65c_init_da8c8 : MethodName := ⟨RJx4a65c, "<init>", "()V"⟩
abbrev cJx4a65c_grow_92f84 : ByteArray := prog_22_method_6_code
def yJx4a65c_grow_92f84 : MethodName := ⟨RJx4a65c, "grow", "(I)[Ljava/lang/Object;"⟩
abbrev cJx4a65c_grow_d5877 : ByteArray := prog_22_method_7_code
def yJx4a65c_grow_d5877 : MethodName := ⟨RJx4a65c, "grow", "()[Ljava/lang/Object;"⟩
abbrev cJx4a65c_size_8abf5 : ByteArray := prog_22_method_8_code
def yJx4a65c_size_8abf5 : MethodName := ⟨RJx4a65c, "size", "()I"⟩
abbrev cJx4a65c_isEmpty_aae02 : ByteArray := prog_22_method_9_code
def yJx4a65c_isEmpty_aae02 : MethodName := ⟨RJx4a65c, "isEmpty", "()Z"⟩
abbrev cJx4a65c_elementData_915e3 : ByteArray := prog_22_method_18_code
def yJx4a65c_elementData_915e3 : MethodName := ⟨RJx4a65c, "elementData", "(I)Ljava/lang/Object;"⟩
abbrev cJx4a65c_get_915e3 : ByteArray := prog_22_method_20_code
def yJx4a65c_get_915e3 : MethodName := ⟨RJx4a65c, "get", "(I)Ljava/lang/Object;"⟩
abbrev cJx4a65c_add_72be8 : ByteArray := prog_22_method_24_code
def yJx4a65c_add_72be8 : MethodName := ⟨RJx4a65c, "add", "(Ljava/lang/Object;[Ljava/lang/Object;I)V"⟩
abbrev cJx4a65c_add_9ea2d : ByteArray := prog_22_method_25_code
def yJx4a65c_add_9ea2d : MethodName := ⟨RJx4a65c, "add", "(Ljava/lang/Object;)Z"⟩
abbrev cJx4a65c_remove_915e3 : ByteArray := prog_22_method_29_code
def yJx4a65c_remove_915e3 : MethodName := ⟨RJx4a65c, "remove", "(I)Ljava/lang/Object;"⟩
abbrev cJx4a65c_fastRemove_b59b0 : ByteArray := prog_22_method_39_code
def yJx4a65c_fastRemove_b59b0 : MethodName := ⟨RJx4a65c, "fastRemove", "([Ljava/lang/Object;I)V"⟩
abbrev cJx4a65c_clear_da8c8 : ByteArray := prog_22_method_40_code
def yJx4a65c_clear_da8c8 : MethodName := ⟨RJx4a65c, "clear", "()V"⟩
def RJ7 : String := "java/util/Arrays"
def TJ7 : u_T := fun k => match k with
  | _ => ("", "", "", false)
def tyJ7 : Nat → FieldType := fun k => match k with
  | _ => .int
theorem nmJ7 : ∀ a, a < 0 → ∀ b, b < 0 → a ≠ b → (TJ7 a).2.1 ≠ (TJ7 b).2.1 := by decide +kernel
theorem tyJ7_ok : ∀ k, k < 0 → parseFieldDescriptor (TJ7 k).2.2.1 = some (tyJ7 k) := by decide +kernel
abbrev cJ7_copyOf_1904c : ByteArray := prog_23_method_119_code
def yJ7_copyOf_1904c : MethodName := ⟨RJ7, "copyOf", "([Ljava/lang/Object;I)[Ljava/lang/Object;"⟩
abbrev cJ7_copyOf_6403c : ByteArray := prog_23_method_120_code
def yJ7_copyOf_6403c : MethodName := ⟨RJ7, "copyOf", "([Ljava/lang/Object;ILjava/lang/Class;)[Ljava/lang/Object;"⟩
def RJx5ef63 : String := "java/util/Collection"
def TJx5ef63 : u_T := fun k => match k with
  | _ => ("", "", "", false)
def tyJx5ef63 : Nat → FieldType := fun k => match k with
  | _ => .int
theorem nmJx5ef63 : ∀ a, a < 0 → ∀ b, b < 0 → a ≠ b → (TJx5ef63 a).2.1 ≠ (TJx5ef63 b).2.1 := by decide +kernel
theorem tyJx5ef63_ok : ∀ k, k < 0 → parseFieldDescriptor (TJx5ef63 k).2.2.1 = some (tyJx5ef63 k) := by decide +kernel
def RJxbd725 : String := "java/util/List"
def TJxbd725 : u_T := fun k => match k with
  | _ => ("", "", "", false)
def tyJxbd725 : Nat → FieldType := fun k => match k with
  | _ => .int
theorem nmJxbd725 : ∀ a, a < 0 → ∀ b, b < 0 → a ≠ b → (TJxbd725 a).2.1 ≠ (TJxbd725 b).2.1 := by decide +kernel
theorem tyJxbd725_ok : ∀ k, k < 0 → parseFieldDescriptor (TJxbd725 k).2.2.1 = some (tyJxbd725 k) := by decide +kernel
def RJ15 : String := "java/util/Objects"
def TJ15 : u_T := fun k => match k with
  | _ => ("", "", "", false)
def tyJ15 : Nat → FieldType := fun k => match k with
  | _ => .int
theorem nmJ15 : ∀ a, a < 0 → ∀ b, b < 0 → a ≠ b → (TJ15 a).2.1 ≠ (TJ15 b).2.1 := by decide +kernel
theorem tyJ15_ok : ∀ k, k < 0 → parseFieldDescriptor (TJ15 k).2.2.1 = some (tyJ15 k) := by decide +kernel
abbrev cJ15_checkIndex_7cf53 : ByteArray := prog_26_method_17_code
def yJ15_checkIndex_7cf53 : MethodName := ⟨RJ15, "checkIndex", "(II)I"⟩
def RJxf0a74 : String := "java/util/RandomAccess"
def TJxf0a74 : u_T := fun k => match k with
  | _ => ("", "", "", false)
def tyJxf0a74 : Nat → FieldType := fun k => match k with
  | _ => .int
theorem nmJxf0a74 : ∀ a, a < 0 → ∀ b, b < 0 → a ≠ b → (TJxf0a74 a).2.1 ≠ (TJxf0a74 b).2.1 := by decide +kernel
theorem tyJxf0a74_ok : ∀ k, k < 0 → parseFieldDescriptor (TJxf0a74 k).2.2.1 = some (tyJxf0a74 k) := by decide +kernel
def RJxa66e6 : String := "java/util/SequencedCollection"
def TJxa66e6 : u_T := fun k => match k with
  | _ => ("", "", "", false)
def tyJxa66e6 : Nat → FieldType := fun k => match k with
  | _ => .int
theorem nmJxa66e6 : ∀ a, a < 0 → ∀ b, b < 0 → a ≠ b → (TJxa66e6 a).2.1 ≠ (TJxa66e6 b).2.1 := by decide +kernel
theorem tyJxa66e6_ok : ∀ k, k < 0 → parseFieldDescriptor (TJxa66e6 k).2.2.1 = some (tyJxa66e6 k) := by decide +kernel
def RJ8 : String := "jdk/internal/util/ArraysSupport"
def TJ8 : u_T := fun k => match k with
  | _ => ("", "", "", false)
def tyJ8 : Nat → FieldType := fun k => match k with
  | _ => .int
theorem nmJ8 : ∀ a, a < 0 → ∀ b, b < 0 → a ≠ b → (TJ8 a).2.1 ≠ (TJ8 b).2.1 := by decide +kernel
theorem tyJ8_ok : ∀ k, k < 0 → parseFieldDescriptor (TJ8 k).2.2.1 = some (tyJ8 k) := by decide +kernel
abbrev cJ8_newLength_cabcc : ByteArray := prog_29_method_27_code
def yJ8_newLength_cabcc : MethodName := ⟨RJ8, "newLength", "(III)I"⟩
abbrev cJ8_hugeLength_7cf53 : ByteArray := prog_29_method_28_code
def yJ8_hugeLength_7cf53 : MethodName := ⟨RJ8, "hugeLength", "(II)I"⟩
def RJ3 : String := "jdk/internal/util/Preconditions"
def TJ3 : u_T := fun k => match k with
  | _ => ("", "", "", false)
def tyJ3 : Nat → FieldType := fun k => match k with
  | _ => .int
theorem nmJ3 : ∀ a, a < 0 → ∀ b, b < 0 → a ≠ b → (TJ3 a).2.1 ≠ (TJ3 b).2.1 := by decide +kernel
theorem tyJ3_ok : ∀ k, k < 0 → parseFieldDescriptor (TJ3 k).2.2.1 = some (tyJ3 k) := by decide +kernel
abbrev cJ3_checkIndex_8e157 : ByteArray := prog_30_method_11_code
def yJ3_checkIndex_8e157 : MethodName := ⟨RJ3, "checkIndex", "(IILjava/util/function/BiFunction;)I"⟩
def RL : String := "FieldEditorLaw"
abbrev cL_law : ByteArray := code
def yL_law : MethodName := ⟨RL, "law", "([I)Z"⟩
abbrev vwCl : List vw_C := [(RJx4a65c, TJx4a65c, 3), (RX0, TX0, 4), (RX1, TX1, 5), (RX2, TX2, 1), (RX3, TX3, 3), (RX4, TX4, 4), (RX5, TX5, 3), (RX6, TX6, 3), (RX7, TX7, 4), (RX8, TX8, 3), (RX9, TX9, 2), (RX10, TX10, 8), (RX11, TX11, 14), (RX12, TX12, 46)]
/-- a decoded instruction, its length and the next place -/
def DC (cc : ByteArray) (pc : Nat) (i : Instr) (n pc2 : Nat) : Prop := decode cc pc = .ok (i, n) ∧ pc + n = pc2
def DJ (cc : ByteArray) (pc : Nat) (i : Instr) (n pc2 : Nat) (off : Int) (tgt : Nat) : Prop := DC cc pc i n pc2 ∧ (pc : Int) + off = (tgt : Int)
/-- a field entry of a pool: kind number of the object, number of the field -/
def FL (own : String) (idx k j : Nat) : Prop := ∃ (r : vw_C) (ref : String), vwCl[k]? = some r ∧ j < r.2.2 ∧ Cond.fieldLink own idx ref (r.2.1 j).2.1 (r.2.1 j).2.2.1 ∈ lw_tbl ∧ ((r.2.1 j).1 = ref ∨ Cond.sameField ref (r.2.1 j).1 (r.2.1 j).2.1 (r.2.1 j).2.2.1 ∈ lw_tbl)
set_option maxRecDepth 20000 in
theorem fls_al_39 : Cond.fieldLink RJx4a65c 39 "java/util/ArrayList" "DEFAULTCAPACITY_EMPTY_ELEMENTDATA" "[Ljava/lang/Object;" ∈ lw_tbl := List.mem_append_right _ (List.mem_append_left _ (List.mem_of_getElem? (i := 57) rfl))
set_option maxRecDepth 20000 in
theorem fl_al_9 : FL RJx4a65c 9 0 1 := ⟨_, "java/util/ArrayList", rfl, by decide, List.mem_append_right _ (List.mem_append_left _ (List.mem_of_getElem? (i := 59) rfl)), Or.inl rfl⟩
set_option maxRecDepth 20000 in
theorem fl_al_48 : FL RJx4a65c 48 0 2 := ⟨_, "java/util/ArrayList", rfl, by decide, List.mem_append_right _ (List.mem_append_left _ (List.mem_of_getElem? (i := 60) rfl)), Or.inl rfl⟩
set_option maxRecDepth 20000 in
theorem fl_ab_7 : FL RJxc12de 7 0 0 := ⟨_, "java/util/AbstractList", rfl, by decide, List.mem_append_right _ (List.mem_append_left _ (List.mem_of_getElem? (i := 61) rfl)), Or.inl rfl⟩
set_option maxRecDepth 20000 in
theorem fl_al_63 : FL RJx4a65c 63 0 0 := ⟨_, "java/util/ArrayList", rfl, by decide, List.mem_append_right _ (List.mem_append_left _ (List.mem_of_getElem? (i := 62) rfl)), Or.inr (List.mem_append_right _ (List.mem_append_left _ (List.mem_of_getElem? (i := 63) rfl)))⟩
set_option maxRecDepth 20000 in
theorem fl_hi_12 : FL RX3 12 4 0 := ⟨_, "FieldEditor$History", rfl, by decide, List.mem_append_right _ (List.mem_append_left _ (List.mem_of_getElem? (i := 71) rfl)), Or.inl rfl⟩
set_option maxRecDepth 20000 in
theorem fl_fe_281 : FL RX11 281 4 0 := ⟨_, "FieldEditor$History", rfl, by decide, List.mem_append_right _ (List.mem_append_left _ (List.mem_of_getElem? (i := 72) rfl)), Or.inl rfl⟩
set_option maxRecDepth 20000 in
theorem fl_hi_18 : FL RX3 18 4 1 := ⟨_, "FieldEditor$History", rfl, by decide, List.mem_append_right _ (List.mem_append_left _ (List.mem_of_getElem? (i := 73) rfl)), Or.inl rfl⟩
set_option maxRecDepth 20000 in
theorem fl_fe_288 : FL RX11 288 4 1 := ⟨_, "FieldEditor$History", rfl, by decide, List.mem_append_right _ (List.mem_append_left _ (List.mem_of_getElem? (i := 74) rfl)), Or.inl rfl⟩
set_option maxRecDepth 20000 in
theorem fl_hi_21 : FL RX3 21 4 2 := ⟨_, "FieldEditor$History", rfl, by decide, List.mem_append_right _ (List.mem_append_left _ (List.mem_of_getElem? (i := 75) rfl)), Or.inl rfl⟩
set_option maxRecDepth 20000 in
theorem fl_fe_255 : FL RX11 255 4 2 := ⟨_, "FieldEditor$History", rfl, by decide, List.mem_append_right _ (List.mem_append_left _ (List.mem_of_getElem? (i := 76) rfl)), Or.inl rfl⟩
set_option maxRecDepth 20000 in
theorem fl_re_9 : FL RX6 9 7 0 := ⟨_, "FieldEditor$Reach", rfl, by decide, List.mem_append_right _ (List.mem_append_left _ (List.mem_of_getElem? (i := 90) rfl)), Or.inl rfl⟩
set_option maxRecDepth 20000 in
theorem fl_fe_210 : FL RX11 210 7 0 := ⟨_, "FieldEditor$Reach", rfl, by decide, List.mem_append_right _ (List.mem_append_left _ (List.mem_of_getElem? (i := 91) rfl)), Or.inl rfl⟩
set_option maxRecDepth 20000 in
theorem fl_re_15 : FL RX6 15 7 1 := ⟨_, "FieldEditor$Reach", rfl, by decide, List.mem_append_right _ (List.mem_append_left _ (List.mem_of_getElem? (i := 92) rfl)), Or.inl rfl⟩
set_option maxRecDepth 20000 in
theorem fl_fe_176 : FL RX11 176 7 1 := ⟨_, "FieldEditor$Reach", rfl, by decide, List.mem_append_right _ (List.mem_append_left _ (List.mem_of_getElem? (i := 93) rfl)), Or.inl rfl⟩
set_option maxRecDepth 20000 in
theorem fl_re_18 : FL RX6 18 7 2 := ⟨_, "FieldEditor$Reach", rfl, by decide, List.mem_append_right _ (List.mem_append_left _ (List.mem_of_getElem? (i := 94) rfl)), Or.inl rfl⟩
set_option maxRecDepth 20000 in
theorem fl_fe_209 : FL RX11 209 7 2 := ⟨_, "FieldEditor$Reach", rfl, by decide, List.mem_append_right _ (List.mem_append_left _ (List.mem_of_getElem? (i := 95) rfl)), Or.inl rfl⟩
set_option maxRecDepth 20000 in
theorem fl_pa_9 : FL RX4 9 5 0 := ⟨_, "FieldEditor$Pairs", rfl, by decide, List.mem_append_right _ (List.mem_append_left _ (List.mem_of_getElem? (i := 110) rfl)), Or.inl rfl⟩
set_option maxRecDepth 20000 in
theorem fl_fe_427 : FL RX11 427 5 0 := ⟨_, "FieldEditor$Pairs", rfl, by decide, List.mem_append_right _ (List.mem_append_left _ (List.mem_of_getElem? (i := 111) rfl)), Or.inl rfl⟩
set_option maxRecDepth 20000 in
theorem fl_pa_15 : FL RX4 15 5 1 := ⟨_, "FieldEditor$Pairs", rfl, by decide, List.mem_append_right _ (List.mem_append_left _ (List.mem_of_getElem? (i := 112) rfl)), Or.inl rfl⟩
set_option maxRecDepth 20000 in
theorem fl_fe_430 : FL RX11 430 5 1 := ⟨_, "FieldEditor$Pairs", rfl, by decide, List.mem_append_right _ (List.mem_append_left _ (List.mem_of_getElem? (i := 113) rfl)), Or.inl rfl⟩
set_option maxRecDepth 20000 in
theorem fl_pa_18 : FL RX4 18 5 2 := ⟨_, "FieldEditor$Pairs", rfl, by decide, List.mem_append_right _ (List.mem_append_left _ (List.mem_of_getElem? (i := 114) rfl)), Or.inl rfl⟩
set_option maxRecDepth 20000 in
theorem fl_pa_21 : FL RX4 21 5 3 := ⟨_, "FieldEditor$Pairs", rfl, by decide, List.mem_append_right _ (List.mem_append_left _ (List.mem_of_getElem? (i := 115) rfl)), Or.inl rfl⟩
set_option maxRecDepth 20000 in
theorem fl_fe_426 : FL RX11 426 5 3 := ⟨_, "FieldEditor$Pairs", rfl, by decide, List.mem_append_right _ (List.mem_append_left _ (List.mem_of_getElem? (i := 116) rfl)), Or.inl rfl⟩
set_option maxRecDepth 20000 in
theorem fl_so_9 : FL RX8 9 9 0 := ⟨_, "FieldEditor$Spots", rfl, by decide, List.mem_append_right _ (List.mem_append_left _ (List.mem_of_getElem? (i := 132) rfl)), Or.inl rfl⟩
set_option maxRecDepth 20000 in
theorem fl_fe_395 : FL RX11 395 9 0 := ⟨_, "FieldEditor$Spots", rfl, by decide, List.mem_append_right _ (List.mem_append_left _ (List.mem_of_getElem? (i := 133) rfl)), Or.inl rfl⟩
set_option maxRecDepth 20000 in
theorem fl_so_15 : FL RX8 15 9 1 := ⟨_, "FieldEditor$Spots", rfl, by decide, List.mem_append_right _ (List.mem_append_left _ (List.mem_of_getElem? (i := 134) rfl)), Or.inl rfl⟩
set_option maxRecDepth 20000 in
theorem fl_fe_398 : FL RX11 398 9 1 := ⟨_, "FieldEditor$Spots", rfl, by decide, List.mem_append_right _ (List.mem_append_left _ (List.mem_of_getElem? (i := 135) rfl)), Or.inl rfl⟩
set_option maxRecDepth 20000 in
theorem fl_so_18 : FL RX8 18 9 2 := ⟨_, "FieldEditor$Spots", rfl, by decide, List.mem_append_right _ (List.mem_append_left _ (List.mem_of_getElem? (i := 136) rfl)), Or.inl rfl⟩
set_option maxRecDepth 20000 in
theorem fl_fe_394 : FL RX11 394 9 2 := ⟨_, "FieldEditor$Spots", rfl, by decide, List.mem_append_right _ (List.mem_append_left _ (List.mem_of_getElem? (i := 137) rfl)), Or.inl rfl⟩
set_option maxRecDepth 20000 in
theorem fl_fe_11 : FL RX11 11 12 0 := ⟨_, "FieldEditor", rfl, by decide, List.mem_append_right _ (List.mem_append_left _ (List.mem_of_getElem? (i := 145) rfl)), Or.inl rfl⟩
set_option maxRecDepth 20000 in
theorem fl_fe_72 : FL RX11 72 12 1 := ⟨_, "FieldEditor", rfl, by decide, List.mem_append_right _ (List.mem_append_left _ (List.mem_of_getElem? (i := 146) rfl)), Or.inl rfl⟩
set_option maxRecDepth 20000 in
theorem fl_fe_17 : FL RX11 17 12 2 := ⟨_, "FieldEditor", rfl, by decide, List.mem_append_right _ (List.mem_append_left _ (List.mem_of_getElem? (i := 147) rfl)), Or.inl rfl⟩
set_option maxRecDepth 20000 in
theorem fl_fe_134 : FL RX11 134 12 3 := ⟨_, "FieldEditor", rfl, by decide, List.mem_append_right _ (List.mem_append_left _ (List.mem_of_getElem? (i := 148) rfl)), Or.inl rfl⟩
set_option maxRecDepth 20000 in
theorem fl_fe_23 : FL RX11 23 12 4 := ⟨_, "FieldEditor", rfl, by decide, List.mem_append_right _ (List.mem_append_left _ (List.mem_of_getElem? (i := 149) rfl)), Or.inl rfl⟩
set_option maxRecDepth 20000 in
theorem fl_fe_368 : FL RX11 368 12 5 := ⟨_, "FieldEditor", rfl, by decide, List.mem_append_right _ (List.mem_append_left _ (List.mem_of_getElem? (i := 150) rfl)), Or.inl rfl⟩
set_option maxRecDepth 20000 in
theorem fl_fe_29 : FL RX11 29 12 6 := ⟨_, "FieldEditor", rfl, by decide, List.mem_append_right _ (List.mem_append_left _ (List.mem_of_getElem? (i := 151) rfl)), Or.inl rfl⟩
set_option maxRecDepth 20000 in
theorem fl_fe_298 : FL RX11 298 12 7 := ⟨_, "FieldEditor", rfl, by decide, List.mem_append_right _ (List.mem_append_left _ (List.mem_of_getElem? (i := 152) rfl)), Or.inl rfl⟩
set_option maxRecDepth 20000 in
theorem fl_fe_36 : FL RX11 36 12 8 := ⟨_, "FieldEditor", rfl, by decide, List.mem_append_right _ (List.mem_append_left _ (List.mem_of_getElem? (i := 153) rfl)), Or.inl rfl⟩
set_option maxRecDepth 20000 in
theorem fl_fe_43 : FL RX11 43 12 9 := ⟨_, "FieldEditor", rfl, by decide, List.mem_append_right _ (List.mem_append_left _ (List.mem_of_getElem? (i := 154) rfl)), Or.inl rfl⟩
set_option maxRecDepth 20000 in
theorem fl_fe_50 : FL RX11 50 12 10 := ⟨_, "FieldEditor", rfl, by decide, List.mem_append_right _ (List.mem_append_left _ (List.mem_of_getElem? (i := 155) rfl)), Or.inl rfl⟩
set_option maxRecDepth 20000 in
theorem fl_fe_57 : FL RX11 57 12 11 := ⟨_, "FieldEditor", rfl, by decide, List.mem_append_right _ (List.mem_append_left _ (List.mem_of_getElem? (i := 156) rfl)), Or.inl rfl⟩
set_option maxRecDepth 20000 in
theorem fl_fe_61 : FL RX11 61 12 12 := ⟨_, "FieldEditor", rfl, by decide, List.mem_append_right _ (List.mem_append_left _ (List.mem_of_getElem? (i := 157) rfl)), Or.inl rfl⟩
set_option maxRecDepth 20000 in
theorem fl_fe_64 : FL RX11 64 12 13 := ⟨_, "FieldEditor", rfl, by decide, List.mem_append_right _ (List.mem_append_left _ (List.mem_of_getElem? (i := 158) rfl)), Or.inl rfl⟩
set_option maxRecDepth 20000 in
theorem fl_sh_9 : FL RX7 9 8 0 := ⟨_, "FieldEditor$Shape", rfl, by decide, List.mem_append_right _ (List.mem_append_left _ (List.mem_of_getElem? (i := 203) rfl)), Or.inl rfl⟩
set_option maxRecDepth 20000 in
theorem fl_fe_131 : FL RX11 131 8 0 := ⟨_, "FieldEditor$Shape", rfl, by decide, List.mem_append_right _ (List.mem_append_left _ (List.mem_of_getElem? (i := 204) rfl)), Or.inl rfl⟩
set_option maxRecDepth 20000 in
theorem fl_sh_17 : FL RX7 17 8 1 := ⟨_, "FieldEditor$Shape", rfl, by decide, List.mem_append_right _ (List.mem_append_left _ (List.mem_of_getElem? (i := 205) rfl)), Or.inl rfl⟩
set_option maxRecDepth 20000 in
theorem fl_fe_144 : FL RX11 144 8 1 := ⟨_, "FieldEditor$Shape", rfl, by decide, List.mem_append_right _ (List.mem_append_left _ (List.mem_of_getElem? (i := 206) rfl)), Or.inl rfl⟩
set_option maxRecDepth 20000 in
theorem fl_sh_21 : FL RX7 21 8 2 := ⟨_, "FieldEditor$Shape", rfl, by decide, List.mem_append_right _ (List.mem_append_left _ (List.mem_of_getElem? (i := 207) rfl)), Or.inl rfl⟩
set_option maxRecDepth 20000 in
theorem fl_fe_120 : FL RX11 120 8 2 := ⟨_, "FieldEditor$Shape", rfl, by decide, List.mem_append_right _ (List.mem_append_left _ (List.mem_of_getElem? (i := 208) rfl)), Or.inl rfl⟩
set_option maxRecDepth 20000 in
theorem fl_fe_83 : FL RX11 83 8 3 := ⟨_, "FieldEditor$Shape", rfl, by decide, List.mem_append_right _ (List.mem_append_left _ (List.mem_of_getElem? (i := 209) rfl)), Or.inl rfl⟩
set_option maxRecDepth 20000 in
theorem fl_fd_9 : FL RX1 9 2 0 := ⟨_, "FieldEditor$Field", rfl, by decide, List.mem_append_right _ (List.mem_append_right _ (List.mem_append_left _ (List.mem_of_getElem? (i := 1) rfl))), Or.inl rfl⟩
set_option maxRecDepth 20000 in
theorem fl_fe_109 : FL RX11 109 2 0 := ⟨_, "FieldEditor$Field", rfl, by decide, List.mem_append_right _ (List.mem_append_right _ (List.mem_append_left _ (List.mem_of_getElem? (i := 2) rfl))), Or.inl rfl⟩
set_option maxRecDepth 20000 in
theorem fl_fd_15 : FL RX1 15 2 1 := ⟨_, "FieldEditor$Field", rfl, by decide, List.mem_append_right _ (List.mem_append_right _ (List.mem_append_left _ (List.mem_of_getElem? (i := 3) rfl))), Or.inl rfl⟩
set_option maxRecDepth 20000 in
theorem fl_fe_112 : FL RX11 112 2 1 := ⟨_, "FieldEditor$Field", rfl, by decide, List.mem_append_right _ (List.mem_append_right _ (List.mem_append_left _ (List.mem_of_getElem? (i := 4) rfl))), Or.inl rfl⟩
set_option maxRecDepth 20000 in
theorem fl_fd_18 : FL RX1 18 2 2 := ⟨_, "FieldEditor$Field", rfl, by decide, List.mem_append_right _ (List.mem_append_right _ (List.mem_append_left _ (List.mem_of_getElem? (i := 5) rfl))), Or.inl rfl⟩
set_option maxRecDepth 20000 in
theorem fl_fe_115 : FL RX11 115 2 2 := ⟨_, "FieldEditor$Field", rfl, by decide, List.mem_append_right _ (List.mem_append_right _ (List.mem_append_left _ (List.mem_of_getElem? (i := 6) rfl))), Or.inl rfl⟩
set_option maxRecDepth 20000 in
theorem fl_fd_21 : FL RX1 21 2 3 := ⟨_, "FieldEditor$Field", rfl, by decide, List.mem_append_right _ (List.mem_append_right _ (List.mem_append_left _ (List.mem_of_getElem? (i := 7) rfl))), Or.inl rfl⟩
set_option maxRecDepth 20000 in
theorem fl_fe_191 : FL RX11 191 2 3 := ⟨_, "FieldEditor$Field", rfl, by decide, List.mem_append_right _ (List.mem_append_right _ (List.mem_append_left _ (List.mem_of_getElem? (i := 8) rfl))), Or.inl rfl⟩
set_option maxRecDepth 20000 in
theorem fl_fd_24 : FL RX1 24 2 4 := ⟨_, "FieldEditor$Field", rfl, by decide, List.mem_append_right _ (List.mem_append_right _ (List.mem_append_left _ (List.mem_of_getElem? (i := 9) rfl))), Or.inl rfl⟩
set_option maxRecDepth 20000 in
theorem fl_fe_118 : FL RX11 118 2 4 := ⟨_, "FieldEditor$Field", rfl, by decide, List.mem_append_right _ (List.mem_append_right _ (List.mem_append_left _ (List.mem_of_getElem? (i := 10) rfl))), Or.inl rfl⟩
set_option maxRecDepth 20000 in
theorem fl_th_7 : FL RX9 7 10 0 := ⟨_, "FieldEditor$Thing", rfl, by decide, List.mem_append_right _ (List.mem_append_right _ (List.mem_append_left _ (List.mem_of_getElem? (i := 61) rfl))), Or.inl rfl⟩
set_option maxRecDepth 20000 in
theorem fl_fe_163 : FL RX11 163 10 0 := ⟨_, "FieldEditor$Thing", rfl, by decide, List.mem_append_right _ (List.mem_append_right _ (List.mem_append_left _ (List.mem_of_getElem? (i := 62) rfl))), Or.inl rfl⟩
set_option maxRecDepth 20000 in
theorem fl_th_15 : FL RX9 15 10 1 := ⟨_, "FieldEditor$Thing", rfl, by decide, List.mem_append_right _ (List.mem_append_right _ (List.mem_append_left _ (List.mem_of_getElem? (i := 63) rfl))), Or.inl rfl⟩
set_option maxRecDepth 20000 in
theorem fl_fe_140 : FL RX11 140 10 1 := ⟨_, "FieldEditor$Thing", rfl, by decide, List.mem_append_right _ (List.mem_append_right _ (List.mem_append_left _ (List.mem_of_getElem? (i := 64) rfl))), Or.inl rfl⟩
set_option maxRecDepth 20000 in
theorem fl_ed_7 : FL RX0 7 1 0 := ⟨_, "FieldEditor$Edit", rfl, by decide, List.mem_append_right _ (List.mem_append_right _ (List.mem_append_left _ (List.mem_of_getElem? (i := 201) rfl))), Or.inl rfl⟩
set_option maxRecDepth 20000 in
theorem fl_fe_352 : FL RX11 352 1 0 := ⟨_, "FieldEditor$Edit", rfl, by decide, List.mem_append_right _ (List.mem_append_right _ (List.mem_append_left _ (List.mem_of_getElem? (i := 202) rfl))), Or.inl rfl⟩
set_option maxRecDepth 20000 in
theorem fl_ed_13 : FL RX0 13 1 1 := ⟨_, "FieldEditor$Edit", rfl, by decide, List.mem_append_right _ (List.mem_append_right _ (List.mem_append_left _ (List.mem_of_getElem? (i := 203) rfl))), Or.inl rfl⟩
set_option maxRecDepth 20000 in
theorem fl_fe_355 : FL RX11 355 1 1 := ⟨_, "FieldEditor$Edit", rfl, by decide, List.mem_append_right _ (List.mem_append_right _ (List.mem_append_left _ (List.mem_of_getElem? (i := 204) rfl))), Or.inl rfl⟩
set_option maxRecDepth 20000 in
theorem fl_ed_16 : FL RX0 16 1 2 := ⟨_, "FieldEditor$Edit", rfl, by decide, List.mem_append_right _ (List.mem_append_right _ (List.mem_append_left _ (List.mem_of_getElem? (i := 205) rfl))), Or.inl rfl⟩
set_option maxRecDepth 20000 in
theorem fl_fe_358 : FL RX11 358 1 2 := ⟨_, "FieldEditor$Edit", rfl, by decide, List.mem_append_right _ (List.mem_append_right _ (List.mem_append_left _ (List.mem_of_getElem? (i := 206) rfl))), Or.inl rfl⟩
set_option maxRecDepth 20000 in
theorem fl_ed_20 : FL RX0 20 1 3 := ⟨_, "FieldEditor$Edit", rfl, by decide, List.mem_append_right _ (List.mem_append_right _ (List.mem_append_left _ (List.mem_of_getElem? (i := 207) rfl))), Or.inl rfl⟩
set_option maxRecDepth 20000 in
theorem fl_fe_361 : FL RX11 361 1 3 := ⟨_, "FieldEditor$Edit", rfl, by decide, List.mem_append_right _ (List.mem_append_right _ (List.mem_append_left _ (List.mem_of_getElem? (i := 208) rfl))), Or.inl rfl⟩
set_option maxRecDepth 20000 in
theorem fl_gr_10 : FL RX2 10 3 0 := ⟨_, "FieldEditor$Group", rfl, by decide, List.mem_append_right _ (List.mem_append_right _ (List.mem_append_right _ (List.mem_append_left _ (List.mem_of_getElem? (i := 53) rfl)))), Or.inl rfl⟩
set_option maxRecDepth 20000 in
theorem fl_hi_25 : FL RX3 25 3 0 := ⟨_, "FieldEditor$Group", rfl, by decide, List.mem_append_right _ (List.mem_append_right _ (List.mem_append_right _ (List.mem_append_left _ (List.mem_of_getElem? (i := 54) rfl)))), Or.inl rfl⟩
set_option maxRecDepth 20000 in
theorem fl_fe_262 : FL RX11 262 3 0 := ⟨_, "FieldEditor$Group", rfl, by decide, List.mem_append_right _ (List.mem_append_right _ (List.mem_append_right _ (List.mem_append_left _ (List.mem_of_getElem? (i := 55) rfl)))), Or.inl rfl⟩
set_option maxRecDepth 20000 in
theorem fl_pt_9 : FL RX5 9 6 0 := ⟨_, "FieldEditor$Path", rfl, by decide, List.mem_append_right _ (List.mem_append_right _ (List.mem_append_right _ (List.mem_append_left _ (List.mem_of_getElem? (i := 193) rfl)))), Or.inl rfl⟩
set_option maxRecDepth 20000 in
theorem fl_fe_381 : FL RX11 381 6 0 := ⟨_, "FieldEditor$Path", rfl, by decide, List.mem_append_right _ (List.mem_append_right _ (List.mem_append_right _ (List.mem_append_left _ (List.mem_of_getElem? (i := 194) rfl)))), Or.inl rfl⟩
set_option maxRecDepth 20000 in
theorem fl_pt_15 : FL RX5 15 6 1 := ⟨_, "FieldEditor$Path", rfl, by decide, List.mem_append_right _ (List.mem_append_right _ (List.mem_append_right _ (List.mem_append_left _ (List.mem_of_getElem? (i := 195) rfl)))), Or.inl rfl⟩
set_option maxRecDepth 20000 in
theorem fl_fe_384 : FL RX11 384 6 1 := ⟨_, "FieldEditor$Path", rfl, by decide, List.mem_append_right _ (List.mem_append_right _ (List.mem_append_right _ (List.mem_append_left _ (List.mem_of_getElem? (i := 196) rfl)))), Or.inl rfl⟩
set_option maxRecDepth 20000 in
theorem fl_pt_18 : FL RX5 18 6 2 := ⟨_, "FieldEditor$Path", rfl, by decide, List.mem_append_right _ (List.mem_append_right _ (List.mem_append_right _ (List.mem_append_left _ (List.mem_of_getElem? (i := 197) rfl)))), Or.inl rfl⟩
set_option maxRecDepth 20000 in
theorem fl_fe_378 : FL RX11 378 6 2 := ⟨_, "FieldEditor$Path", rfl, by decide, List.mem_append_right _ (List.mem_append_right _ (List.mem_append_right _ (List.mem_append_left _ (List.mem_of_getElem? (i := 198) rfl)))), Or.inl rfl⟩
set_option maxRecDepth 20000 in
theorem fl_wa_21 : FL RX10 21 11 0 := ⟨_, "FieldEditor$Watch", rfl, by decide, List.mem_append_right _ (List.mem_append_right _ (List.mem_append_right _ (List.mem_append_right _ (List.mem_append_left _ (List.mem_of_getElem? (i := 61) rfl))))), Or.inl rfl⟩
set_option maxRecDepth 20000 in
theorem fl_fe_464 : FL RX11 464 11 0 := ⟨_, "FieldEditor$Watch", rfl, by decide, List.mem_append_right _ (List.mem_append_right _ (List.mem_append_right _ (List.mem_append_right _ (List.mem_append_left _ (List.mem_of_getElem? (i := 62) rfl))))), Or.inl rfl⟩
set_option maxRecDepth 20000 in
theorem fl_wa_25 : FL RX10 25 11 1 := ⟨_, "FieldEditor$Watch", rfl, by decide, List.mem_append_right _ (List.mem_append_right _ (List.mem_append_right _ (List.mem_append_right _ (List.mem_append_left _ (List.mem_of_getElem? (i := 63) rfl))))), Or.inl rfl⟩
set_option maxRecDepth 20000 in
theorem fl_fe_463 : FL RX11 463 11 1 := ⟨_, "FieldEditor$Watch", rfl, by decide, List.mem_append_right _ (List.mem_append_right _ (List.mem_append_right _ (List.mem_append_right _ (List.mem_append_left _ (List.mem_of_getElem? (i := 64) rfl))))), Or.inl rfl⟩
set_option maxRecDepth 20000 in
theorem fl_wa_28 : FL RX10 28 11 2 := ⟨_, "FieldEditor$Watch", rfl, by decide, List.mem_append_right _ (List.mem_append_right _ (List.mem_append_right _ (List.mem_append_right _ (List.mem_append_left _ (List.mem_of_getElem? (i := 65) rfl))))), Or.inl rfl⟩
set_option maxRecDepth 20000 in
theorem fl_fe_301 : FL RX11 301 11 2 := ⟨_, "FieldEditor$Watch", rfl, by decide, List.mem_append_right _ (List.mem_append_right _ (List.mem_append_right _ (List.mem_append_right _ (List.mem_append_left _ (List.mem_of_getElem? (i := 66) rfl))))), Or.inl rfl⟩
set_option maxRecDepth 20000 in
theorem fl_wa_32 : FL RX10 32 11 3 := ⟨_, "FieldEditor$Watch", rfl, by decide, List.mem_append_right _ (List.mem_append_right _ (List.mem_append_right _ (List.mem_append_right _ (List.mem_append_left _ (List.mem_of_getElem? (i := 67) rfl))))), Or.inl rfl⟩
set_option maxRecDepth 20000 in
theorem fl_fe_304 : FL RX11 304 11 3 := ⟨_, "FieldEditor$Watch", rfl, by decide, List.mem_append_right _ (List.mem_append_right _ (List.mem_append_right _ (List.mem_append_right _ (List.mem_append_left _ (List.mem_of_getElem? (i := 68) rfl))))), Or.inl rfl⟩
set_option maxRecDepth 20000 in
theorem fl_wa_9 : FL RX10 9 11 4 := ⟨_, "FieldEditor$Watch", rfl, by decide, List.mem_append_right _ (List.mem_append_right _ (List.mem_append_right _ (List.mem_append_right _ (List.mem_append_left _ (List.mem_of_getElem? (i := 69) rfl))))), Or.inl rfl⟩
set_option maxRecDepth 20000 in
theorem fl_fe_448 : FL RX11 448 11 4 := ⟨_, "FieldEditor$Watch", rfl, by decide, List.mem_append_right _ (List.mem_append_right _ (List.mem_append_right _ (List.mem_append_right _ (List.mem_append_left _ (List.mem_of_getElem? (i := 70) rfl))))), Or.inl rfl⟩
set_option maxRecDepth 20000 in
theorem fl_wa_15 : FL RX10 15 11 5 := ⟨_, "FieldEditor$Watch", rfl, by decide, List.mem_append_right _ (List.mem_append_right _ (List.mem_append_right _ (List.mem_append_right _ (List.mem_append_left _ (List.mem_of_getElem? (i := 71) rfl))))), Or.inl rfl⟩
set_option maxRecDepth 20000 in
theorem fl_fe_449 : FL RX11 449 11 5 := ⟨_, "FieldEditor$Watch", rfl, by decide, List.mem_append_right _ (List.mem_append_right _ (List.mem_append_right _ (List.mem_append_right _ (List.mem_append_left _ (List.mem_of_getElem? (i := 72) rfl))))), Or.inl rfl⟩
set_option maxRecDepth 20000 in
theorem fl_wa_18 : FL RX10 18 11 6 := ⟨_, "FieldEditor$Watch", rfl, by decide, List.mem_append_right _ (List.mem_append_right _ (List.mem_append_right _ (List.mem_append_right _ (List.mem_append_left _ (List.mem_of_getElem? (i := 73) rfl))))), Or.inl rfl⟩
set_option maxRecDepth 20000 in
theorem fl_fe_452 : FL RX11 452 11 6 := ⟨_, "FieldEditor$Watch", rfl, by decide, List.mem_append_right _ (List.mem_append_right _ (List.mem_append_right _ (List.mem_append_right _ (List.mem_append_left _ (List.mem_of_getElem? (i := 74) rfl))))), Or.inl rfl⟩
set_option maxRecDepth 20000 in
theorem fl_wa_35 : FL RX10 35 11 7 := ⟨_, "FieldEditor$Watch", rfl, by decide, List.mem_append_right _ (List.mem_append_right _ (List.mem_append_right _ (List.mem_append_right _ (List.mem_append_left _ (List.mem_of_getElem? (i := 75) rfl))))), Or.inl rfl⟩
set_option maxRecDepth 20000 in
theorem fl_fe_447 : FL RX11 447 11 7 := ⟨_, "FieldEditor$Watch", rfl, by decide, List.mem_append_right _ (List.mem_append_right _ (List.mem_append_right _ (List.mem_append_right _ (List.mem_append_left _ (List.mem_of_getElem? (i := 76) rfl))))), Or.inl rfl⟩
set_option maxRecDepth 20000 in
theorem fl_md_110 : FL RX12 110 13 0 := ⟨_, "FieldEditorModel", rfl, by decide, List.mem_append_right _ (List.mem_append_right _ (List.mem_append_right _ (List.mem_append_right _ (List.mem_append_left _ (List.mem_of_getElem? (i := 122) rfl))))), Or.inl rfl⟩
set_option maxRecDepth 20000 in
theorem fl_md_7 : FL RX12 7 13 1 := ⟨_, "FieldEditorModel", rfl, by decide, List.mem_append_right _ (List.mem_append_right _ (List.mem_append_right _ (List.mem_append_right _ (List.mem_append_left _ (List.mem_of_getElem? (i := 123) rfl))))), Or.inl rfl⟩
set_option maxRecDepth 20000 in
theorem fl_md_13 : FL RX12 13 13 2 := ⟨_, "FieldEditorModel", rfl, by decide, List.mem_append_right _ (List.mem_append_right _ (List.mem_append_right _ (List.mem_append_right _ (List.mem_append_left _ (List.mem_of_getElem? (i := 124) rfl))))), Or.inl rfl⟩
set_option maxRecDepth 20000 in
theorem fl_md_16 : FL RX12 16 13 3 := ⟨_, "FieldEditorModel", rfl, by decide, List.mem_append_right _ (List.mem_append_right _ (List.mem_append_right _ (List.mem_append_right _ (List.mem_append_left _ (List.mem_of_getElem? (i := 125) rfl))))), Or.inl rfl⟩
set_option maxRecDepth 20000 in
theorem fl_md_19 : FL RX12 19 13 4 := ⟨_, "FieldEditorModel", rfl, by decide, List.mem_append_right _ (List.mem_append_right _ (List.mem_append_right _ (List.mem_append_right _ (List.mem_append_left _ (List.mem_of_getElem? (i := 126) rfl))))), Or.inl rfl⟩
set_option maxRecDepth 20000 in
theorem fl_md_22 : FL RX12 22 13 5 := ⟨_, "FieldEditorModel", rfl, by decide, List.mem_append_right _ (List.mem_append_right _ (List.mem_append_right _ (List.mem_append_right _ (List.mem_append_left _ (List.mem_of_getElem? (i := 127) rfl))))), Or.inl rfl⟩
set_option maxRecDepth 20000 in
theorem fl_md_25 : FL RX12 25 13 6 := ⟨_, "FieldEditorModel", rfl, by decide, List.mem_append_right _ (List.mem_append_right _ (List.mem_append_right _ (List.mem_append_right _ (List.mem_append_left _ (List.mem_of_getElem? (i := 128) rfl))))), Or.inl rfl⟩
set_option maxRecDepth 20000 in
theorem fl_md_28 : FL RX12 28 13 7 := ⟨_, "FieldEditorModel", rfl, by decide, List.mem_append_right _ (List.mem_append_right _ (List.mem_append_right _ (List.mem_append_right _ (List.mem_append_left _ (List.mem_of_getElem? (i := 129) rfl))))), Or.inl rfl⟩
set_option maxRecDepth 20000 in
theorem fl_md_122 : FL RX12 122 13 8 := ⟨_, "FieldEditorModel", rfl, by decide, List.mem_append_right _ (List.mem_append_right _ (List.mem_append_right _ (List.mem_append_right _ (List.mem_append_left _ (List.mem_of_getElem? (i := 130) rfl))))), Or.inl rfl⟩
set_option maxRecDepth 20000 in
theorem fl_md_31 : FL RX12 31 13 9 := ⟨_, "FieldEditorModel", rfl, by decide, List.mem_append_right _ (List.mem_append_right _ (List.mem_append_right _ (List.mem_append_right _ (List.mem_append_left _ (List.mem_of_getElem? (i := 131) rfl))))), Or.inl rfl⟩
set_option maxRecDepth 20000 in
theorem fl_md_34 : FL RX12 34 13 10 := ⟨_, "FieldEditorModel", rfl, by decide, List.mem_append_right _ (List.mem_append_right _ (List.mem_append_right _ (List.mem_append_right _ (List.mem_append_left _ (List.mem_of_getElem? (i := 132) rfl))))), Or.inl rfl⟩
set_option maxRecDepth 20000 in
theorem fl_md_37 : FL RX12 37 13 11 := ⟨_, "FieldEditorModel", rfl, by decide, List.mem_append_right _ (List.mem_append_right _ (List.mem_append_right _ (List.mem_append_right _ (List.mem_append_left _ (List.mem_of_getElem? (i := 133) rfl))))), Or.inl rfl⟩
set_option maxRecDepth 20000 in
theorem fl_md_40 : FL RX12 40 13 12 := ⟨_, "FieldEditorModel", rfl, by decide, List.mem_append_right _ (List.mem_append_right _ (List.mem_append_right _ (List.mem_append_right _ (List.mem_append_left _ (List.mem_of_getElem? (i := 134) rfl))))), Or.inl rfl⟩
set_option maxRecDepth 20000 in
theorem fl_md_43 : FL RX12 43 13 13 := ⟨_, "FieldEditorModel", rfl, by decide, List.mem_append_right _ (List.mem_append_right _ (List.mem_append_right _ (List.mem_append_right _ (List.mem_append_left _ (List.mem_of_getElem? (i := 135) rfl))))), Or.inl rfl⟩
set_option maxRecDepth 20000 in
theorem fl_md_46 : FL RX12 46 13 14 := ⟨_, "FieldEditorModel", rfl, by decide, List.mem_append_right _ (List.mem_append_right _ (List.mem_append_right _ (List.mem_append_right _ (List.mem_append_left _ (List.mem_of_getElem? (i := 136) rfl))))), Or.inl rfl⟩
set_option maxRecDepth 20000 in
theorem fl_md_175 : FL RX12 175 13 15 := ⟨_, "FieldEditorModel", rfl, by decide, List.mem_append_right _ (List.mem_append_right _ (List.mem_append_right _ (List.mem_append_right _ (List.mem_append_left _ (List.mem_of_getElem? (i := 137) rfl))))), Or.inl rfl⟩
set_option maxRecDepth 20000 in
theorem fl_md_204 : FL RX12 204 13 16 := ⟨_, "FieldEditorModel", rfl, by decide, List.mem_append_right _ (List.mem_append_right _ (List.mem_append_right _ (List.mem_append_right _ (List.mem_append_left _ (List.mem_of_getElem? (i := 138) rfl))))), Or.inl rfl⟩
set_option maxRecDepth 20000 in
theorem fl_md_49 : FL RX12 49 13 17 := ⟨_, "FieldEditorModel", rfl, by decide, List.mem_append_right _ (List.mem_append_right _ (List.mem_append_right _ (List.mem_append_right _ (List.mem_append_left _ (List.mem_of_getElem? (i := 139) rfl))))), Or.inl rfl⟩
set_option maxRecDepth 20000 in
theorem fl_md_52 : FL RX12 52 13 18 := ⟨_, "FieldEditorModel", rfl, by decide, List.mem_append_right _ (List.mem_append_right _ (List.mem_append_right _ (List.mem_append_right _ (List.mem_append_left _ (List.mem_of_getElem? (i := 140) rfl))))), Or.inl rfl⟩
set_option maxRecDepth 20000 in
theorem fl_md_55 : FL RX12 55 13 19 := ⟨_, "FieldEditorModel", rfl, by decide, List.mem_append_right _ (List.mem_append_right _ (List.mem_append_right _ (List.mem_append_right _ (List.mem_append_left _ (List.mem_of_getElem? (i := 141) rfl))))), Or.inl rfl⟩
set_option maxRecDepth 20000 in
theorem fl_md_197 : FL RX12 197 13 20 := ⟨_, "FieldEditorModel", rfl, by decide, List.mem_append_right _ (List.mem_append_right _ (List.mem_append_right _ (List.mem_append_right _ (List.mem_append_left _ (List.mem_of_getElem? (i := 142) rfl))))), Or.inl rfl⟩
set_option maxRecDepth 20000 in
theorem fl_md_194 : FL RX12 194 13 21 := ⟨_, "FieldEditorModel", rfl, by decide, List.mem_append_right _ (List.mem_append_right _ (List.mem_append_right _ (List.mem_append_right _ (List.mem_append_left _ (List.mem_of_getElem? (i := 143) rfl))))), Or.inl rfl⟩
set_option maxRecDepth 20000 in
theorem fl_md_58 : FL RX12 58 13 22 := ⟨_, "FieldEditorModel", rfl, by decide, List.mem_append_right _ (List.mem_append_right _ (List.mem_append_right _ (List.mem_append_right _ (List.mem_append_left _ (List.mem_of_getElem? (i := 144) rfl))))), Or.inl rfl⟩
set_option maxRecDepth 20000 in
theorem fl_md_214 : FL RX12 214 13 23 := ⟨_, "FieldEditorModel", rfl, by decide, List.mem_append_right _ (List.mem_append_right _ (List.mem_append_right _ (List.mem_append_right _ (List.mem_append_left _ (List.mem_of_getElem? (i := 145) rfl))))), Or.inl rfl⟩
set_option maxRecDepth 20000 in
theorem fl_md_244 : FL RX12 244 13 24 := ⟨_, "FieldEditorModel", rfl, by decide, List.mem_append_right _ (List.mem_append_right _ (List.mem_append_right _ (List.mem_append_right _ (List.mem_append_left _ (List.mem_of_getElem? (i := 146) rfl))))), Or.inl rfl⟩
set_option maxRecDepth 20000 in
theorem fl_md_188 : FL RX12 188 13 25 := ⟨_, "FieldEditorModel", rfl, by decide, List.mem_append_right _ (List.mem_append_right _ (List.mem_append_right _ (List.mem_append_right _ (List.mem_append_left _ (List.mem_of_getElem? (i := 147) rfl))))), Or.inl rfl⟩
set_option maxRecDepth 20000 in
theorem fl_md_61 : FL RX12 61 13 26 := ⟨_, "FieldEditorModel", rfl, by decide, List.mem_append_right _ (List.mem_append_right _ (List.mem_append_right _ (List.mem_append_right _ (List.mem_append_left _ (List.mem_of_getElem? (i := 148) rfl))))), Or.inl rfl⟩
set_option maxRecDepth 20000 in
theorem fl_md_64 : FL RX12 64 13 27 := ⟨_, "FieldEditorModel", rfl, by decide, List.mem_append_right _ (List.mem_append_right _ (List.mem_append_right _ (List.mem_append_right _ (List.mem_append_left _ (List.mem_of_getElem? (i := 149) rfl))))), Or.inl rfl⟩
set_option maxRecDepth 20000 in
theorem fl_md_67 : FL RX12 67 13 28 := ⟨_, "FieldEditorModel", rfl, by decide, List.mem_append_right _ (List.mem_append_right _ (List.mem_append_right _ (List.mem_append_right _ (List.mem_append_left _ (List.mem_of_getElem? (i := 150) rfl))))), Or.inl rfl⟩
set_option maxRecDepth 20000 in
theorem fl_md_71 : FL RX12 71 13 29 := ⟨_, "FieldEditorModel", rfl, by decide, List.mem_append_right _ (List.mem_append_right _ (List.mem_append_right _ (List.mem_append_right _ (List.mem_append_left _ (List.mem_of_getElem? (i := 151) rfl))))), Or.inl rfl⟩
set_option maxRecDepth 20000 in
theorem fl_md_74 : FL RX12 74 13 30 := ⟨_, "FieldEditorModel", rfl, by decide, List.mem_append_right _ (List.mem_append_right _ (List.mem_append_right _ (List.mem_append_right _ (List.mem_append_left _ (List.mem_of_getElem? (i := 152) rfl))))), Or.inl rfl⟩
set_option maxRecDepth 20000 in
theorem fl_md_77 : FL RX12 77 13 31 := ⟨_, "FieldEditorModel", rfl, by decide, List.mem_append_right _ (List.mem_append_right _ (List.mem_append_right _ (List.mem_append_right _ (List.mem_append_left _ (List.mem_of_getElem? (i := 153) rfl))))), Or.inl rfl⟩
set_option maxRecDepth 20000 in
theorem fl_md_80 : FL RX12 80 13 32 := ⟨_, "FieldEditorModel", rfl, by decide, List.mem_append_right _ (List.mem_append_right _ (List.mem_append_right _ (List.mem_append_right _ (List.mem_append_left _ (List.mem_of_getElem? (i := 154) rfl))))), Or.inl rfl⟩
set_option maxRecDepth 20000 in
theorem fl_md_257 : FL RX12 257 13 33 := ⟨_, "FieldEditorModel", rfl, by decide, List.mem_append_right _ (List.mem_append_right _ (List.mem_append_right _ (List.mem_append_right _ (List.mem_append_left _ (List.mem_of_getElem? (i := 155) rfl))))), Or.inl rfl⟩
set_option maxRecDepth 20000 in
theorem fl_md_83 : FL RX12 83 13 34 := ⟨_, "FieldEditorModel", rfl, by decide, List.mem_append_right _ (List.mem_append_right _ (List.mem_append_right _ (List.mem_append_right _ (List.mem_append_left _ (List.mem_of_getElem? (i := 156) rfl))))), Or.inl rfl⟩
set_option maxRecDepth 20000 in
theorem fl_md_86 : FL RX12 86 13 35 := ⟨_, "FieldEditorModel", rfl, by decide, List.mem_append_right _ (List.mem_append_right _ (List.mem_append_right _ (List.mem_append_right _ (List.mem_append_left _ (List.mem_of_getElem? (i := 157) rfl))))), Or.inl rfl⟩
set_option maxRecDepth 20000 in
theorem fl_md_89 : FL RX12 89 13 36 := ⟨_, "FieldEditorModel", rfl, by decide, List.mem_append_right _ (List.mem_append_right _ (List.mem_append_right _ (List.mem_append_right _ (List.mem_append_left _ (List.mem_of_getElem? (i := 158) rfl))))), Or.inl rfl⟩
set_option maxRecDepth 20000 in
theorem fl_md_269 : FL RX12 269 13 37 := ⟨_, "FieldEditorModel", rfl, by decide, List.mem_append_right _ (List.mem_append_right _ (List.mem_append_right _ (List.mem_append_right _ (List.mem_append_left _ (List.mem_of_getElem? (i := 159) rfl))))), Or.inl rfl⟩
set_option maxRecDepth 20000 in
theorem fl_md_92 : FL RX12 92 13 38 := ⟨_, "FieldEditorModel", rfl, by decide, List.mem_append_right _ (List.mem_append_right _ (List.mem_append_right _ (List.mem_append_right _ (List.mem_append_left _ (List.mem_of_getElem? (i := 160) rfl))))), Or.inl rfl⟩
set_option maxRecDepth 20000 in
theorem fl_md_95 : FL RX12 95 13 39 := ⟨_, "FieldEditorModel", rfl, by decide, List.mem_append_right _ (List.mem_append_right _ (List.mem_append_right _ (List.mem_append_right _ (List.mem_append_left _ (List.mem_of_getElem? (i := 161) rfl))))), Or.inl rfl⟩
set_option maxRecDepth 20000 in
theorem fl_md_263 : FL RX12 263 13 40 := ⟨_, "FieldEditorModel", rfl, by decide, List.mem_append_right _ (List.mem_append_right _ (List.mem_append_right _ (List.mem_append_right _ (List.mem_append_left _ (List.mem_of_getElem? (i := 162) rfl))))), Or.inl rfl⟩
set_option maxRecDepth 20000 in
theorem fl_md_98 : FL RX12 98 13 41 := ⟨_, "FieldEditorModel", rfl, by decide, List.mem_append_right _ (List.mem_append_right _ (List.mem_append_right _ (List.mem_append_right _ (List.mem_append_left _ (List.mem_of_getElem? (i := 163) rfl))))), Or.inl rfl⟩
set_option maxRecDepth 20000 in
theorem fl_md_101 : FL RX12 101 13 42 := ⟨_, "FieldEditorModel", rfl, by decide, List.mem_append_right _ (List.mem_append_right _ (List.mem_append_right _ (List.mem_append_right _ (List.mem_append_left _ (List.mem_of_getElem? (i := 164) rfl))))), Or.inl rfl⟩
set_option maxRecDepth 20000 in
theorem fl_md_104 : FL RX12 104 13 43 := ⟨_, "FieldEditorModel", rfl, by decide, List.mem_append_right _ (List.mem_append_right _ (List.mem_append_right _ (List.mem_append_right _ (List.mem_append_left _ (List.mem_of_getElem? (i := 165) rfl))))), Or.inl rfl⟩
set_option maxRecDepth 20000 in
theorem fl_md_107 : FL RX12 107 13 44 := ⟨_, "FieldEditorModel", rfl, by decide, List.mem_append_right _ (List.mem_append_right _ (List.mem_append_right _ (List.mem_append_right _ (List.mem_append_left _ (List.mem_of_getElem? (i := 166) rfl))))), Or.inl rfl⟩
set_option maxRecDepth 20000 in
theorem fl_md_289 : FL RX12 289 13 45 := ⟨_, "FieldEditorModel", rfl, by decide, List.mem_append_right _ (List.mem_append_right _ (List.mem_append_right _ (List.mem_append_right _ (List.mem_append_left _ (List.mem_of_getElem? (i := 167) rfl))))), Or.inl rfl⟩
/-- what is known of a method: its code, its class, how many arguments beside the receiver -/
def MD (y : MethodName) (cc : ByteArray) (mx : Nat) (ret : Option FieldType) (n : Nat) : Prop := Cond.code y cc mx ret ∈ lw_tbl ∧ Cond.initialized y.cls ∈ lw_tbl ∧ plainName y.cls = true ∧ (y.cls ≠ "java/lang/invoke/MethodHandle" ∧ y.cls ≠ "java/lang/invoke/VarHandle" ∧ (parseMethodDescriptor y.desc).map (fun d => d.parameters.length) = some n)
set_option maxRecDepth 20000 in
theorem mdf_ed_init : MD yX0_init cX0_init 5 (none) 4 := ⟨List.mem_append_right _ (List.mem_append_right _ (List.mem_append_left _ (List.mem_of_getElem? (i := 199) rfl))), List.mem_append_right _ (List.mem_append_left _ (List.mem_of_getElem? (i := 14) rfl)), by decide, by decide +kernel⟩
set_option maxRecDepth 20000 in
theorem mdf_fd_init : MD yX1_init cX1_init 6 (none) 5 := ⟨List.mem_append_right _ (List.mem_append_left _ (List.mem_of_getElem? (i := 239) rfl)), List.mem_append_right _ (List.mem_append_left _ (List.mem_of_getElem? (i := 11) rfl)), by decide, by decide +kernel⟩
set_option maxRecDepth 20000 in
theorem mdf_fd_has : MD yX1_has cX1_has 2 ((some FieldType.boolean)) 1 := ⟨List.mem_append_right _ (List.mem_append_right _ (List.mem_append_left _ (List.mem_of_getElem? (i := 156) rfl))), List.mem_append_right _ (List.mem_append_left _ (List.mem_of_getElem? (i := 11) rfl)), by decide, by decide +kernel⟩
set_option maxRecDepth 20000 in
theorem mdf_fd_isNumeric : MD yX1_isNumeric cX1_isNumeric 1 ((some FieldType.boolean)) 0 := ⟨List.mem_append_right _ (List.mem_append_right _ (List.mem_append_left _ (List.mem_of_getElem? (i := 45) rfl))), List.mem_append_right _ (List.mem_append_left _ (List.mem_of_getElem? (i := 11) rfl)), by decide, by decide +kernel⟩
set_option maxRecDepth 20000 in
theorem mdf_fd_leads : MD yX1_leads cX1_leads 1 ((some FieldType.boolean)) 0 := ⟨List.mem_append_right _ (List.mem_append_right _ (List.mem_append_left _ (List.mem_of_getElem? (i := 128) rfl))), List.mem_append_right _ (List.mem_append_left _ (List.mem_of_getElem? (i := 11) rfl)), by decide, by decide +kernel⟩
set_option maxRecDepth 20000 in
theorem mdf_fd_holdsOn : MD yX1_holdsOn cX1_holdsOn 1 ((some FieldType.boolean)) 0 := ⟨List.mem_append_right _ (List.mem_append_right _ (List.mem_append_left _ (List.mem_of_getElem? (i := 151) rfl))), List.mem_append_right _ (List.mem_append_left _ (List.mem_of_getElem? (i := 11) rfl)), by decide, by decide +kernel⟩
set_option maxRecDepth 20000 in
theorem mdf_fd_firstRow : MD yX1_firstRow cX1_firstRow 1 ((some (FieldType.array FieldType.int))) 0 := ⟨List.mem_append_right _ (List.mem_append_right _ (List.mem_append_left _ (List.mem_of_getElem? (i := 73) rfl))), List.mem_append_right _ (List.mem_append_left _ (List.mem_of_getElem? (i := 11) rfl)), by decide, by decide +kernel⟩
set_option maxRecDepth 20000 in
theorem mdf_fd_plainValue : MD yX1_plainValue cX1_plainValue 2 ((some FieldType.int)) 1 := ⟨List.mem_append_right _ (List.mem_append_right _ (List.mem_append_left _ (List.mem_of_getElem? (i := 94) rfl))), List.mem_append_right _ (List.mem_append_left _ (List.mem_of_getElem? (i := 11) rfl)), by decide, by decide +kernel⟩
set_option maxRecDepth 20000 in
theorem mdf_gr_init : MD yX2_init cX2_init 1 (none) 0 := ⟨List.mem_append_right _ (List.mem_append_right _ (List.mem_append_right _ (List.mem_append_left _ (List.mem_of_getElem? (i := 49) rfl)))), List.mem_append_right _ (List.mem_append_left _ (List.mem_of_getElem? (i := 18) rfl)), by decide, by decide +kernel⟩
set_option maxRecDepth 20000 in
theorem mdf_hi_init : MD yX3_init cX3_init 1 (none) 0 := ⟨List.mem_append_right _ (List.mem_append_left _ (List.mem_of_getElem? (i := 43) rfl)), List.mem_append_right _ (List.mem_append_left _ (List.mem_of_getElem? (i := 2) rfl)), by decide, by decide +kernel⟩
set_option maxRecDepth 20000 in
theorem mdf_hi_hasRoom : MD yX3_hasRoom cX3_hasRoom 1 ((some FieldType.boolean)) 0 := ⟨List.mem_append_right _ (List.mem_append_right _ (List.mem_append_left _ (List.mem_of_getElem? (i := 190) rfl))), List.mem_append_right _ (List.mem_append_left _ (List.mem_of_getElem? (i := 2) rfl)), by decide, by decide +kernel⟩
set_option maxRecDepth 20000 in
theorem mdf_hi_keep : MD yX3_keep cX3_keep 3 (none) 1 := ⟨List.mem_append_right _ (List.mem_append_right _ (List.mem_append_left _ (List.mem_of_getElem? (i := 221) rfl))), List.mem_append_right _ (List.mem_append_left _ (List.mem_of_getElem? (i := 2) rfl)), by decide, by decide +kernel⟩
set_option maxRecDepth 20000 in
theorem mdf_hi_push : MD yX3_push cX3_push 2 (none) 1 := ⟨List.mem_append_right _ (List.mem_append_right _ (List.mem_append_right _ (List.mem_append_left _ (List.mem_of_getElem? (i := 62) rfl)))), List.mem_append_right _ (List.mem_append_left _ (List.mem_of_getElem? (i := 2) rfl)), by decide, by decide +kernel⟩
set_option maxRecDepth 20000 in
theorem mdf_pa_init : MD yX4_init cX4_init 1 (none) 0 := ⟨List.mem_append_right _ (List.mem_append_left _ (List.mem_of_getElem? (i := 108) rfl)), List.mem_append_right _ (List.mem_append_left _ (List.mem_of_getElem? (i := 7) rfl)), by decide, by decide +kernel⟩
set_option maxRecDepth 20000 in
theorem mdf_pa_start : MD yX4_start cX4_start 2 (none) 0 := ⟨List.mem_append_right _ (List.mem_append_right _ (List.mem_append_right _ (List.mem_append_right _ (List.mem_append_left _ (List.mem_of_getElem? (i := 39) rfl))))), List.mem_append_right _ (List.mem_append_left _ (List.mem_of_getElem? (i := 7) rfl)), by decide, by decide +kernel⟩
set_option maxRecDepth 20000 in
theorem mdf_pa_join : MD yX4_join cX4_join 6 (none) 2 := ⟨List.mem_append_right _ (List.mem_append_right _ (List.mem_append_right _ (List.mem_append_right _ (List.mem_append_left _ (List.mem_of_getElem? (i := 43) rfl))))), List.mem_append_right _ (List.mem_append_left _ (List.mem_of_getElem? (i := 7) rfl)), by decide, by decide +kernel⟩
set_option maxRecDepth 20000 in
theorem mdf_pt_init : MD yX5_init cX5_init 1 (none) 0 := ⟨List.mem_append_right _ (List.mem_append_right _ (List.mem_append_right _ (List.mem_append_left _ (List.mem_of_getElem? (i := 191) rfl)))), List.mem_append_right _ (List.mem_append_left _ (List.mem_of_getElem? (i := 21) rfl)), by decide, by decide +kernel⟩
set_option maxRecDepth 20000 in
theorem mdf_pt_append : MD yX5_append cX5_append 3 ((some FieldType.int)) 2 := ⟨List.mem_append_right _ (List.mem_append_right _ (List.mem_append_right _ (List.mem_append_left _ (List.mem_of_getElem? (i := 221) rfl)))), List.mem_append_right _ (List.mem_append_left _ (List.mem_of_getElem? (i := 21) rfl)), by decide, by decide +kernel⟩
set_option maxRecDepth 20000 in
theorem mdf_re_init : MD yX6_init cX6_init 1 (none) 0 := ⟨List.mem_append_right _ (List.mem_append_left _ (List.mem_of_getElem? (i := 88) rfl)), List.mem_append_right _ (List.mem_append_left _ (List.mem_of_getElem? (i := 6) rfl)), by decide, by decide +kernel⟩
set_option maxRecDepth 20000 in
theorem mdf_re_start : MD yX6_start cX6_start 3 (none) 1 := ⟨List.mem_append_right _ (List.mem_append_right _ (List.mem_append_left _ (List.mem_of_getElem? (i := 143) rfl))), List.mem_append_right _ (List.mem_append_left _ (List.mem_of_getElem? (i := 6) rfl)), by decide, by decide +kernel⟩
set_option maxRecDepth 20000 in
theorem mdf_re_addAll : MD yX6_addAll cX6_addAll 6 (none) 1 := ⟨List.mem_append_right _ (List.mem_append_right _ (List.mem_append_left _ (List.mem_of_getElem? (i := 160) rfl))), List.mem_append_right _ (List.mem_append_left _ (List.mem_of_getElem? (i := 6) rfl)), by decide, by decide +kernel⟩
set_option maxRecDepth 20000 in
theorem mdf_re_add : MD yX6_add cX6_add 2 (none) 1 := ⟨List.mem_append_right _ (List.mem_append_right _ (List.mem_append_left _ (List.mem_of_getElem? (i := 147) rfl))), List.mem_append_right _ (List.mem_append_left _ (List.mem_of_getElem? (i := 6) rfl)), by decide, by decide +kernel⟩
set_option maxRecDepth 20000 in
theorem mdf_sh_init : MD yX7_init cX7_init 2 (none) 1 := ⟨List.mem_append_right _ (List.mem_append_left _ (List.mem_of_getElem? (i := 199) rfl)), List.mem_append_right _ (List.mem_append_left _ (List.mem_of_getElem? (i := 10) rfl)), by decide, by decide +kernel⟩
set_option maxRecDepth 20000 in
theorem mdf_sh_inherit : MD yX7_inherit cX7_inherit 3 (none) 1 := ⟨List.mem_append_right _ (List.mem_append_left _ (List.mem_of_getElem? (i := 222) rfl)), List.mem_append_right _ (List.mem_append_left _ (List.mem_of_getElem? (i := 10) rfl)), by decide, by decide +kernel⟩
set_option maxRecDepth 20000 in
theorem mdf_sh_append : MD yX7_append cX7_append 2 ((some FieldType.int)) 1 := ⟨List.mem_append_right _ (List.mem_append_left _ (List.mem_of_getElem? (i := 226) rfl)), List.mem_append_right _ (List.mem_append_left _ (List.mem_of_getElem? (i := 10) rfl)), by decide, by decide +kernel⟩
set_option maxRecDepth 20000 in
theorem mdf_sh_fieldAt : MD yX7_fieldAt cX7_fieldAt 2 ((some (FieldType.object "FieldEditor$Field"))) 1 := ⟨List.mem_append_right _ (List.mem_append_right _ (List.mem_append_left _ (List.mem_of_getElem? (i := 41) rfl))), List.mem_append_right _ (List.mem_append_left _ (List.mem_of_getElem? (i := 10) rfl)), by decide, by decide +kernel⟩
set_option maxRecDepth 20000 in
theorem mdf_so_init : MD yX8_init cX8_init 1 (none) 0 := ⟨List.mem_append_right _ (List.mem_append_left _ (List.mem_of_getElem? (i := 130) rfl)), List.mem_append_right _ (List.mem_append_left _ (List.mem_of_getElem? (i := 8) rfl)), by decide, by decide +kernel⟩
set_option maxRecDepth 20000 in
theorem mdf_so_add : MD yX8_add cX8_add 3 (none) 2 := ⟨List.mem_append_right _ (List.mem_append_right _ (List.mem_append_right _ (List.mem_append_right _ (List.mem_append_left _ (List.mem_of_getElem? (i := 4) rfl))))), List.mem_append_right _ (List.mem_append_left _ (List.mem_of_getElem? (i := 8) rfl)), by decide, by decide +kernel⟩
set_option maxRecDepth 20000 in
theorem mdf_th_init : MD yX9_init cX9_init 3 (none) 2 := ⟨List.mem_append_right _ (List.mem_append_right _ (List.mem_append_left _ (List.mem_of_getElem? (i := 57) rfl))), List.mem_append_right _ (List.mem_append_left _ (List.mem_of_getElem? (i := 12) rfl)), by decide, by decide +kernel⟩
set_option maxRecDepth 20000 in
theorem mdf_wa_init : MD yX10_init cX10_init 5 (none) 4 := ⟨List.mem_append_right _ (List.mem_append_right _ (List.mem_append_right _ (List.mem_append_right _ (List.mem_append_left _ (List.mem_of_getElem? (i := 59) rfl))))), List.mem_append_right _ (List.mem_append_left _ (List.mem_of_getElem? (i := 22) rfl)), by decide, by decide +kernel⟩
set_option maxRecDepth 20000 in
theorem mdf_wa_write : MD yX10_write cX10_write 4 (none) 3 := ⟨List.mem_append_right _ (List.mem_append_right _ (List.mem_append_right _ (List.mem_append_left _ (List.mem_of_getElem? (i := 85) rfl)))), List.mem_append_right _ (List.mem_append_left _ (List.mem_of_getElem? (i := 22) rfl)), by decide, by decide +kernel⟩
set_option maxRecDepth 20000 in
theorem mdf_fe_init : MD yX11_init cX11_init 1 (none) 0 := ⟨List.mem_append_right _ (List.mem_append_left _ (List.mem_of_getElem? (i := 27) rfl)), List.mem_append_right _ (List.mem_append_left _ (List.mem_of_getElem? (i := 1) rfl)), by decide, by decide +kernel⟩
set_option maxRecDepth 20000 in
theorem mdf_fe_shape : MD yX11_shape cX11_shape 3 ((some FieldType.int)) 1 := ⟨List.mem_append_right _ (List.mem_append_left _ (List.mem_of_getElem? (i := 191) rfl)), List.mem_append_right _ (List.mem_append_left _ (List.mem_of_getElem? (i := 1) rfl)), by decide, by decide +kernel⟩
set_option maxRecDepth 20000 in
theorem mdf_fe_number : MD yX11_number cX11_number 6 ((some FieldType.int)) 5 := ⟨List.mem_append_right _ (List.mem_append_left _ (List.mem_of_getElem? (i := 230) rfl)), List.mem_append_right _ (List.mem_append_left _ (List.mem_of_getElem? (i := 1) rfl)), by decide, by decide +kernel⟩
set_option maxRecDepth 20000 in
theorem mdf_fe_link : MD yX11_link cX11_link 7 ((some FieldType.int)) 6 := ⟨List.mem_append_right _ (List.mem_append_right _ (List.mem_append_left _ (List.mem_of_getElem? (i := 29) rfl))), List.mem_append_right _ (List.mem_append_left _ (List.mem_of_getElem? (i := 1) rfl)), by decide, by decide +kernel⟩
set_option maxRecDepth 20000 in
theorem mdf_fe_derived : MD yX11_derived cX11_derived 5 ((some FieldType.int)) 4 := ⟨List.mem_append_right _ (List.mem_append_right _ (List.mem_append_left _ (List.mem_of_getElem? (i := 33) rfl))), List.mem_append_right _ (List.mem_append_left _ (List.mem_of_getElem? (i := 1) rfl)), by decide, by decide +kernel⟩
set_option maxRecDepth 20000 in
theorem mdf_fe_told : MD yX11_told cX11_told 5 ((some FieldType.int)) 3 := ⟨List.mem_append_right _ (List.mem_append_right _ (List.mem_append_left _ (List.mem_of_getElem? (i := 49) rfl))), List.mem_append_right _ (List.mem_append_left _ (List.mem_of_getElem? (i := 1) rfl)), by decide, by decide +kernel⟩
set_option maxRecDepth 20000 in
theorem mdf_fe_isShape : MD yX11_isShape cX11_isShape 2 ((some FieldType.boolean)) 1 := ⟨List.mem_append_right _ (List.mem_append_left _ (List.mem_of_getElem? (i := 195) rfl)), List.mem_append_right _ (List.mem_append_left _ (List.mem_of_getElem? (i := 1) rfl)), by decide, by decide +kernel⟩
set_option maxRecDepth 20000 in
theorem mdf_fe_flags : MD yX11_flags cX11_flags 3 ((some FieldType.int)) 3 := ⟨List.mem_append_right _ (List.mem_append_left _ (List.mem_of_getElem? (i := 236) rfl)), List.mem_append_right _ (List.mem_append_left _ (List.mem_of_getElem? (i := 1) rfl)), by decide, by decide +kernel⟩
set_option maxRecDepth 20000 in
theorem mdf_fe_addField : MD yX11_addField cX11_addField 2 ((some FieldType.int)) 2 := ⟨List.mem_append_right _ (List.mem_append_right _ (List.mem_append_left _ (List.mem_of_getElem? (i := 24) rfl))), List.mem_append_right _ (List.mem_append_left _ (List.mem_of_getElem? (i := 1) rfl)), by decide, by decide +kernel⟩
set_option maxRecDepth 20000 in
theorem mdf_fe_canFollow : MD yX11_canFollow cX11_canFollow 8 ((some FieldType.boolean)) 4 := ⟨List.mem_append_right _ (List.mem_append_right _ (List.mem_append_left _ (List.mem_of_getElem? (i := 37) rfl))), List.mem_append_right _ (List.mem_append_left _ (List.mem_of_getElem? (i := 1) rfl)), by decide, by decide +kernel⟩
set_option maxRecDepth 20000 in
theorem mdf_fe_isOf : MD yX11_isOf cX11_isOf 5 ((some FieldType.boolean)) 2 := ⟨List.mem_append_right _ (List.mem_append_right _ (List.mem_append_left _ (List.mem_of_getElem? (i := 182) rfl))), List.mem_append_right _ (List.mem_append_left _ (List.mem_of_getElem? (i := 1) rfl)), by decide, by decide +kernel⟩
set_option maxRecDepth 20000 in
theorem mdf_fe_object : MD yX11_object cX11_object 5 ((some FieldType.int)) 1 := ⟨List.mem_append_right _ (List.mem_append_right _ (List.mem_append_left _ (List.mem_of_getElem? (i := 53) rfl))), List.mem_append_right _ (List.mem_append_left _ (List.mem_of_getElem? (i := 1) rfl)), by decide, by decide +kernel⟩
set_option maxRecDepth 20000 in
theorem mdf_fe_get : MD yX11_get cX11_get 3 ((some FieldType.int)) 2 := ⟨List.mem_append_right _ (List.mem_append_right _ (List.mem_append_left _ (List.mem_of_getElem? (i := 78) rfl))), List.mem_append_right _ (List.mem_append_left _ (List.mem_of_getElem? (i := 1) rfl)), by decide, by decide +kernel⟩
set_option maxRecDepth 20000 in
theorem mdf_fe_element : MD yX11_element cX11_element 6 ((some FieldType.int)) 3 := ⟨List.mem_append_right _ (List.mem_append_right _ (List.mem_append_left _ (List.mem_of_getElem? (i := 116) rfl))), List.mem_append_right _ (List.mem_append_left _ (List.mem_of_getElem? (i := 1) rfl)), by decide, by decide +kernel⟩
set_option maxRecDepth 20000 in
theorem mdf_fe_shapeOf : MD yX11_shapeOf cX11_shapeOf 2 ((some FieldType.int)) 1 := ⟨List.mem_append_right _ (List.mem_append_right _ (List.mem_append_left _ (List.mem_of_getElem? (i := 120) rfl))), List.mem_append_right _ (List.mem_append_left _ (List.mem_of_getElem? (i := 1) rfl)), by decide, by decide +kernel⟩
set_option maxRecDepth 20000 in
theorem mdf_fe_holders : MD yX11_holders cX11_holders 6 ((some FieldType.int)) 1 := ⟨List.mem_append_right _ (List.mem_append_right _ (List.mem_append_left _ (List.mem_of_getElem? (i := 124) rfl))), List.mem_append_right _ (List.mem_append_left _ (List.mem_of_getElem? (i := 1) rfl)), by decide, by decide +kernel⟩
set_option maxRecDepth 20000 in
theorem mdf_fe_holds : MD yX11_holds cX11_holds 3 ((some FieldType.int)) 2 := ⟨List.mem_append_right _ (List.mem_append_right _ (List.mem_append_left _ (List.mem_of_getElem? (i := 135) rfl))), List.mem_append_right _ (List.mem_append_left _ (List.mem_of_getElem? (i := 1) rfl)), by decide, by decide +kernel⟩
set_option maxRecDepth 20000 in
theorem mdf_fe_isThing : MD yX11_isThing cX11_isThing 2 ((some FieldType.boolean)) 1 := ⟨List.mem_append_right _ (List.mem_append_right _ (List.mem_append_left _ (List.mem_of_getElem? (i := 86) rfl))), List.mem_append_right _ (List.mem_append_left _ (List.mem_of_getElem? (i := 1) rfl)), by decide, by decide +kernel⟩
set_option maxRecDepth 20000 in
theorem mdf_fe_fieldOf : MD yX11_fieldOf cX11_fieldOf 3 ((some (FieldType.object "FieldEditor$Field"))) 2 := ⟨List.mem_append_right _ (List.mem_append_right _ (List.mem_append_left _ (List.mem_of_getElem? (i := 82) rfl))), List.mem_append_right _ (List.mem_append_left _ (List.mem_of_getElem? (i := 1) rfl)), by decide, by decide +kernel⟩
set_option maxRecDepth 20000 in
theorem mdf_fe_timesIn : MD yX11_timesIn cX11_timesIn 7 ((some FieldType.int)) 2 := ⟨List.mem_append_right _ (List.mem_append_right _ (List.mem_append_left _ (List.mem_of_getElem? (i := 131) rfl))), List.mem_append_right _ (List.mem_append_left _ (List.mem_of_getElem? (i := 1) rfl)), by decide, by decide +kernel⟩
set_option maxRecDepth 20000 in
theorem mdf_fe_valueOf : MD yX11_valueOf cX11_valueOf 5 ((some FieldType.int)) 2 := ⟨List.mem_append_right _ (List.mem_append_right _ (List.mem_append_left _ (List.mem_of_getElem? (i := 90) rfl))), List.mem_append_right _ (List.mem_append_left _ (List.mem_of_getElem? (i := 1) rfl)), by decide, by decide +kernel⟩
set_option maxRecDepth 20000 in
theorem mdf_fe_fillValues : MD yX11_fillValues cX11_fillValues 6 (none) 2 := ⟨List.mem_append_right _ (List.mem_append_right _ (List.mem_append_left _ (List.mem_of_getElem? (i := 98) rfl))), List.mem_append_right _ (List.mem_append_left _ (List.mem_of_getElem? (i := 1) rfl)), by decide, by decide +kernel⟩
set_option maxRecDepth 20000 in
theorem mdf_fe_derive : MD yX11_derive cX11_derive 6 ((some FieldType.int)) 3 := ⟨List.mem_append_right _ (List.mem_append_right _ (List.mem_append_left _ (List.mem_of_getElem? (i := 102) rfl))), List.mem_append_right _ (List.mem_append_left _ (List.mem_of_getElem? (i := 1) rfl)), by decide, by decide +kernel⟩
set_option maxRecDepth 20000 in
theorem mdf_fe_ofTwo : MD yX11_ofTwo cX11_ofTwo 3 ((some FieldType.int)) 3 := ⟨List.mem_append_right _ (List.mem_append_right _ (List.mem_append_left _ (List.mem_of_getElem? (i := 109) rfl))), List.mem_append_right _ (List.mem_append_left _ (List.mem_of_getElem? (i := 1) rfl)), by decide, by decide +kernel⟩
set_option maxRecDepth 20000 in
theorem mdf_fe_total : MD yX11_total cX11_total 9 ((some FieldType.int)) 2 := ⟨List.mem_append_right _ (List.mem_append_right _ (List.mem_append_left _ (List.mem_of_getElem? (i := 106) rfl))), List.mem_append_right _ (List.mem_append_left _ (List.mem_of_getElem? (i := 1) rfl)), by decide, by decide +kernel⟩
set_option maxRecDepth 20000 in
theorem mdf_fe_reach : MD yX11_reach cX11_reach 6 (none) 1 := ⟨List.mem_append_right _ (List.mem_append_right _ (List.mem_append_left _ (List.mem_of_getElem? (i := 139) rfl))), List.mem_append_right _ (List.mem_append_left _ (List.mem_of_getElem? (i := 1) rfl)), by decide, by decide +kernel⟩
set_option maxRecDepth 20000 in
theorem mdf_fe_set : MD yX11_set cX11_set 5 ((some FieldType.int)) 3 := ⟨List.mem_append_right _ (List.mem_append_right _ (List.mem_append_left _ (List.mem_of_getElem? (i := 165) rfl))), List.mem_append_right _ (List.mem_append_left _ (List.mem_of_getElem? (i := 1) rfl)), by decide, by decide +kernel⟩
set_option maxRecDepth 20000 in
theorem mdf_fe_lead : MD yX11_lead cX11_lead 5 ((some FieldType.int)) 3 := ⟨List.mem_append_right _ (List.mem_append_right _ (List.mem_append_right _ (List.mem_append_left _ (List.mem_of_getElem? (i := 89) rfl)))), List.mem_append_right _ (List.mem_append_left _ (List.mem_of_getElem? (i := 1) rfl)), by decide, by decide +kernel⟩
set_option maxRecDepth 20000 in
theorem mdf_fe_unset : MD yX11_unset cX11_unset 4 ((some FieldType.int)) 2 := ⟨List.mem_append_right _ (List.mem_append_right _ (List.mem_append_right _ (List.mem_append_left _ (List.mem_of_getElem? (i := 97) rfl)))), List.mem_append_right _ (List.mem_append_left _ (List.mem_of_getElem? (i := 1) rfl)), by decide, by decide +kernel⟩
set_option maxRecDepth 20000 in
theorem mdf_fe_insert : MD yX11_insert cX11_insert 7 ((some FieldType.int)) 4 := ⟨List.mem_append_right _ (List.mem_append_right _ (List.mem_append_right _ (List.mem_append_left _ (List.mem_of_getElem? (i := 101) rfl)))), List.mem_append_right _ (List.mem_append_left _ (List.mem_of_getElem? (i := 1) rfl)), by decide, by decide +kernel⟩
set_option maxRecDepth 20000 in
theorem mdf_fe_remove : MD yX11_remove cX11_remove 6 ((some FieldType.int)) 3 := ⟨List.mem_append_right _ (List.mem_append_right _ (List.mem_append_right _ (List.mem_append_left _ (List.mem_of_getElem? (i := 109) rfl)))), List.mem_append_right _ (List.mem_append_left _ (List.mem_of_getElem? (i := 1) rfl)), by decide, by decide +kernel⟩
set_option maxRecDepth 20000 in
theorem mdf_fe_sort : MD yX11_sort cX11_sort 6 ((some FieldType.int)) 4 := ⟨List.mem_append_right _ (List.mem_append_right _ (List.mem_append_right _ (List.mem_append_left _ (List.mem_of_getElem? (i := 116) rfl)))), List.mem_append_right _ (List.mem_append_left _ (List.mem_of_getElem? (i := 1) rfl)), by decide, by decide +kernel⟩
set_option maxRecDepth 20000 in
theorem mdf_fe_begin : MD yX11_begin cX11_begin 1 ((some FieldType.int)) 0 := ⟨List.mem_append_right _ (List.mem_append_right _ (List.mem_append_right _ (List.mem_append_left _ (List.mem_of_getElem? (i := 141) rfl)))), List.mem_append_right _ (List.mem_append_left _ (List.mem_of_getElem? (i := 1) rfl)), by decide, by decide +kernel⟩
set_option maxRecDepth 20000 in
theorem mdf_fe_commit : MD yX11_commit cX11_commit 2 ((some FieldType.int)) 0 := ⟨List.mem_append_right _ (List.mem_append_right _ (List.mem_append_right _ (List.mem_append_left _ (List.mem_of_getElem? (i := 147) rfl)))), List.mem_append_right _ (List.mem_append_left _ (List.mem_of_getElem? (i := 1) rfl)), by decide, by decide +kernel⟩
set_option maxRecDepth 20000 in
theorem mdf_fe_abort : MD yX11_abort cX11_abort 2 ((some FieldType.int)) 0 := ⟨List.mem_append_right _ (List.mem_append_right _ (List.mem_append_right _ (List.mem_append_left _ (List.mem_of_getElem? (i := 157) rfl)))), List.mem_append_right _ (List.mem_append_left _ (List.mem_of_getElem? (i := 1) rfl)), by decide, by decide +kernel⟩
set_option maxRecDepth 20000 in
theorem mdf_fe_undo : MD yX11_undo cX11_undo 2 ((some FieldType.int)) 0 := ⟨List.mem_append_right _ (List.mem_append_right _ (List.mem_append_right _ (List.mem_append_left _ (List.mem_of_getElem? (i := 173) rfl)))), List.mem_append_right _ (List.mem_append_left _ (List.mem_of_getElem? (i := 1) rfl)), by decide, by decide +kernel⟩
set_option maxRecDepth 20000 in
theorem mdf_fe_redo : MD yX11_redo cX11_redo 2 ((some FieldType.int)) 0 := ⟨List.mem_append_right _ (List.mem_append_right _ (List.mem_append_right _ (List.mem_append_left _ (List.mem_of_getElem? (i := 179) rfl)))), List.mem_append_right _ (List.mem_append_left _ (List.mem_of_getElem? (i := 1) rfl)), by decide, by decide +kernel⟩
set_option maxRecDepth 20000 in
theorem mdf_fe_isLocked : MD yX11_isLocked cX11_isLocked 4 ((some FieldType.boolean)) 3 := ⟨List.mem_append_right _ (List.mem_append_right _ (List.mem_append_left _ (List.mem_of_getElem? (i := 169) rfl))), List.mem_append_right _ (List.mem_append_left _ (List.mem_of_getElem? (i := 1) rfl)), by decide, by decide +kernel⟩
set_option maxRecDepth 20000 in
theorem mdf_fe_wouldLoop : MD yX11_wouldLoop cX11_wouldLoop 4 ((some FieldType.boolean)) 3 := ⟨List.mem_append_right _ (List.mem_append_right _ (List.mem_append_right _ (List.mem_append_left _ (List.mem_of_getElem? (i := 93) rfl)))), List.mem_append_right _ (List.mem_append_left _ (List.mem_of_getElem? (i := 1) rfl)), by decide, by decide +kernel⟩
set_option maxRecDepth 20000 in
theorem mdf_fe_isVetoed : MD yX11_isVetoed cX11_isVetoed 6 ((some FieldType.boolean)) 3 := ⟨List.mem_append_right _ (List.mem_append_right _ (List.mem_append_left _ (List.mem_of_getElem? (i := 174) rfl))), List.mem_append_right _ (List.mem_append_left _ (List.mem_of_getElem? (i := 1) rfl)), by decide, by decide +kernel⟩
set_option maxRecDepth 20000 in
theorem mdf_fe_withPlace : MD yX11_withPlace cX11_withPlace 4 ((some (FieldType.array FieldType.int))) 3 := ⟨List.mem_append_right _ (List.mem_append_right _ (List.mem_append_right _ (List.mem_append_left _ (List.mem_of_getElem? (i := 104) rfl)))), List.mem_append_right _ (List.mem_append_left _ (List.mem_of_getElem? (i := 1) rfl)), by decide, by decide +kernel⟩
set_option maxRecDepth 20000 in
theorem mdf_fe_withoutPlace : MD yX11_withoutPlace cX11_withoutPlace 3 ((some (FieldType.array FieldType.int))) 2 := ⟨List.mem_append_right _ (List.mem_append_right _ (List.mem_append_right _ (List.mem_append_left _ (List.mem_of_getElem? (i := 112) rfl)))), List.mem_append_right _ (List.mem_append_left _ (List.mem_of_getElem? (i := 1) rfl)), by decide, by decide +kernel⟩
set_option maxRecDepth 20000 in
theorem mdf_fe_inOrder : MD yX11_inOrder cX11_inOrder 8 ((some (FieldType.array FieldType.int))) 3 := ⟨List.mem_append_right _ (List.mem_append_right _ (List.mem_append_right _ (List.mem_append_left _ (List.mem_of_getElem? (i := 120) rfl)))), List.mem_append_right _ (List.mem_append_left _ (List.mem_of_getElem? (i := 1) rfl)), by decide, by decide +kernel⟩
set_option maxRecDepth 20000 in
theorem mdf_fe_sortKey : MD yX11_sortKey cX11_sortKey 4 ((some FieldType.int)) 2 := ⟨List.mem_append_right _ (List.mem_append_right _ (List.mem_append_right _ (List.mem_append_left _ (List.mem_of_getElem? (i := 131) rfl)))), List.mem_append_right _ (List.mem_append_left _ (List.mem_of_getElem? (i := 1) rfl)), by decide, by decide +kernel⟩
set_option maxRecDepth 20000 in
theorem mdf_fe_goesAhead : MD yX11_goesAhead cX11_goesAhead 3 ((some FieldType.boolean)) 3 := ⟨List.mem_append_right _ (List.mem_append_right _ (List.mem_append_right _ (List.mem_append_left _ (List.mem_of_getElem? (i := 134) rfl)))), List.mem_append_right _ (List.mem_append_left _ (List.mem_of_getElem? (i := 1) rfl)), by decide, by decide +kernel⟩
set_option maxRecDepth 20000 in
theorem mdf_fe_swap : MD yX11_swap cX11_swap 3 (none) 2 := ⟨List.mem_append_right _ (List.mem_append_right _ (List.mem_append_right _ (List.mem_append_left _ (List.mem_of_getElem? (i := 137) rfl)))), List.mem_append_right _ (List.mem_append_left _ (List.mem_of_getElem? (i := 1) rfl)), by decide, by decide +kernel⟩
set_option maxRecDepth 20000 in
theorem mdf_fe_take : MD yX11_take cX11_take 4 ((some FieldType.int)) 3 := ⟨List.mem_append_right _ (List.mem_append_right _ (List.mem_append_left _ (List.mem_of_getElem? (i := 186) rfl))), List.mem_append_right _ (List.mem_append_left _ (List.mem_of_getElem? (i := 1) rfl)), by decide, by decide +kernel⟩
set_option maxRecDepth 20000 in
theorem mdf_fe_takeBack : MD yX11_takeBack cX11_takeBack 4 (none) 1 := ⟨List.mem_append_right _ (List.mem_append_right _ (List.mem_append_right _ (List.mem_append_left _ (List.mem_of_getElem? (i := 161) rfl)))), List.mem_append_right _ (List.mem_append_left _ (List.mem_of_getElem? (i := 1) rfl)), by decide, by decide +kernel⟩
set_option maxRecDepth 20000 in
theorem mdf_fe_doAgain : MD yX11_doAgain cX11_doAgain 4 (none) 1 := ⟨List.mem_append_right _ (List.mem_append_right _ (List.mem_append_right _ (List.mem_append_left _ (List.mem_of_getElem? (i := 183) rfl)))), List.mem_append_right _ (List.mem_append_left _ (List.mem_of_getElem? (i := 1) rfl)), by decide, by decide +kernel⟩
set_option maxRecDepth 20000 in
theorem mdf_fe_put : MD yX11_put cX11_put 7 (none) 3 := ⟨List.mem_append_right _ (List.mem_append_right _ (List.mem_append_right _ (List.mem_append_left _ (List.mem_of_getElem? (i := 81) rfl)))), List.mem_append_right _ (List.mem_append_left _ (List.mem_of_getElem? (i := 1) rfl)), by decide, by decide +kernel⟩
set_option maxRecDepth 20000 in
theorem mdf_fe_path : MD yX11_path cX11_path 1 ((some FieldType.int)) 0 := ⟨List.mem_append_right _ (List.mem_append_right _ (List.mem_append_right _ (List.mem_append_left _ (List.mem_of_getElem? (i := 187) rfl)))), List.mem_append_right _ (List.mem_append_left _ (List.mem_of_getElem? (i := 1) rfl)), by decide, by decide +kernel⟩
set_option maxRecDepth 20000 in
theorem mdf_fe_step : MD yX11_step cX11_step 4 ((some FieldType.int)) 3 := ⟨List.mem_append_right _ (List.mem_append_right _ (List.mem_append_right _ (List.mem_append_left _ (List.mem_of_getElem? (i := 209) rfl)))), List.mem_append_right _ (List.mem_append_left _ (List.mem_of_getElem? (i := 1) rfl)), by decide, by decide +kernel⟩
set_option maxRecDepth 20000 in
theorem mdf_fe_fault : MD yX11_fault cX11_fault 6 ((some FieldType.int)) 2 := ⟨List.mem_append_right _ (List.mem_append_right _ (List.mem_append_right _ (List.mem_append_left _ (List.mem_of_getElem? (i := 225) rfl)))), List.mem_append_right _ (List.mem_append_left _ (List.mem_of_getElem? (i := 1) rfl)), by decide, by decide +kernel⟩
set_option maxRecDepth 20000 in
theorem mdf_fe_matches : MD yX11_matches cX11_matches 3 ((some FieldType.int)) 2 := ⟨List.mem_append_right _ (List.mem_append_right _ (List.mem_append_right _ (List.mem_append_left _ (List.mem_of_getElem? (i := 236) rfl)))), List.mem_append_right _ (List.mem_append_left _ (List.mem_of_getElem? (i := 1) rfl)), by decide, by decide +kernel⟩
set_option maxRecDepth 20000 in
theorem mdf_fe_match : MD yX11_match cX11_match 6 ((some FieldType.int)) 4 := ⟨List.mem_append_right _ (List.mem_append_right _ (List.mem_append_right _ (List.mem_append_right _ (List.mem_append_left _ (List.mem_of_getElem? (i := 19) rfl))))), List.mem_append_right _ (List.mem_append_left _ (List.mem_of_getElem? (i := 1) rfl)), by decide, by decide +kernel⟩
set_option maxRecDepth 20000 in
theorem mdf_fe_isPath : MD yX11_isPath cX11_isPath 2 ((some FieldType.boolean)) 1 := ⟨List.mem_append_right _ (List.mem_append_right _ (List.mem_append_right _ (List.mem_append_left _ (List.mem_of_getElem? (i := 213) rfl)))), List.mem_append_right _ (List.mem_append_left _ (List.mem_of_getElem? (i := 1) rfl)), by decide, by decide +kernel⟩
set_option maxRecDepth 20000 in
theorem mdf_fe_isStep : MD yX11_isStep cX11_isStep 3 ((some FieldType.boolean)) 2 := ⟨List.mem_append_right _ (List.mem_append_right _ (List.mem_append_right _ (List.mem_append_left _ (List.mem_of_getElem? (i := 217) rfl)))), List.mem_append_right _ (List.mem_append_left _ (List.mem_of_getElem? (i := 1) rfl)), by decide, by decide +kernel⟩
set_option maxRecDepth 20000 in
theorem mdf_fe_judge : MD yX11_judge cX11_judge 5 ((some FieldType.int)) 3 := ⟨List.mem_append_right _ (List.mem_append_right _ (List.mem_append_right _ (List.mem_append_left _ (List.mem_of_getElem? (i := 229) rfl)))), List.mem_append_right _ (List.mem_append_left _ (List.mem_of_getElem? (i := 1) rfl)), by decide, by decide +kernel⟩
set_option maxRecDepth 20000 in
theorem mdf_fe_judgeField : MD yX11_judgeField cX11_judgeField 1 ((some FieldType.int)) 1 := ⟨List.mem_append_right _ (List.mem_append_right _ (List.mem_append_right _ (List.mem_append_left _ (List.mem_of_getElem? (i := 232) rfl)))), List.mem_append_right _ (List.mem_append_left _ (List.mem_of_getElem? (i := 1) rfl)), by decide, by decide +kernel⟩
set_option maxRecDepth 20000 in
theorem mdf_fe_walk : MD yX11_walk cX11_walk 7 ((some (FieldType.object "FieldEditor$Spots"))) 2 := ⟨List.mem_append_right _ (List.mem_append_right _ (List.mem_append_right _ (List.mem_append_right _ (List.mem_append_left _ (List.mem_of_getElem? (i := 0) rfl))))), List.mem_append_right _ (List.mem_append_left _ (List.mem_of_getElem? (i := 1) rfl)), by decide, by decide +kernel⟩
set_option maxRecDepth 20000 in
theorem mdf_fe_go : MD yX11_go cX11_go 9 (none) 5 := ⟨List.mem_append_right _ (List.mem_append_right _ (List.mem_append_right _ (List.mem_append_right _ (List.mem_append_left _ (List.mem_of_getElem? (i := 8) rfl))))), List.mem_append_right _ (List.mem_append_left _ (List.mem_of_getElem? (i := 1) rfl)), by decide, by decide +kernel⟩
set_option maxRecDepth 20000 in
theorem mdf_fe_goToField : MD yX11_goToField cX11_goToField 7 (none) 4 := ⟨List.mem_append_right _ (List.mem_append_right _ (List.mem_append_right _ (List.mem_append_right _ (List.mem_append_left _ (List.mem_of_getElem? (i := 12) rfl))))), List.mem_append_right _ (List.mem_append_left _ (List.mem_of_getElem? (i := 1) rfl)), by decide, by decide +kernel⟩
set_option maxRecDepth 20000 in
theorem mdf_fe_goIntoList : MD yX11_goIntoList cX11_goIntoList 7 (none) 4 := ⟨List.mem_append_right _ (List.mem_append_right _ (List.mem_append_right _ (List.mem_append_right _ (List.mem_append_left _ (List.mem_of_getElem? (i := 15) rfl))))), List.mem_append_right _ (List.mem_append_left _ (List.mem_of_getElem? (i := 1) rfl)), by decide, by decide +kernel⟩
set_option maxRecDepth 20000 in
theorem mdf_fe_copy : MD yX11_copy cX11_copy 4 ((some FieldType.int)) 1 := ⟨List.mem_append_right _ (List.mem_append_right _ (List.mem_append_right _ (List.mem_append_right _ (List.mem_append_left _ (List.mem_of_getElem? (i := 23) rfl))))), List.mem_append_right _ (List.mem_append_left _ (List.mem_of_getElem? (i := 1) rfl)), by decide, by decide +kernel⟩
set_option maxRecDepth 20000 in
theorem mdf_fe_alike : MD yX11_alike cX11_alike 4 ((some FieldType.int)) 2 := ⟨List.mem_append_right _ (List.mem_append_right _ (List.mem_append_right _ (List.mem_append_right _ (List.mem_append_left _ (List.mem_of_getElem? (i := 35) rfl))))), List.mem_append_right _ (List.mem_append_left _ (List.mem_of_getElem? (i := 1) rfl)), by decide, by decide +kernel⟩
set_option maxRecDepth 20000 in
theorem mdf_fe_copyOf : MD yX11_copyOf cX11_copyOf 7 ((some (FieldType.object "FieldEditor$Thing"))) 2 := ⟨List.mem_append_right _ (List.mem_append_right _ (List.mem_append_right _ (List.mem_append_right _ (List.mem_append_left _ (List.mem_of_getElem? (i := 27) rfl))))), List.mem_append_right _ (List.mem_append_left _ (List.mem_of_getElem? (i := 1) rfl)), by decide, by decide +kernel⟩
set_option maxRecDepth 20000 in
theorem mdf_fe_leadToCopies : MD yX11_leadToCopies cX11_leadToCopies 5 (none) 2 := ⟨List.mem_append_right _ (List.mem_append_right _ (List.mem_append_right _ (List.mem_append_right _ (List.mem_append_left _ (List.mem_of_getElem? (i := 31) rfl))))), List.mem_append_right _ (List.mem_append_left _ (List.mem_of_getElem? (i := 1) rfl)), by decide, by decide +kernel⟩
set_option maxRecDepth 20000 in
theorem mdf_fe_areLike : MD yX11_areLike cX11_areLike 5 ((some FieldType.boolean)) 2 := ⟨List.mem_append_right _ (List.mem_append_right _ (List.mem_append_right _ (List.mem_append_right _ (List.mem_append_left _ (List.mem_of_getElem? (i := 47) rfl))))), List.mem_append_right _ (List.mem_append_left _ (List.mem_of_getElem? (i := 1) rfl)), by decide, by decide +kernel⟩
set_option maxRecDepth 20000 in
theorem mdf_fe_rowsLike : MD yX11_rowsLike cX11_rowsLike 5 ((some FieldType.boolean)) 3 := ⟨List.mem_append_right _ (List.mem_append_right _ (List.mem_append_right _ (List.mem_append_right _ (List.mem_append_left _ (List.mem_of_getElem? (i := 51) rfl))))), List.mem_append_right _ (List.mem_append_left _ (List.mem_of_getElem? (i := 1) rfl)), by decide, by decide +kernel⟩
set_option maxRecDepth 20000 in
theorem mdf_fe_watch : MD yX11_watch cX11_watch 6 ((some FieldType.int)) 4 := ⟨List.mem_append_right _ (List.mem_append_right _ (List.mem_append_right _ (List.mem_append_right _ (List.mem_append_left _ (List.mem_of_getElem? (i := 55) rfl))))), List.mem_append_right _ (List.mem_append_left _ (List.mem_of_getElem? (i := 1) rfl)), by decide, by decide +kernel⟩
set_option maxRecDepth 20000 in
theorem mdf_fe_note : MD yX11_note cX11_note 5 ((some FieldType.int)) 3 := ⟨List.mem_append_right _ (List.mem_append_right _ (List.mem_append_right _ (List.mem_append_right _ (List.mem_append_left _ (List.mem_of_getElem? (i := 97) rfl))))), List.mem_append_right _ (List.mem_append_left _ (List.mem_of_getElem? (i := 1) rfl)), by decide, by decide +kernel⟩
set_option maxRecDepth 20000 in
theorem mdf_fe_lacks : MD yX11_lacks cX11_lacks 5 ((some FieldType.int)) 0 := ⟨List.mem_append_right _ (List.mem_append_right _ (List.mem_append_right _ (List.mem_append_right _ (List.mem_append_left _ (List.mem_of_getElem? (i := 101) rfl))))), List.mem_append_right _ (List.mem_append_left _ (List.mem_of_getElem? (i := 1) rfl)), by decide, by decide +kernel⟩
set_option maxRecDepth 20000 in
theorem mdf_fe_count : MD yX11_count cX11_count 2 ((some FieldType.int)) 1 := ⟨List.mem_append_right _ (List.mem_append_right _ (List.mem_append_right _ (List.mem_append_right _ (List.mem_append_left _ (List.mem_of_getElem? (i := 105) rfl))))), List.mem_append_right _ (List.mem_append_left _ (List.mem_of_getElem? (i := 1) rfl)), by decide, by decide +kernel⟩
set_option maxRecDepth 20000 in
theorem mdf_fe_digest : MD yX11_digest cX11_digest 4 ((some FieldType.long)) 0 := ⟨List.mem_append_right _ (List.mem_append_right _ (List.mem_append_right _ (List.mem_append_right _ (List.mem_append_left _ (List.mem_of_getElem? (i := 109) rfl))))), List.mem_append_right _ (List.mem_append_left _ (List.mem_of_getElem? (i := 1) rfl)), by decide, by decide +kernel⟩
set_option maxRecDepth 20000 in
theorem mdf_fe_digestOf : MD yX11_digestOf cX11_digestOf 12 ((some FieldType.long)) 2 := ⟨List.mem_append_right _ (List.mem_append_right _ (List.mem_append_right _ (List.mem_append_right _ (List.mem_append_left _ (List.mem_of_getElem? (i := 114) rfl))))), List.mem_append_right _ (List.mem_append_left _ (List.mem_of_getElem? (i := 1) rfl)), by decide, by decide +kernel⟩
set_option maxRecDepth 20000 in
theorem mdf_fe_sees : MD yX11_sees cX11_sees 4 ((some FieldType.boolean)) 3 := ⟨List.mem_append_right _ (List.mem_append_right _ (List.mem_append_left _ (List.mem_of_getElem? (i := 178) rfl))), List.mem_append_right _ (List.mem_append_left _ (List.mem_of_getElem? (i := 1) rfl)), by decide, by decide +kernel⟩
set_option maxRecDepth 20000 in
theorem mdf_md_init : MD yX12_init cX12_init 1 (none) 0 := ⟨List.mem_append_right _ (List.mem_append_right _ (List.mem_append_right _ (List.mem_append_right _ (List.mem_append_left _ (List.mem_of_getElem? (i := 120) rfl))))), List.mem_append_right _ (List.mem_append_left _ (List.mem_of_getElem? (i := 9) rfl)), by decide, by decide +kernel⟩
set_option maxRecDepth 20000 in
theorem mdf_md_in : MD yX12_in cX12_in 3 ((some FieldType.boolean)) 3 := ⟨List.mem_append_right _ (List.mem_append_right _ (List.mem_append_right _ (List.mem_append_right _ (List.mem_append_right _ (List.mem_append_left _ (List.mem_of_getElem? (i := 32) rfl)))))), List.mem_append_right _ (List.mem_append_left _ (List.mem_of_getElem? (i := 9) rfl)), by decide, by decide +kernel⟩
set_option maxRecDepth 20000 in
theorem mdf_md_isShape : MD yX12_isShape cX12_isShape 2 ((some FieldType.boolean)) 1 := ⟨List.mem_append_right _ (List.mem_append_right _ (List.mem_append_right _ (List.mem_append_right _ (List.mem_append_right _ (List.mem_append_left _ (List.mem_of_getElem? (i := 29) rfl)))))), List.mem_append_right _ (List.mem_append_left _ (List.mem_of_getElem? (i := 9) rfl)), by decide, by decide +kernel⟩
set_option maxRecDepth 20000 in
theorem mdf_md_isOf : MD yX12_isOf cX12_isOf 4 ((some FieldType.boolean)) 2 := ⟨List.mem_append_right _ (List.mem_append_right _ (List.mem_append_right _ (List.mem_append_right _ (List.mem_append_right _ (List.mem_append_left _ (List.mem_of_getElem? (i := 156) rfl)))))), List.mem_append_right _ (List.mem_append_left _ (List.mem_of_getElem? (i := 9) rfl)), by decide, by decide +kernel⟩
set_option maxRecDepth 20000 in
theorem mdf_md_shape : MD yX12_shape cX12_shape 6 ((some FieldType.int)) 1 := ⟨List.mem_append_right _ (List.mem_append_right _ (List.mem_append_right _ (List.mem_append_right _ (List.mem_append_right _ (List.mem_append_left _ (List.mem_of_getElem? (i := 25) rfl)))))), List.mem_append_right _ (List.mem_append_left _ (List.mem_of_getElem? (i := 9) rfl)), by decide, by decide +kernel⟩
set_option maxRecDepth 20000 in
theorem mdf_md_against : MD yX12_against cX12_against 3 ((some FieldType.int)) 1 := ⟨List.mem_append_right _ (List.mem_append_right _ (List.mem_append_right _ (List.mem_append_right _ (List.mem_append_right _ (List.mem_append_left _ (List.mem_of_getElem? (i := 48) rfl)))))), List.mem_append_right _ (List.mem_append_left _ (List.mem_of_getElem? (i := 9) rfl)), by decide, by decide +kernel⟩
set_option maxRecDepth 20000 in
theorem mdf_md_adds : MD yX12_adds cX12_adds 9 ((some FieldType.int)) 6 := ⟨List.mem_append_right _ (List.mem_append_right _ (List.mem_append_right _ (List.mem_append_right _ (List.mem_append_right _ (List.mem_append_left _ (List.mem_of_getElem? (i := 44) rfl)))))), List.mem_append_right _ (List.mem_append_left _ (List.mem_of_getElem? (i := 9) rfl)), by decide, by decide +kernel⟩
set_option maxRecDepth 20000 in
theorem mdf_md_flag : MD yX12_flag cX12_flag 3 ((some FieldType.int)) 3 := ⟨List.mem_append_right _ (List.mem_append_right _ (List.mem_append_right _ (List.mem_append_right _ (List.mem_append_right _ (List.mem_append_left _ (List.mem_of_getElem? (i := 40) rfl)))))), List.mem_append_right _ (List.mem_append_left _ (List.mem_of_getElem? (i := 9) rfl)), by decide, by decide +kernel⟩
set_option maxRecDepth 20000 in
theorem mdf_md_number : MD yX12_number cX12_number 6 ((some FieldType.int)) 5 := ⟨List.mem_append_right _ (List.mem_append_right _ (List.mem_append_right _ (List.mem_append_right _ (List.mem_append_right _ (List.mem_append_left _ (List.mem_of_getElem? (i := 36) rfl)))))), List.mem_append_right _ (List.mem_append_left _ (List.mem_of_getElem? (i := 9) rfl)), by decide, by decide +kernel⟩
set_option maxRecDepth 20000 in
theorem mdf_md_link : MD yX12_link cX12_link 7 ((some FieldType.int)) 6 := ⟨List.mem_append_right _ (List.mem_append_right _ (List.mem_append_right _ (List.mem_append_right _ (List.mem_append_right _ (List.mem_append_left _ (List.mem_of_getElem? (i := 52) rfl)))))), List.mem_append_right _ (List.mem_append_left _ (List.mem_of_getElem? (i := 9) rfl)), by decide, by decide +kernel⟩
set_option maxRecDepth 20000 in
theorem mdf_md_isNumeric : MD yX12_isNumeric cX12_isNumeric 3 ((some FieldType.boolean)) 2 := ⟨List.mem_append_right _ (List.mem_append_right _ (List.mem_append_right _ (List.mem_append_right _ (List.mem_append_right _ (List.mem_append_left _ (List.mem_of_getElem? (i := 64) rfl)))))), List.mem_append_right _ (List.mem_append_left _ (List.mem_of_getElem? (i := 9) rfl)), by decide, by decide +kernel⟩
set_option maxRecDepth 20000 in
theorem mdf_md_isKind : MD yX12_isKind cX12_isKind 4 ((some FieldType.boolean)) 3 := ⟨List.mem_append_right _ (List.mem_append_right _ (List.mem_append_right _ (List.mem_append_right _ (List.mem_append_right _ (List.mem_append_left _ (List.mem_of_getElem? (i := 68) rfl)))))), List.mem_append_right _ (List.mem_append_left _ (List.mem_of_getElem? (i := 9) rfl)), by decide, by decide +kernel⟩
set_option maxRecDepth 20000 in
theorem mdf_md_mayFollow : MD yX12_mayFollow cX12_mayFollow 5 ((some FieldType.boolean)) 4 := ⟨List.mem_append_right _ (List.mem_append_right _ (List.mem_append_right _ (List.mem_append_right _ (List.mem_append_right _ (List.mem_append_left _ (List.mem_of_getElem? (i := 60) rfl)))))), List.mem_append_right _ (List.mem_append_left _ (List.mem_of_getElem? (i := 9) rfl)), by decide, by decide +kernel⟩
set_option maxRecDepth 20000 in
theorem mdf_md_derived : MD yX12_derived cX12_derived 5 ((some FieldType.int)) 4 := ⟨List.mem_append_right _ (List.mem_append_right _ (List.mem_append_right _ (List.mem_append_right _ (List.mem_append_right _ (List.mem_append_left _ (List.mem_of_getElem? (i := 56) rfl)))))), List.mem_append_right _ (List.mem_append_left _ (List.mem_of_getElem? (i := 9) rfl)), by decide, by decide +kernel⟩
set_option maxRecDepth 20000 in
theorem mdf_md_told : MD yX12_told cX12_told 5 ((some FieldType.int)) 3 := ⟨List.mem_append_right _ (List.mem_append_right _ (List.mem_append_right _ (List.mem_append_right _ (List.mem_append_right _ (List.mem_append_left _ (List.mem_of_getElem? (i := 72) rfl)))))), List.mem_append_right _ (List.mem_append_left _ (List.mem_of_getElem? (i := 9) rfl)), by decide, by decide +kernel⟩
set_option maxRecDepth 20000 in
theorem mdf_md_isObject : MD yX12_isObject cX12_isObject 2 ((some FieldType.boolean)) 1 := ⟨List.mem_append_right _ (List.mem_append_right _ (List.mem_append_right _ (List.mem_append_right _ (List.mem_append_right _ (List.mem_append_left _ (List.mem_of_getElem? (i := 100) rfl)))))), List.mem_append_right _ (List.mem_append_left _ (List.mem_of_getElem? (i := 9) rfl)), by decide, by decide +kernel⟩
set_option maxRecDepth 20000 in
theorem mdf_md_hasField : MD yX12_hasField cX12_hasField 3 ((some FieldType.boolean)) 2 := ⟨List.mem_append_right _ (List.mem_append_right _ (List.mem_append_right _ (List.mem_append_right _ (List.mem_append_right _ (List.mem_append_left _ (List.mem_of_getElem? (i := 96) rfl)))))), List.mem_append_right _ (List.mem_append_left _ (List.mem_of_getElem? (i := 9) rfl)), by decide, by decide +kernel⟩
set_option maxRecDepth 20000 in
theorem mdf_md_at : MD yX12_at cX12_at 3 ((some FieldType.int)) 2 := ⟨List.mem_append_right _ (List.mem_append_right _ (List.mem_append_right _ (List.mem_append_right _ (List.mem_append_right _ (List.mem_append_left _ (List.mem_of_getElem? (i := 84) rfl)))))), List.mem_append_right _ (List.mem_append_left _ (List.mem_of_getElem? (i := 9) rfl)), by decide, by decide +kernel⟩
set_option maxRecDepth 20000 in
theorem mdf_md_by : MD yX12_by cX12_by 3 ((some FieldType.int)) 2 := ⟨List.mem_append_right _ (List.mem_append_right _ (List.mem_append_right _ (List.mem_append_right _ (List.mem_append_right _ (List.mem_append_left _ (List.mem_of_getElem? (i := 88) rfl)))))), List.mem_append_right _ (List.mem_append_left _ (List.mem_of_getElem? (i := 9) rfl)), by decide, by decide +kernel⟩
set_option maxRecDepth 20000 in
theorem mdf_md_makes : MD yX12_makes cX12_makes 4 ((some FieldType.int)) 1 := ⟨List.mem_append_right _ (List.mem_append_right _ (List.mem_append_right _ (List.mem_append_right _ (List.mem_append_right _ (List.mem_append_left _ (List.mem_of_getElem? (i := 80) rfl)))))), List.mem_append_right _ (List.mem_append_left _ (List.mem_of_getElem? (i := 9) rfl)), by decide, by decide +kernel⟩
set_option maxRecDepth 20000 in
theorem mdf_md_object : MD yX12_object cX12_object 2 ((some FieldType.int)) 1 := ⟨List.mem_append_right _ (List.mem_append_right _ (List.mem_append_right _ (List.mem_append_right _ (List.mem_append_right _ (List.mem_append_left _ (List.mem_of_getElem? (i := 76) rfl)))))), List.mem_append_right _ (List.mem_append_left _ (List.mem_of_getElem? (i := 9) rfl)), by decide, by decide +kernel⟩
set_option maxRecDepth 20000 in
theorem mdf_md_total : MD yX12_total cX12_total 7 ((some FieldType.int)) 3 := ⟨List.mem_append_right _ (List.mem_append_right _ (List.mem_append_right _ (List.mem_append_right _ (List.mem_append_right _ (List.mem_append_left _ (List.mem_of_getElem? (i := 112) rfl)))))), List.mem_append_right _ (List.mem_append_left _ (List.mem_of_getElem? (i := 9) rfl)), by decide, by decide +kernel⟩
set_option maxRecDepth 20000 in
theorem mdf_md_followed : MD yX12_followed cX12_followed 8 ((some FieldType.int)) 2 := ⟨List.mem_append_right _ (List.mem_append_right _ (List.mem_append_right _ (List.mem_append_right _ (List.mem_append_right _ (List.mem_append_left _ (List.mem_of_getElem? (i := 108) rfl)))))), List.mem_append_right _ (List.mem_append_left _ (List.mem_of_getElem? (i := 9) rfl)), by decide, by decide +kernel⟩
set_option maxRecDepth 20000 in
theorem mdf_md_valueOf : MD yX12_valueOf cX12_valueOf 5 ((some FieldType.int)) 2 := ⟨List.mem_append_right _ (List.mem_append_right _ (List.mem_append_right _ (List.mem_append_right _ (List.mem_append_right _ (List.mem_append_left _ (List.mem_of_getElem? (i := 104) rfl)))))), List.mem_append_right _ (List.mem_append_left _ (List.mem_of_getElem? (i := 9) rfl)), by decide, by decide +kernel⟩
set_option maxRecDepth 20000 in
theorem mdf_md_get : MD yX12_get cX12_get 3 ((some FieldType.int)) 2 := ⟨List.mem_append_right _ (List.mem_append_right _ (List.mem_append_right _ (List.mem_append_right _ (List.mem_append_right _ (List.mem_append_left _ (List.mem_of_getElem? (i := 92) rfl)))))), List.mem_append_right _ (List.mem_append_left _ (List.mem_of_getElem? (i := 9) rfl)), by decide, by decide +kernel⟩
set_option maxRecDepth 20000 in
theorem mdf_md_element : MD yX12_element cX12_element 4 ((some FieldType.int)) 3 := ⟨List.mem_append_right _ (List.mem_append_right _ (List.mem_append_right _ (List.mem_append_right _ (List.mem_append_right _ (List.mem_append_left _ (List.mem_of_getElem? (i := 116) rfl)))))), List.mem_append_right _ (List.mem_append_left _ (List.mem_of_getElem? (i := 9) rfl)), by decide, by decide +kernel⟩
set_option maxRecDepth 20000 in
theorem mdf_md_shapeOf : MD yX12_shapeOf cX12_shapeOf 2 ((some FieldType.int)) 1 := ⟨List.mem_append_right _ (List.mem_append_right _ (List.mem_append_right _ (List.mem_append_right _ (List.mem_append_right _ (List.mem_append_left _ (List.mem_of_getElem? (i := 120) rfl)))))), List.mem_append_right _ (List.mem_append_left _ (List.mem_of_getElem? (i := 9) rfl)), by decide, by decide +kernel⟩
set_option maxRecDepth 20000 in
theorem mdf_md_holders : MD yX12_holders cX12_holders 7 ((some FieldType.int)) 1 := ⟨List.mem_append_right _ (List.mem_append_right _ (List.mem_append_right _ (List.mem_append_right _ (List.mem_append_right _ (List.mem_append_left _ (List.mem_of_getElem? (i := 124) rfl)))))), List.mem_append_right _ (List.mem_append_left _ (List.mem_of_getElem? (i := 9) rfl)), by decide, by decide +kernel⟩
set_option maxRecDepth 20000 in
theorem mdf_md_comes : MD yX12_comes cX12_comes 2 (none) 1 := ⟨List.mem_append_right _ (List.mem_append_right _ (List.mem_append_right _ (List.mem_append_right _ (List.mem_append_right _ (List.mem_append_left _ (List.mem_of_getElem? (i := 140) rfl)))))), List.mem_append_right _ (List.mem_append_left _ (List.mem_of_getElem? (i := 9) rfl)), by decide, by decide +kernel⟩
set_option maxRecDepth 20000 in
theorem mdf_md_comesHeld : MD yX12_comesHeld cX12_comesHeld 5 (none) 1 := ⟨List.mem_append_right _ (List.mem_append_right _ (List.mem_append_right _ (List.mem_append_right _ (List.mem_append_right _ (List.mem_append_left _ (List.mem_of_getElem? (i := 136) rfl)))))), List.mem_append_right _ (List.mem_append_left _ (List.mem_of_getElem? (i := 9) rfl)), by decide, by decide +kernel⟩
set_option maxRecDepth 20000 in
theorem mdf_md_findHeld : MD yX12_findHeld cX12_findHeld 3 (none) 1 := ⟨List.mem_append_right _ (List.mem_append_right _ (List.mem_append_right _ (List.mem_append_right _ (List.mem_append_right _ (List.mem_append_right _ (List.mem_of_getElem? (i := 51) rfl)))))), List.mem_append_right _ (List.mem_append_left _ (List.mem_of_getElem? (i := 9) rfl)), by decide, by decide +kernel⟩
set_option maxRecDepth 20000 in
theorem mdf_md_isHeld : MD yX12_isHeld cX12_isHeld 4 ((some FieldType.boolean)) 2 := ⟨List.mem_append_right _ (List.mem_append_right _ (List.mem_append_right _ (List.mem_append_right _ (List.mem_append_right _ (List.mem_append_left _ (List.mem_of_getElem? (i := 132) rfl)))))), List.mem_append_right _ (List.mem_append_left _ (List.mem_of_getElem? (i := 9) rfl)), by decide, by decide +kernel⟩
set_option maxRecDepth 20000 in
theorem mdf_md_holds : MD yX12_holds cX12_holds 3 ((some FieldType.int)) 2 := ⟨List.mem_append_right _ (List.mem_append_right _ (List.mem_append_right _ (List.mem_append_right _ (List.mem_append_right _ (List.mem_append_left _ (List.mem_of_getElem? (i := 128) rfl)))))), List.mem_append_right _ (List.mem_append_left _ (List.mem_of_getElem? (i := 9) rfl)), by decide, by decide +kernel⟩
set_option maxRecDepth 20000 in
theorem mdf_md_keeps : MD yX12_keeps cX12_keeps 5 (none) 3 := ⟨List.mem_append_right _ (List.mem_append_right _ (List.mem_append_right _ (List.mem_append_right _ (List.mem_append_right _ (List.mem_append_left _ (List.mem_of_getElem? (i := 168) rfl)))))), List.mem_append_right _ (List.mem_append_left _ (List.mem_of_getElem? (i := 9) rfl)), by decide, by decide +kernel⟩
set_option maxRecDepth 20000 in
theorem mdf_md_puts : MD yX12_puts cX12_puts 5 (none) 3 := ⟨List.mem_append_right _ (List.mem_append_right _ (List.mem_append_right _ (List.mem_append_right _ (List.mem_append_right _ (List.mem_append_left _ (List.mem_of_getElem? (i := 235) rfl)))))), List.mem_append_right _ (List.mem_append_left _ (List.mem_of_getElem? (i := 9) rfl)), by decide, by decide +kernel⟩
set_option maxRecDepth 20000 in
theorem mdf_md_notes : MD yX12_notes cX12_notes 6 (none) 3 := ⟨List.mem_append_right _ (List.mem_append_right _ (List.mem_append_right _ (List.mem_append_right _ (List.mem_append_right _ (List.mem_append_left _ (List.mem_of_getElem? (i := 176) rfl)))))), List.mem_append_right _ (List.mem_append_left _ (List.mem_of_getElem? (i := 9) rfl)), by decide, by decide +kernel⟩
set_option maxRecDepth 20000 in
theorem mdf_md_doneEnd : MD yX12_doneEnd cX12_doneEnd 1 ((some FieldType.int)) 0 := ⟨List.mem_append_right _ (List.mem_append_right _ (List.mem_append_right _ (List.mem_append_right _ (List.mem_append_right _ (List.mem_append_left _ (List.mem_of_getElem? (i := 164) rfl)))))), List.mem_append_right _ (List.mem_append_left _ (List.mem_of_getElem? (i := 9) rfl)), by decide, by decide +kernel⟩
set_option maxRecDepth 20000 in
theorem mdf_md_begins : MD yX12_begins cX12_begins 3 (none) 2 := ⟨List.mem_append_right _ (List.mem_append_right _ (List.mem_append_right _ (List.mem_append_right _ (List.mem_append_right _ (List.mem_append_left _ (List.mem_of_getElem? (i := 160) rfl)))))), List.mem_append_right _ (List.mem_append_left _ (List.mem_of_getElem? (i := 9) rfl)), by decide, by decide +kernel⟩
set_option maxRecDepth 20000 in
theorem mdf_md_ends : MD yX12_ends cX12_ends 3 ((some FieldType.int)) 2 := ⟨List.mem_append_right _ (List.mem_append_right _ (List.mem_append_right _ (List.mem_append_right _ (List.mem_append_right _ (List.mem_append_left _ (List.mem_of_getElem? (i := 172) rfl)))))), List.mem_append_right _ (List.mem_append_left _ (List.mem_of_getElem? (i := 9) rfl)), by decide, by decide +kernel⟩
set_option maxRecDepth 20000 in
theorem mdf_md_enters : MD yX12_enters cX12_enters 4 (none) 0 := ⟨List.mem_append_right _ (List.mem_append_right _ (List.mem_append_right _ (List.mem_append_right _ (List.mem_append_right _ (List.mem_append_left _ (List.mem_of_getElem? (i := 180) rfl)))))), List.mem_append_right _ (List.mem_append_left _ (List.mem_of_getElem? (i := 9) rfl)), by decide, by decide +kernel⟩
set_option maxRecDepth 20000 in
theorem mdf_md_isReadOnly : MD yX12_isReadOnly cX12_isReadOnly 4 ((some FieldType.boolean)) 3 := ⟨List.mem_append_right _ (List.mem_append_right _ (List.mem_append_right _ (List.mem_append_right _ (List.mem_append_right _ (List.mem_append_left _ (List.mem_of_getElem? (i := 148) rfl)))))), List.mem_append_right _ (List.mem_append_left _ (List.mem_of_getElem? (i := 9) rfl)), by decide, by decide +kernel⟩
set_option maxRecDepth 20000 in
theorem mdf_md_isVetoed : MD yX12_isVetoed cX12_isVetoed 5 ((some FieldType.boolean)) 3 := ⟨List.mem_append_right _ (List.mem_append_right _ (List.mem_append_right _ (List.mem_append_right _ (List.mem_append_right _ (List.mem_append_left _ (List.mem_of_getElem? (i := 152) rfl)))))), List.mem_append_right _ (List.mem_append_left _ (List.mem_of_getElem? (i := 9) rfl)), by decide, by decide +kernel⟩
set_option maxRecDepth 20000 in
theorem mdf_md_set : MD yX12_set cX12_set 5 ((some FieldType.int)) 3 := ⟨List.mem_append_right _ (List.mem_append_right _ (List.mem_append_right _ (List.mem_append_right _ (List.mem_append_right _ (List.mem_append_left _ (List.mem_of_getElem? (i := 144) rfl)))))), List.mem_append_right _ (List.mem_append_left _ (List.mem_of_getElem? (i := 9) rfl)), by decide, by decide +kernel⟩
set_option maxRecDepth 20000 in
theorem mdf_md_wouldLoop : MD yX12_wouldLoop cX12_wouldLoop 4 ((some FieldType.boolean)) 3 := ⟨List.mem_append_right _ (List.mem_append_right _ (List.mem_append_right _ (List.mem_append_right _ (List.mem_append_right _ (List.mem_append_left _ (List.mem_of_getElem? (i := 188) rfl)))))), List.mem_append_right _ (List.mem_append_left _ (List.mem_of_getElem? (i := 9) rfl)), by decide, by decide +kernel⟩
set_option maxRecDepth 20000 in
theorem mdf_md_lead : MD yX12_lead cX12_lead 5 ((some FieldType.int)) 3 := ⟨List.mem_append_right _ (List.mem_append_right _ (List.mem_append_right _ (List.mem_append_right _ (List.mem_append_right _ (List.mem_append_left _ (List.mem_of_getElem? (i := 184) rfl)))))), List.mem_append_right _ (List.mem_append_left _ (List.mem_of_getElem? (i := 9) rfl)), by decide, by decide +kernel⟩
set_option maxRecDepth 20000 in
theorem mdf_md_unset : MD yX12_unset cX12_unset 4 ((some FieldType.int)) 2 := ⟨List.mem_append_right _ (List.mem_append_right _ (List.mem_append_right _ (List.mem_append_right _ (List.mem_append_right _ (List.mem_append_left _ (List.mem_of_getElem? (i := 192) rfl)))))), List.mem_append_right _ (List.mem_append_left _ (List.mem_of_getElem? (i := 9) rfl)), by decide, by decide +kernel⟩
set_option maxRecDepth 20000 in
theorem mdf_md_insert : MD yX12_insert cX12_insert 8 ((some FieldType.int)) 4 := ⟨List.mem_append_right _ (List.mem_append_right _ (List.mem_append_right _ (List.mem_append_right _ (List.mem_append_right _ (List.mem_append_left _ (List.mem_of_getElem? (i := 196) rfl)))))), List.mem_append_right _ (List.mem_append_left _ (List.mem_of_getElem? (i := 9) rfl)), by decide, by decide +kernel⟩
set_option maxRecDepth 20000 in
theorem mdf_md_remove : MD yX12_remove cX12_remove 6 ((some FieldType.int)) 3 := ⟨List.mem_append_right _ (List.mem_append_right _ (List.mem_append_right _ (List.mem_append_right _ (List.mem_append_right _ (List.mem_append_left _ (List.mem_of_getElem? (i := 200) rfl)))))), List.mem_append_right _ (List.mem_append_left _ (List.mem_of_getElem? (i := 9) rfl)), by decide, by decide +kernel⟩
set_option maxRecDepth 20000 in
theorem mdf_md_weightOf : MD yX12_weightOf cX12_weightOf 3 ((some FieldType.int)) 2 := ⟨List.mem_append_right _ (List.mem_append_right _ (List.mem_append_right _ (List.mem_append_right _ (List.mem_append_right _ (List.mem_append_left _ (List.mem_of_getElem? (i := 208) rfl)))))), List.mem_append_right _ (List.mem_append_left _ (List.mem_of_getElem? (i := 9) rfl)), by decide, by decide +kernel⟩
set_option maxRecDepth 20000 in
theorem mdf_md_isAhead : MD yX12_isAhead cX12_isAhead 3 ((some FieldType.boolean)) 3 := ⟨List.mem_append_right _ (List.mem_append_right _ (List.mem_append_right _ (List.mem_append_right _ (List.mem_append_right _ (List.mem_append_left _ (List.mem_of_getElem? (i := 211) rfl)))))), List.mem_append_right _ (List.mem_append_left _ (List.mem_of_getElem? (i := 9) rfl)), by decide, by decide +kernel⟩
set_option maxRecDepth 20000 in
theorem mdf_md_sort : MD yX12_sort cX12_sort 10 ((some FieldType.int)) 4 := ⟨List.mem_append_right _ (List.mem_append_right _ (List.mem_append_right _ (List.mem_append_right _ (List.mem_append_right _ (List.mem_append_left _ (List.mem_of_getElem? (i := 204) rfl)))))), List.mem_append_right _ (List.mem_append_left _ (List.mem_of_getElem? (i := 9) rfl)), by decide, by decide +kernel⟩
set_option maxRecDepth 20000 in
theorem mdf_md_begin : MD yX12_begin cX12_begin 1 ((some FieldType.int)) 0 := ⟨List.mem_append_right _ (List.mem_append_right _ (List.mem_append_right _ (List.mem_append_right _ (List.mem_append_right _ (List.mem_append_left _ (List.mem_of_getElem? (i := 215) rfl)))))), List.mem_append_right _ (List.mem_append_left _ (List.mem_of_getElem? (i := 9) rfl)), by decide, by decide +kernel⟩
set_option maxRecDepth 20000 in
theorem mdf_md_groupSize : MD yX12_groupSize cX12_groupSize 1 ((some FieldType.int)) 0 := ⟨List.mem_append_right _ (List.mem_append_right _ (List.mem_append_right _ (List.mem_append_right _ (List.mem_append_right _ (List.mem_append_left _ (List.mem_of_getElem? (i := 223) rfl)))))), List.mem_append_right _ (List.mem_append_left _ (List.mem_of_getElem? (i := 9) rfl)), by decide, by decide +kernel⟩
set_option maxRecDepth 20000 in
theorem mdf_md_commit : MD yX12_commit cX12_commit 2 ((some FieldType.int)) 0 := ⟨List.mem_append_right _ (List.mem_append_right _ (List.mem_append_right _ (List.mem_append_right _ (List.mem_append_right _ (List.mem_append_left _ (List.mem_of_getElem? (i := 219) rfl)))))), List.mem_append_right _ (List.mem_append_left _ (List.mem_of_getElem? (i := 9) rfl)), by decide, by decide +kernel⟩
set_option maxRecDepth 20000 in
theorem mdf_md_goes : MD yX12_goes cX12_goes 5 (none) 2 := ⟨List.mem_append_right _ (List.mem_append_right _ (List.mem_append_right _ (List.mem_append_right _ (List.mem_append_right _ (List.mem_append_left _ (List.mem_of_getElem? (i := 231) rfl)))))), List.mem_append_right _ (List.mem_append_left _ (List.mem_of_getElem? (i := 9) rfl)), by decide, by decide +kernel⟩
set_option maxRecDepth 20000 in
theorem mdf_md_abort : MD yX12_abort cX12_abort 3 ((some FieldType.int)) 0 := ⟨List.mem_append_right _ (List.mem_append_right _ (List.mem_append_right _ (List.mem_append_right _ (List.mem_append_right _ (List.mem_append_left _ (List.mem_of_getElem? (i := 227) rfl)))))), List.mem_append_right _ (List.mem_append_left _ (List.mem_of_getElem? (i := 9) rfl)), by decide, by decide +kernel⟩
set_option maxRecDepth 20000 in
theorem mdf_md_undo : MD yX12_undo cX12_undo 3 ((some FieldType.int)) 0 := ⟨List.mem_append_right _ (List.mem_append_right _ (List.mem_append_right _ (List.mem_append_right _ (List.mem_append_right _ (List.mem_append_left _ (List.mem_of_getElem? (i := 239) rfl)))))), List.mem_append_right _ (List.mem_append_left _ (List.mem_of_getElem? (i := 9) rfl)), by decide, by decide +kernel⟩
set_option maxRecDepth 20000 in
theorem mdf_md_redo : MD yX12_redo cX12_redo 2 ((some FieldType.int)) 0 := ⟨List.mem_append_right _ (List.mem_append_right _ (List.mem_append_right _ (List.mem_append_right _ (List.mem_append_right _ (List.mem_append_right _ (List.mem_of_getElem? (i := 3) rfl)))))), List.mem_append_right _ (List.mem_append_left _ (List.mem_of_getElem? (i := 9) rfl)), by decide, by decide +kernel⟩
set_option maxRecDepth 20000 in
theorem mdf_md_isPath : MD yX12_isPath cX12_isPath 2 ((some FieldType.boolean)) 1 := ⟨List.mem_append_right _ (List.mem_append_right _ (List.mem_append_right _ (List.mem_append_right _ (List.mem_append_right _ (List.mem_append_right _ (List.mem_of_getElem? (i := 15) rfl)))))), List.mem_append_right _ (List.mem_append_left _ (List.mem_of_getElem? (i := 9) rfl)), by decide, by decide +kernel⟩
set_option maxRecDepth 20000 in
theorem mdf_md_path : MD yX12_path cX12_path 1 ((some FieldType.int)) 0 := ⟨List.mem_append_right _ (List.mem_append_right _ (List.mem_append_right _ (List.mem_append_right _ (List.mem_append_right _ (List.mem_append_right _ (List.mem_of_getElem? (i := 7) rfl)))))), List.mem_append_right _ (List.mem_append_left _ (List.mem_of_getElem? (i := 9) rfl)), by decide, by decide +kernel⟩
set_option maxRecDepth 20000 in
theorem mdf_md_step : MD yX12_step cX12_step 4 ((some FieldType.int)) 3 := ⟨List.mem_append_right _ (List.mem_append_right _ (List.mem_append_right _ (List.mem_append_right _ (List.mem_append_right _ (List.mem_append_right _ (List.mem_of_getElem? (i := 11) rfl)))))), List.mem_append_right _ (List.mem_append_left _ (List.mem_of_getElem? (i := 9) rfl)), by decide, by decide +kernel⟩
set_option maxRecDepth 20000 in
theorem mdf_md_fault : MD yX12_fault cX12_fault 10 ((some FieldType.int)) 2 := ⟨List.mem_append_right _ (List.mem_append_right _ (List.mem_append_right _ (List.mem_append_right _ (List.mem_append_right _ (List.mem_append_right _ (List.mem_of_getElem? (i := 19) rfl)))))), List.mem_append_right _ (List.mem_append_left _ (List.mem_of_getElem? (i := 9) rfl)), by decide, by decide +kernel⟩
set_option maxRecDepth 20000 in
theorem mdf_md_matched : MD yX12_matched cX12_matched 3 (none) 2 := ⟨List.mem_append_right _ (List.mem_append_right _ (List.mem_append_right _ (List.mem_append_right _ (List.mem_append_right _ (List.mem_append_right _ (List.mem_of_getElem? (i := 35) rfl)))))), List.mem_append_right _ (List.mem_append_left _ (List.mem_of_getElem? (i := 9) rfl)), by decide, by decide +kernel⟩
set_option maxRecDepth 20000 in
theorem mdf_md_walkField : MD yX12_walkField cX12_walkField 4 (none) 3 := ⟨List.mem_append_right _ (List.mem_append_right _ (List.mem_append_right _ (List.mem_append_right _ (List.mem_append_right _ (List.mem_append_right _ (List.mem_of_getElem? (i := 31) rfl)))))), List.mem_append_right _ (List.mem_append_left _ (List.mem_of_getElem? (i := 9) rfl)), by decide, by decide +kernel⟩
set_option maxRecDepth 20000 in
theorem mdf_md_walkList : MD yX12_walkList cX12_walkList 9 (none) 4 := ⟨List.mem_append_right _ (List.mem_append_right _ (List.mem_append_right _ (List.mem_append_right _ (List.mem_append_right _ (List.mem_append_right _ (List.mem_of_getElem? (i := 39) rfl)))))), List.mem_append_right _ (List.mem_append_left _ (List.mem_of_getElem? (i := 9) rfl)), by decide, by decide +kernel⟩
set_option maxRecDepth 20000 in
theorem mdf_md_walk : MD yX12_walk cX12_walk 9 (none) 2 := ⟨List.mem_append_right _ (List.mem_append_right _ (List.mem_append_right _ (List.mem_append_right _ (List.mem_append_right _ (List.mem_append_right _ (List.mem_of_getElem? (i := 27) rfl)))))), List.mem_append_right _ (List.mem_append_left _ (List.mem_of_getElem? (i := 9) rfl)), by decide, by decide +kernel⟩
set_option maxRecDepth 20000 in
theorem mdf_md_matches : MD yX12_matches cX12_matches 3 ((some FieldType.int)) 2 := ⟨List.mem_append_right _ (List.mem_append_right _ (List.mem_append_right _ (List.mem_append_right _ (List.mem_append_right _ (List.mem_append_right _ (List.mem_of_getElem? (i := 23) rfl)))))), List.mem_append_right _ (List.mem_append_left _ (List.mem_of_getElem? (i := 9) rfl)), by decide, by decide +kernel⟩
set_option maxRecDepth 20000 in
theorem mdf_md_match : MD yX12_match cX12_match 5 ((some FieldType.int)) 4 := ⟨List.mem_append_right _ (List.mem_append_right _ (List.mem_append_right _ (List.mem_append_right _ (List.mem_append_right _ (List.mem_append_right _ (List.mem_of_getElem? (i := 43) rfl)))))), List.mem_append_right _ (List.mem_append_left _ (List.mem_of_getElem? (i := 9) rfl)), by decide, by decide +kernel⟩
set_option maxRecDepth 20000 in
theorem mdf_md_copied : MD yX12_copied cX12_copied 3 ((some FieldType.int)) 2 := ⟨List.mem_append_right _ (List.mem_append_right _ (List.mem_append_right _ (List.mem_append_right _ (List.mem_append_right _ (List.mem_append_right _ (List.mem_of_getElem? (i := 55) rfl)))))), List.mem_append_right _ (List.mem_append_left _ (List.mem_of_getElem? (i := 9) rfl)), by decide, by decide +kernel⟩
set_option maxRecDepth 20000 in
theorem mdf_md_copy : MD yX12_copy cX12_copy 10 ((some FieldType.int)) 1 := ⟨List.mem_append_right _ (List.mem_append_right _ (List.mem_append_right _ (List.mem_append_right _ (List.mem_append_right _ (List.mem_append_right _ (List.mem_of_getElem? (i := 47) rfl)))))), List.mem_append_right _ (List.mem_append_left _ (List.mem_of_getElem? (i := 9) rfl)), by decide, by decide +kernel⟩
set_option maxRecDepth 20000 in
theorem mdf_md_alsoAlike : MD yX12_alsoAlike cX12_alsoAlike 4 (none) 2 := ⟨List.mem_append_right _ (List.mem_append_right _ (List.mem_append_right _ (List.mem_append_right _ (List.mem_append_right _ (List.mem_append_right _ (List.mem_of_getElem? (i := 63) rfl)))))), List.mem_append_right _ (List.mem_append_left _ (List.mem_of_getElem? (i := 9) rfl)), by decide, by decide +kernel⟩
set_option maxRecDepth 20000 in
theorem mdf_md_areLike : MD yX12_areLike cX12_areLike 8 ((some FieldType.boolean)) 2 := ⟨List.mem_append_right _ (List.mem_append_right _ (List.mem_append_right _ (List.mem_append_right _ (List.mem_append_right _ (List.mem_append_right _ (List.mem_of_getElem? (i := 67) rfl)))))), List.mem_append_right _ (List.mem_append_left _ (List.mem_of_getElem? (i := 9) rfl)), by decide, by decide +kernel⟩
set_option maxRecDepth 20000 in
theorem mdf_md_alike : MD yX12_alike cX12_alike 4 ((some FieldType.int)) 2 := ⟨List.mem_append_right _ (List.mem_append_right _ (List.mem_append_right _ (List.mem_append_right _ (List.mem_append_right _ (List.mem_append_right _ (List.mem_of_getElem? (i := 59) rfl)))))), List.mem_append_right _ (List.mem_append_left _ (List.mem_of_getElem? (i := 9) rfl)), by decide, by decide +kernel⟩
set_option maxRecDepth 20000 in
theorem mdf_md_watch : MD yX12_watch cX12_watch 5 ((some FieldType.int)) 4 := ⟨List.mem_append_right _ (List.mem_append_right _ (List.mem_append_right _ (List.mem_append_right _ (List.mem_append_right _ (List.mem_append_right _ (List.mem_of_getElem? (i := 71) rfl)))))), List.mem_append_right _ (List.mem_append_left _ (List.mem_of_getElem? (i := 9) rfl)), by decide, by decide +kernel⟩
set_option maxRecDepth 20000 in
theorem mdf_md_note : MD yX12_note cX12_note 4 ((some FieldType.int)) 3 := ⟨List.mem_append_right _ (List.mem_append_right _ (List.mem_append_right _ (List.mem_append_right _ (List.mem_append_right _ (List.mem_append_right _ (List.mem_of_getElem? (i := 75) rfl)))))), List.mem_append_right _ (List.mem_append_left _ (List.mem_of_getElem? (i := 9) rfl)), by decide, by decide +kernel⟩
set_option maxRecDepth 20000 in
theorem mdf_md_lacks : MD yX12_lacks cX12_lacks 4 ((some FieldType.int)) 0 := ⟨List.mem_append_right _ (List.mem_append_right _ (List.mem_append_right _ (List.mem_append_right _ (List.mem_append_right _ (List.mem_append_right _ (List.mem_of_getElem? (i := 79) rfl)))))), List.mem_append_right _ (List.mem_append_left _ (List.mem_of_getElem? (i := 9) rfl)), by decide, by decide +kernel⟩
set_option maxRecDepth 20000 in
theorem mdf_md_count : MD yX12_count cX12_count 2 ((some FieldType.int)) 1 := ⟨List.mem_append_right _ (List.mem_append_right _ (List.mem_append_right _ (List.mem_append_right _ (List.mem_append_right _ (List.mem_append_right _ (List.mem_of_getElem? (i := 83) rfl)))))), List.mem_append_right _ (List.mem_append_left _ (List.mem_of_getElem? (i := 9) rfl)), by decide, by decide +kernel⟩
set_option maxRecDepth 20000 in
theorem mdf_md_digest : MD yX12_digest cX12_digest 7 ((some FieldType.long)) 0 := ⟨List.mem_append_right _ (List.mem_append_right _ (List.mem_append_right _ (List.mem_append_right _ (List.mem_append_right _ (List.mem_append_right _ (List.mem_of_getElem? (i := 87) rfl)))))), List.mem_append_right _ (List.mem_append_left _ (List.mem_of_getElem? (i := 9) rfl)), by decide, by decide +kernel⟩
set_option maxRecDepth 20000 in
theorem mdf_ac_init : MD yJxa1e45_init_da8c8 cJxa1e45_init_da8c8 1 (none) 0 := ⟨List.mem_append_right _ (List.mem_append_left _ (List.mem_of_getElem? (i := 55) rfl)), List.mem_append_right _ (List.mem_append_left _ (List.mem_of_getElem? (i := 3) rfl)), by decide, by decide +kernel⟩
set_option maxRecDepth 20000 in
theorem mdf_ab_init : MD yJxc12de_init_da8c8 cJxc12de_init_da8c8 1 (none) 0 := ⟨List.mem_append_right _ (List.mem_append_left _ (List.mem_of_getElem? (i := 52) rfl)), List.mem_append_right _ (List.mem_append_left _ (List.mem_of_getElem? (i := 4) rfl)), by decide, by decide +kernel⟩
set_option maxRecDepth 20000 in
theorem mdf_al_init : MD yJx4a65c_init_da8c8 cJx4a65c_init_da8c8 1 (none) 0 := ⟨List.mem_append_right _ (List.mem_append_left _ (List.mem_of_getElem? (i := 49) rfl)), List.mem_append_right _ (List.mem_append_left _ (List.mem_of_getElem? (i := 5) rfl)), by decide, by decide +kernel⟩
set_option maxRecDepth 20000 in
theorem mdf_al_grow1 : MD yJx4a65c_grow_92f84 cJx4a65c_grow_92f84 4 ((some (FieldType.array (FieldType.object "java/lang/Object")))) 1 := ⟨List.mem_append_right _ (List.mem_append_right _ (List.mem_append_right _ (List.mem_append_left _ (List.mem_of_getElem? (i := 1) rfl)))), List.mem_append_right _ (List.mem_append_left _ (List.mem_of_getElem? (i := 5) rfl)), by decide, by decide +kernel⟩
set_option maxRecDepth 20000 in
theorem mdf_al_grow0 : MD yJx4a65c_grow_d5877 cJx4a65c_grow_d5877 1 ((some (FieldType.array (FieldType.object "java/lang/Object")))) 0 := ⟨List.mem_append_right _ (List.mem_append_right _ (List.mem_append_left _ (List.mem_of_getElem? (i := 237) rfl))), List.mem_append_right _ (List.mem_append_left _ (List.mem_of_getElem? (i := 5) rfl)), by decide, by decide +kernel⟩
set_option maxRecDepth 20000 in
theorem mdf_al_size : MD yJx4a65c_size_8abf5 cJx4a65c_size_8abf5 1 ((some FieldType.int)) 0 := ⟨List.mem_append_right _ (List.mem_append_right _ (List.mem_append_left _ (List.mem_of_getElem? (i := 194) rfl))), List.mem_append_right _ (List.mem_append_left _ (List.mem_of_getElem? (i := 5) rfl)), by decide, by decide +kernel⟩
set_option maxRecDepth 20000 in
theorem mdf_al_isEmpty : MD yJx4a65c_isEmpty_aae02 cJx4a65c_isEmpty_aae02 1 ((some FieldType.boolean)) 0 := ⟨List.mem_append_right _ (List.mem_append_right _ (List.mem_append_right _ (List.mem_append_left _ (List.mem_of_getElem? (i := 151) rfl)))), List.mem_append_right _ (List.mem_append_left _ (List.mem_of_getElem? (i := 5) rfl)), by decide, by decide +kernel⟩
set_option maxRecDepth 20000 in
theorem mdf_al_elementData : MD yJx4a65c_elementData_915e3 cJx4a65c_elementData_915e3 2 ((some (FieldType.object "java/lang/Object"))) 1 := ⟨List.mem_append_right _ (List.mem_append_right _ (List.mem_append_right _ (List.mem_append_left _ (List.mem_of_getElem? (i := 169) rfl)))), List.mem_append_right _ (List.mem_append_left _ (List.mem_of_getElem? (i := 5) rfl)), by decide, by decide +kernel⟩
set_option maxRecDepth 20000 in
theorem mdf_al_get : MD yJx4a65c_get_915e3 cJx4a65c_get_915e3 2 ((some (FieldType.object "java/lang/Object"))) 1 := ⟨List.mem_append_right _ (List.mem_append_right _ (List.mem_append_right _ (List.mem_append_left _ (List.mem_of_getElem? (i := 165) rfl)))), List.mem_append_right _ (List.mem_append_left _ (List.mem_of_getElem? (i := 5) rfl)), by decide, by decide +kernel⟩
set_option maxRecDepth 20000 in
theorem mdf_al_add3 : MD yJx4a65c_add_72be8 cJx4a65c_add_72be8 4 (none) 3 := ⟨List.mem_append_right _ (List.mem_append_right _ (List.mem_append_left _ (List.mem_of_getElem? (i := 233) rfl))), List.mem_append_right _ (List.mem_append_left _ (List.mem_of_getElem? (i := 5) rfl)), by decide, by decide +kernel⟩
set_option maxRecDepth 20000 in
theorem mdf_al_add1 : MD yJx4a65c_add_9ea2d cJx4a65c_add_9ea2d 2 ((some FieldType.boolean)) 1 := ⟨List.mem_append_right _ (List.mem_append_right _ (List.mem_append_left _ (List.mem_of_getElem? (i := 229) rfl))), List.mem_append_right _ (List.mem_append_left _ (List.mem_of_getElem? (i := 5) rfl)), by decide, by decide +kernel⟩
set_option maxRecDepth 20000 in
theorem mdf_al_remove : MD yJx4a65c_remove_915e3 cJx4a65c_remove_915e3 4 ((some (FieldType.object "java/lang/Object"))) 1 := ⟨List.mem_append_right _ (List.mem_append_right _ (List.mem_append_right _ (List.mem_append_left _ (List.mem_of_getElem? (i := 66) rfl)))), List.mem_append_right _ (List.mem_append_left _ (List.mem_of_getElem? (i := 5) rfl)), by decide, by decide +kernel⟩
set_option maxRecDepth 20000 in
theorem mdf_al_fastRemove : MD yJx4a65c_fastRemove_b59b0 cJx4a65c_fastRemove_b59b0 4 (none) 2 := ⟨List.mem_append_right _ (List.mem_append_right _ (List.mem_append_right _ (List.mem_append_left _ (List.mem_of_getElem? (i := 76) rfl)))), List.mem_append_right _ (List.mem_append_left _ (List.mem_of_getElem? (i := 5) rfl)), by decide, by decide +kernel⟩
set_option maxRecDepth 20000 in
theorem mdf_al_clear : MD yJx4a65c_clear_da8c8 cJx4a65c_clear_da8c8 4 (none) 0 := ⟨List.mem_append_right _ (List.mem_append_right _ (List.mem_append_left _ (List.mem_of_getElem? (i := 225) rfl))), List.mem_append_right _ (List.mem_append_left _ (List.mem_of_getElem? (i := 5) rfl)), by decide, by decide +kernel⟩
set_option maxRecDepth 20000 in
theorem mdf_ar_copyOf2 : MD yJ7_copyOf_1904c cJ7_copyOf_1904c 2 ((some (FieldType.array (FieldType.object "java/lang/Object")))) 2 := ⟨List.mem_append_right _ (List.mem_append_right _ (List.mem_append_right _ (List.mem_append_left _ (List.mem_of_getElem? (i := 12) rfl)))), List.mem_append_right _ (List.mem_append_left _ (List.mem_of_getElem? (i := 16) rfl)), by decide, by decide +kernel⟩
set_option maxRecDepth 20000 in
theorem mdf_ar_copyOf3 : MD yJ7_copyOf_6403c cJ7_copyOf_6403c 4 ((some (FieldType.array (FieldType.object "java/lang/Object")))) 3 := ⟨List.mem_append_right _ (List.mem_append_right _ (List.mem_append_right _ (List.mem_append_left _ (List.mem_of_getElem? (i := 33) rfl)))), List.mem_append_right _ (List.mem_append_left _ (List.mem_of_getElem? (i := 16) rfl)), by decide, by decide +kernel⟩
set_option maxRecDepth 20000 in
theorem mdf_oj_checkIndex : MD yJ15_checkIndex_7cf53 cJ15_checkIndex_7cf53 2 ((some FieldType.int)) 2 := ⟨List.mem_append_right _ (List.mem_append_right _ (List.mem_append_right _ (List.mem_append_left _ (List.mem_of_getElem? (i := 69) rfl)))), List.mem_append_right _ (List.mem_append_left _ (List.mem_of_getElem? (i := 19) rfl)), by decide, by decide +kernel⟩
set_option maxRecDepth 20000 in
theorem mdf_as_newLength : MD yJ8_newLength_cabcc cJ8_newLength_cabcc 4 ((some FieldType.int)) 3 := ⟨List.mem_append_right _ (List.mem_append_right _ (List.mem_append_right _ (List.mem_append_left _ (List.mem_of_getElem? (i := 4) rfl)))), List.mem_append_right _ (List.mem_append_left _ (List.mem_of_getElem? (i := 15) rfl)), by decide, by decide +kernel⟩
set_option maxRecDepth 20000 in
theorem mdf_as_hugeLength : MD yJ8_hugeLength_7cf53 cJ8_hugeLength_7cf53 3 ((some FieldType.int)) 2 := ⟨List.mem_append_right _ (List.mem_append_right _ (List.mem_append_right _ (List.mem_append_left _ (List.mem_of_getElem? (i := 9) rfl)))), List.mem_append_right _ (List.mem_append_left _ (List.mem_of_getElem? (i := 15) rfl)), by decide, by decide +kernel⟩
set_option maxRecDepth 20000 in
theorem mdf_pr_checkIndex : MD yJ3_checkIndex_8e157 cJ3_checkIndex_8e157 3 ((some FieldType.int)) 3 := ⟨List.mem_append_right _ (List.mem_append_right _ (List.mem_append_right _ (List.mem_append_left _ (List.mem_of_getElem? (i := 72) rfl)))), List.mem_append_right _ (List.mem_append_left _ (List.mem_of_getElem? (i := 20) rfl)), by decide, by decide +kernel⟩
def wI (y : MethodName) : Prop := Cond.instanceMethod y ∈ lw_tbl
set_option maxRecDepth 20000 in
theorem wi_ed_init : wI yX0_init := List.mem_append_right _ (List.mem_append_right _ (List.mem_append_left _ (List.mem_of_getElem? (i := 198) rfl)))
set_option maxRecDepth 20000 in
theorem wi_fd_init : wI yX1_init := List.mem_append_right _ (List.mem_append_left _ (List.mem_of_getElem? (i := 238) rfl))
set_option maxRecDepth 20000 in
theorem wi_fd_has : wI yX1_has := List.mem_append_right _ (List.mem_append_right _ (List.mem_append_left _ (List.mem_of_getElem? (i := 154) rfl)))
set_option maxRecDepth 20000 in
theorem wz_fd_has : Cond.selects yX1_has.cls yX1_has yX1_has ∈ lw_tbl := List.mem_append_right _ (List.mem_append_right _ (List.mem_append_left _ (List.mem_of_getElem? (i := 155) rfl)))
set_option maxRecDepth 20000 in
theorem wi_fd_isNumeric : wI yX1_isNumeric := List.mem_append_right _ (List.mem_append_right _ (List.mem_append_left _ (List.mem_of_getElem? (i := 43) rfl)))
set_option maxRecDepth 20000 in
theorem wz_fd_isNumeric : Cond.selects yX1_isNumeric.cls yX1_isNumeric yX1_isNumeric ∈ lw_tbl := List.mem_append_right _ (List.mem_append_right _ (List.mem_append_left _ (List.mem_of_getElem? (i := 44) rfl)))
set_option maxRecDepth 20000 in
theorem wi_fd_leads : wI yX1_leads := List.mem_append_right _ (List.mem_append_right _ (List.mem_append_left _ (List.mem_of_getElem? (i := 126) rfl)))
set_option maxRecDepth 20000 in
theorem wz_fd_leads : Cond.selects yX1_leads.cls yX1_leads yX1_leads ∈ lw_tbl := List.mem_append_right _ (List.mem_append_right _ (List.mem_append_left _ (List.mem_of_getElem? (i := 127) rfl)))
set_option maxRecDepth 20000 in
theorem wi_fd_holdsOn : wI yX1_holdsOn := List.mem_append_right _ (List.mem_append_right _ (List.mem_append_left _ (List.mem_of_getElem? (i := 149) rfl)))
set_option maxRecDepth 20000 in
theorem wz_fd_holdsOn : Cond.selects yX1_holdsOn.cls yX1_holdsOn yX1_holdsOn ∈ lw_tbl := List.mem_append_right _ (List.mem_append_right _ (List.mem_append_left _ (List.mem_of_getElem? (i := 150) rfl)))
set_option maxRecDepth 20000 in
theorem wi_fd_firstRow : wI yX1_firstRow := List.mem_append_right _ (List.mem_append_right _ (List.mem_append_left _ (List.mem_of_getElem? (i := 71) rfl)))
set_option maxRecDepth 20000 in
theorem wz_fd_firstRow : Cond.selects yX1_firstRow.cls yX1_firstRow yX1_firstRow ∈ lw_tbl := List.mem_append_right _ (List.mem_append_right _ (List.mem_append_left _ (List.mem_of_getElem? (i := 72) rfl)))
set_option maxRecDepth 20000 in
theorem wi_fd_plainValue : wI yX1_plainValue := List.mem_append_right _ (List.mem_append_right _ (List.mem_append_left _ (List.mem_of_getElem? (i := 92) rfl)))
set_option maxRecDepth 20000 in
theorem wz_fd_plainValue : Cond.selects yX1_plainValue.cls yX1_plainValue yX1_plainValue ∈ lw_tbl := List.mem_append_right _ (List.mem_append_right _ (List.mem_append_left _ (List.mem_of_getElem? (i := 93) rfl)))
set_option maxRecDepth 20000 in
theorem wi_gr_init : wI yX2_init := List.mem_append_right _ (List.mem_append_right _ (List.mem_append_right _ (List.mem_append_left _ (List.mem_of_getElem? (i := 48) rfl))))
set_option maxRecDepth 20000 in
theorem wi_hi_init : wI yX3_init := List.mem_append_right _ (List.mem_append_left _ (List.mem_of_getElem? (i := 42) rfl))
set_option maxRecDepth 20000 in
theorem wi_hi_hasRoom : wI yX3_hasRoom := List.mem_append_right _ (List.mem_append_right _ (List.mem_append_left _ (List.mem_of_getElem? (i := 188) rfl)))
set_option maxRecDepth 20000 in
theorem wz_hi_hasRoom : Cond.selects yX3_hasRoom.cls yX3_hasRoom yX3_hasRoom ∈ lw_tbl := List.mem_append_right _ (List.mem_append_right _ (List.mem_append_left _ (List.mem_of_getElem? (i := 189) rfl)))
set_option maxRecDepth 20000 in
theorem wi_hi_keep : wI yX3_keep := List.mem_append_right _ (List.mem_append_right _ (List.mem_append_left _ (List.mem_of_getElem? (i := 219) rfl)))
set_option maxRecDepth 20000 in
theorem wz_hi_keep : Cond.selects yX3_keep.cls yX3_keep yX3_keep ∈ lw_tbl := List.mem_append_right _ (List.mem_append_right _ (List.mem_append_left _ (List.mem_of_getElem? (i := 220) rfl)))
set_option maxRecDepth 20000 in
theorem wi_hi_push : wI yX3_push := List.mem_append_right _ (List.mem_append_right _ (List.mem_append_right _ (List.mem_append_left _ (List.mem_of_getElem? (i := 60) rfl))))
set_option maxRecDepth 20000 in
theorem wz_hi_push : Cond.selects yX3_push.cls yX3_push yX3_push ∈ lw_tbl := List.mem_append_right _ (List.mem_append_right _ (List.mem_append_right _ (List.mem_append_left _ (List.mem_of_getElem? (i := 61) rfl))))
set_option maxRecDepth 20000 in
theorem wi_pa_init : wI yX4_init := List.mem_append_right _ (List.mem_append_left _ (List.mem_of_getElem? (i := 107) rfl))
set_option maxRecDepth 20000 in
theorem wi_pa_start : wI yX4_start := List.mem_append_right _ (List.mem_append_right _ (List.mem_append_right _ (List.mem_append_right _ (List.mem_append_left _ (List.mem_of_getElem? (i := 37) rfl)))))
set_option maxRecDepth 20000 in
theorem wz_pa_start : Cond.selects yX4_start.cls yX4_start yX4_start ∈ lw_tbl := List.mem_append_right _ (List.mem_append_right _ (List.mem_append_right _ (List.mem_append_right _ (List.mem_append_left _ (List.mem_of_getElem? (i := 38) rfl)))))
set_option maxRecDepth 20000 in
theorem wi_pa_join : wI yX4_join := List.mem_append_right _ (List.mem_append_right _ (List.mem_append_right _ (List.mem_append_right _ (List.mem_append_left _ (List.mem_of_getElem? (i := 41) rfl)))))
set_option maxRecDepth 20000 in
theorem wz_pa_join : Cond.selects yX4_join.cls yX4_join yX4_join ∈ lw_tbl := List.mem_append_right _ (List.mem_append_right _ (List.mem_append_right _ (List.mem_append_right _ (List.mem_append_left _ (List.mem_of_getElem? (i := 42) rfl)))))
set_option maxRecDepth 20000 in
theorem wi_pt_init : wI yX5_init := List.mem_append_right _ (List.mem_append_right _ (List.mem_append_right _ (List.mem_append_left _ (List.mem_of_getElem? (i := 190) rfl))))
set_option maxRecDepth 20000 in
theorem wi_pt_append : wI yX5_append := List.mem_append_right _ (List.mem_append_right _ (List.mem_append_right _ (List.mem_append_left _ (List.mem_of_getElem? (i := 219) rfl))))
set_option maxRecDepth 20000 in
theorem wz_pt_append : Cond.selects yX5_append.cls yX5_append yX5_append ∈ lw_tbl := List.mem_append_right _ (List.mem_append_right _ (List.mem_append_right _ (List.mem_append_left _ (List.mem_of_getElem? (i := 220) rfl))))
set_option maxRecDepth 20000 in
theorem wi_re_init : wI yX6_init := List.mem_append_right _ (List.mem_append_left _ (List.mem_of_getElem? (i := 87) rfl))
set_option maxRecDepth 20000 in
theorem wi_re_start : wI yX6_start := List.mem_append_right _ (List.mem_append_right _ (List.mem_append_left _ (List.mem_of_getElem? (i := 141) rfl)))
set_option maxRecDepth 20000 in
theorem wz_re_start : Cond.selects yX6_start.cls yX6_start yX6_start ∈ lw_tbl := List.mem_append_right _ (List.mem_append_right _ (List.mem_append_left _ (List.mem_of_getElem? (i := 142) rfl)))
set_option maxRecDepth 20000 in
theorem wi_re_addAll : wI yX6_addAll := List.mem_append_right _ (List.mem_append_right _ (List.mem_append_left _ (List.mem_of_getElem? (i := 158) rfl)))
set_option maxRecDepth 20000 in
theorem wz_re_addAll : Cond.selects yX6_addAll.cls yX6_addAll yX6_addAll ∈ lw_tbl := List.mem_append_right _ (List.mem_append_right _ (List.mem_append_left _ (List.mem_of_getElem? (i := 159) rfl)))
set_option maxRecDepth 20000 in
theorem wi_re_add : wI yX6_add := List.mem_append_right _ (List.mem_append_right _ (List.mem_append_left _ (List.mem_of_getElem? (i := 146) rfl)))
set_option maxRecDepth 20000 in
theorem wz_re_add : Cond.selects yX6_add.cls yX6_add yX6_add ∈ lw_tbl := List.mem_append_left _ (List.mem_map.mpr ⟨(yX6_add, _), (List.mem_append_left _ (List.mem_of_getElem? (i := 9) rfl)), rfl⟩)
set_option maxRecDepth 20000 in
theorem wi_sh_init : wI yX7_init := List.mem_append_right _ (List.mem_append_left _ (List.mem_of_getElem? (i := 198) rfl))
set_option maxRecDepth 20000 in
theorem wi_sh_inherit : wI yX7_inherit := List.mem_append_right _ (List.mem_append_left _ (List.mem_of_getElem? (i := 220) rfl))
set_option maxRecDepth 20000 in
theorem wz_sh_inherit : Cond.selects yX7_inherit.cls yX7_inherit yX7_inherit ∈ lw_tbl := List.mem_append_right _ (List.mem_append_left _ (List.mem_of_getElem? (i := 221) rfl))
set_option maxRecDepth 20000 in
theorem wi_sh_append : wI yX7_append := List.mem_append_right _ (List.mem_append_left _ (List.mem_of_getElem? (i := 224) rfl))
set_option maxRecDepth 20000 in
theorem wz_sh_append : Cond.selects yX7_append.cls yX7_append yX7_append ∈ lw_tbl := List.mem_append_right _ (List.mem_append_left _ (List.mem_of_getElem? (i := 225) rfl))
set_option maxRecDepth 20000 in
theorem wi_sh_fieldAt : wI yX7_fieldAt := List.mem_append_right _ (List.mem_append_right _ (List.mem_append_left _ (List.mem_of_getElem? (i := 39) rfl)))
set_option maxRecDepth 20000 in
theorem wz_sh_fieldAt : Cond.selects yX7_fieldAt.cls yX7_fieldAt yX7_fieldAt ∈ lw_tbl := List.mem_append_right _ (List.mem_append_right _ (List.mem_append_left _ (List.mem_of_getElem? (i := 40) rfl)))
set_option maxRecDepth 20000 in
theorem wi_so_init : wI yX8_init := List.mem_append_right _ (List.mem_append_left _ (List.mem_of_getElem? (i := 129) rfl))
set_option maxRecDepth 20000 in
theorem wi_so_add : wI yX8_add := List.mem_append_right _ (List.mem_append_right _ (List.mem_append_right _ (List.mem_append_right _ (List.mem_append_left _ (List.mem_of_getElem? (i := 2) rfl)))))
set_option maxRecDepth 20000 in
theorem wz_so_add : Cond.selects yX8_add.cls yX8_add yX8_add ∈ lw_tbl := List.mem_append_right _ (List.mem_append_right _ (List.mem_append_right _ (List.mem_append_right _ (List.mem_append_left _ (List.mem_of_getElem? (i := 3) rfl)))))
set_option maxRecDepth 20000 in
theorem wi_th_init : wI yX9_init := List.mem_append_right _ (List.mem_append_right _ (List.mem_append_left _ (List.mem_of_getElem? (i := 56) rfl)))
set_option maxRecDepth 20000 in
theorem wi_wa_init : wI yX10_init := List.mem_append_right _ (List.mem_append_right _ (List.mem_append_right _ (List.mem_append_right _ (List.mem_append_left _ (List.mem_of_getElem? (i := 58) rfl)))))
set_option maxRecDepth 20000 in
theorem wi_wa_write : wI yX10_write := List.mem_append_right _ (List.mem_append_right _ (List.mem_append_right _ (List.mem_append_left _ (List.mem_of_getElem? (i := 83) rfl))))
set_option maxRecDepth 20000 in
theorem wz_wa_write : Cond.selects yX10_write.cls yX10_write yX10_write ∈ lw_tbl := List.mem_append_right _ (List.mem_append_right _ (List.mem_append_right _ (List.mem_append_left _ (List.mem_of_getElem? (i := 84) rfl))))
set_option maxRecDepth 20000 in
theorem wi_fe_init : wI yX11_init := List.mem_append_right _ (List.mem_append_left _ (List.mem_of_getElem? (i := 26) rfl))
set_option maxRecDepth 20000 in
theorem wi_fe_shape : wI yX11_shape := List.mem_append_right _ (List.mem_append_left _ (List.mem_of_getElem? (i := 189) rfl))
set_option maxRecDepth 20000 in
theorem wz_fe_shape : Cond.selects yX11_shape.cls yX11_shape yX11_shape ∈ lw_tbl := List.mem_append_right _ (List.mem_append_left _ (List.mem_of_getElem? (i := 190) rfl))
set_option maxRecDepth 20000 in
theorem wi_fe_number : wI yX11_number := List.mem_append_right _ (List.mem_append_left _ (List.mem_of_getElem? (i := 228) rfl))
set_option maxRecDepth 20000 in
theorem wz_fe_number : Cond.selects yX11_number.cls yX11_number yX11_number ∈ lw_tbl := List.mem_append_right _ (List.mem_append_left _ (List.mem_of_getElem? (i := 229) rfl))
set_option maxRecDepth 20000 in
theorem wi_fe_link : wI yX11_link := List.mem_append_right _ (List.mem_append_right _ (List.mem_append_left _ (List.mem_of_getElem? (i := 27) rfl)))
set_option maxRecDepth 20000 in
theorem wz_fe_link : Cond.selects yX11_link.cls yX11_link yX11_link ∈ lw_tbl := List.mem_append_right _ (List.mem_append_right _ (List.mem_append_left _ (List.mem_of_getElem? (i := 28) rfl)))
set_option maxRecDepth 20000 in
theorem wi_fe_derived : wI yX11_derived := List.mem_append_right _ (List.mem_append_right _ (List.mem_append_left _ (List.mem_of_getElem? (i := 31) rfl)))
set_option maxRecDepth 20000 in
theorem wz_fe_derived : Cond.selects yX11_derived.cls yX11_derived yX11_derived ∈ lw_tbl := List.mem_append_right _ (List.mem_append_right _ (List.mem_append_left _ (List.mem_of_getElem? (i := 32) rfl)))
set_option maxRecDepth 20000 in
theorem wi_fe_told : wI yX11_told := List.mem_append_right _ (List.mem_append_right _ (List.mem_append_left _ (List.mem_of_getElem? (i := 47) rfl)))
set_option maxRecDepth 20000 in
theorem wz_fe_told : Cond.selects yX11_told.cls yX11_told yX11_told ∈ lw_tbl := List.mem_append_right _ (List.mem_append_right _ (List.mem_append_left _ (List.mem_of_getElem? (i := 48) rfl)))
set_option maxRecDepth 20000 in
theorem wi_fe_isShape : wI yX11_isShape := List.mem_append_right _ (List.mem_append_left _ (List.mem_of_getElem? (i := 194) rfl))
set_option maxRecDepth 20000 in
theorem wz_fe_isShape : Cond.selects yX11_isShape.cls yX11_isShape yX11_isShape ∈ lw_tbl := List.mem_append_left _ (List.mem_map.mpr ⟨(yX11_isShape, _), (List.mem_append_left _ (List.mem_of_getElem? (i := 0) rfl)), rfl⟩)
set_option maxRecDepth 20000 in
theorem ws_fe_flags : Cond.static yX11_flags ∈ lw_tbl := List.mem_append_right _ (List.mem_append_left _ (List.mem_of_getElem? (i := 235) rfl))
set_option maxRecDepth 20000 in
theorem ws_fe_addField : Cond.static yX11_addField ∈ lw_tbl := List.mem_append_right _ (List.mem_append_right _ (List.mem_append_left _ (List.mem_of_getElem? (i := 23) rfl)))
set_option maxRecDepth 20000 in
theorem wi_fe_canFollow : wI yX11_canFollow := List.mem_append_right _ (List.mem_append_right _ (List.mem_append_left _ (List.mem_of_getElem? (i := 36) rfl)))
set_option maxRecDepth 20000 in
theorem wz_fe_canFollow : Cond.selects yX11_canFollow.cls yX11_canFollow yX11_canFollow ∈ lw_tbl := List.mem_append_left _ (List.mem_map.mpr ⟨(yX11_canFollow, _), (List.mem_append_left _ (List.mem_of_getElem? (i := 1) rfl)), rfl⟩)
set_option maxRecDepth 20000 in
theorem wi_fe_isOf : wI yX11_isOf := List.mem_append_right _ (List.mem_append_right _ (List.mem_append_left _ (List.mem_of_getElem? (i := 181) rfl)))
set_option maxRecDepth 20000 in
theorem wz_fe_isOf : Cond.selects yX11_isOf.cls yX11_isOf yX11_isOf ∈ lw_tbl := List.mem_append_left _ (List.mem_map.mpr ⟨(yX11_isOf, _), (List.mem_append_left _ (List.mem_of_getElem? (i := 13) rfl)), rfl⟩)
set_option maxRecDepth 20000 in
theorem wi_fe_object : wI yX11_object := List.mem_append_right _ (List.mem_append_right _ (List.mem_append_left _ (List.mem_of_getElem? (i := 51) rfl)))
set_option maxRecDepth 20000 in
theorem wz_fe_object : Cond.selects yX11_object.cls yX11_object yX11_object ∈ lw_tbl := List.mem_append_right _ (List.mem_append_right _ (List.mem_append_left _ (List.mem_of_getElem? (i := 52) rfl)))
set_option maxRecDepth 20000 in
theorem wi_fe_get : wI yX11_get := List.mem_append_right _ (List.mem_append_right _ (List.mem_append_left _ (List.mem_of_getElem? (i := 76) rfl)))
set_option maxRecDepth 20000 in
theorem wz_fe_get : Cond.selects yX11_get.cls yX11_get yX11_get ∈ lw_tbl := List.mem_append_right _ (List.mem_append_right _ (List.mem_append_left _ (List.mem_of_getElem? (i := 77) rfl)))
set_option maxRecDepth 20000 in
theorem wi_fe_element : wI yX11_element := List.mem_append_right _ (List.mem_append_right _ (List.mem_append_left _ (List.mem_of_getElem? (i := 114) rfl)))
set_option maxRecDepth 20000 in
theorem wz_fe_element : Cond.selects yX11_element.cls yX11_element yX11_element ∈ lw_tbl := List.mem_append_right _ (List.mem_append_right _ (List.mem_append_left _ (List.mem_of_getElem? (i := 115) rfl)))
set_option maxRecDepth 20000 in
theorem wi_fe_shapeOf : wI yX11_shapeOf := List.mem_append_right _ (List.mem_append_right _ (List.mem_append_left _ (List.mem_of_getElem? (i := 118) rfl)))
set_option maxRecDepth 20000 in
theorem wz_fe_shapeOf : Cond.selects yX11_shapeOf.cls yX11_shapeOf yX11_shapeOf ∈ lw_tbl := List.mem_append_right _ (List.mem_append_right _ (List.mem_append_left _ (List.mem_of_getElem? (i := 119) rfl)))
set_option maxRecDepth 20000 in
theorem wi_fe_holders : wI yX11_holders := List.mem_append_right _ (List.mem_append_right _ (List.mem_append_left _ (List.mem_of_getElem? (i := 122) rfl)))
set_option maxRecDepth 20000 in
theorem wz_fe_holders : Cond.selects yX11_holders.cls yX11_holders yX11_holders ∈ lw_tbl := List.mem_append_right _ (List.mem_append_right _ (List.mem_append_left _ (List.mem_of_getElem? (i := 123) rfl)))
set_option maxRecDepth 20000 in
theorem wi_fe_holds : wI yX11_holds := List.mem_append_right _ (List.mem_append_right _ (List.mem_append_left _ (List.mem_of_getElem? (i := 133) rfl)))
set_option maxRecDepth 20000 in
theorem wz_fe_holds : Cond.selects yX11_holds.cls yX11_holds yX11_holds ∈ lw_tbl := List.mem_append_right _ (List.mem_append_right _ (List.mem_append_left _ (List.mem_of_getElem? (i := 134) rfl)))
set_option maxRecDepth 20000 in
theorem wi_fe_isThing : wI yX11_isThing := List.mem_append_right _ (List.mem_append_right _ (List.mem_append_left _ (List.mem_of_getElem? (i := 85) rfl)))
set_option maxRecDepth 20000 in
theorem wz_fe_isThing : Cond.selects yX11_isThing.cls yX11_isThing yX11_isThing ∈ lw_tbl := List.mem_append_left _ (List.mem_map.mpr ⟨(yX11_isThing, _), (List.mem_append_left _ (List.mem_of_getElem? (i := 3) rfl)), rfl⟩)
set_option maxRecDepth 20000 in
theorem wi_fe_fieldOf : wI yX11_fieldOf := List.mem_append_right _ (List.mem_append_right _ (List.mem_append_left _ (List.mem_of_getElem? (i := 81) rfl)))
set_option maxRecDepth 20000 in
theorem wz_fe_fieldOf : Cond.selects yX11_fieldOf.cls yX11_fieldOf yX11_fieldOf ∈ lw_tbl := List.mem_append_left _ (List.mem_map.mpr ⟨(yX11_fieldOf, _), (List.mem_append_left _ (List.mem_of_getElem? (i := 2) rfl)), rfl⟩)
set_option maxRecDepth 20000 in
theorem ws_fe_timesIn : Cond.static yX11_timesIn ∈ lw_tbl := List.mem_append_right _ (List.mem_append_right _ (List.mem_append_left _ (List.mem_of_getElem? (i := 130) rfl)))
set_option maxRecDepth 20000 in
theorem wi_fe_valueOf : wI yX11_valueOf := List.mem_append_right _ (List.mem_append_right _ (List.mem_append_left _ (List.mem_of_getElem? (i := 89) rfl)))
set_option maxRecDepth 20000 in
theorem wz_fe_valueOf : Cond.selects yX11_valueOf.cls yX11_valueOf yX11_valueOf ∈ lw_tbl := List.mem_append_left _ (List.mem_map.mpr ⟨(yX11_valueOf, _), (List.mem_append_left _ (List.mem_of_getElem? (i := 4) rfl)), rfl⟩)
set_option maxRecDepth 20000 in
theorem wi_fe_fillValues : wI yX11_fillValues := List.mem_append_right _ (List.mem_append_right _ (List.mem_append_left _ (List.mem_of_getElem? (i := 97) rfl)))
set_option maxRecDepth 20000 in
theorem wz_fe_fillValues : Cond.selects yX11_fillValues.cls yX11_fillValues yX11_fillValues ∈ lw_tbl := List.mem_append_left _ (List.mem_map.mpr ⟨(yX11_fillValues, _), (List.mem_append_left _ (List.mem_of_getElem? (i := 5) rfl)), rfl⟩)
set_option maxRecDepth 20000 in
theorem wi_fe_derive : wI yX11_derive := List.mem_append_right _ (List.mem_append_right _ (List.mem_append_left _ (List.mem_of_getElem? (i := 101) rfl)))
set_option maxRecDepth 20000 in
theorem wz_fe_derive : Cond.selects yX11_derive.cls yX11_derive yX11_derive ∈ lw_tbl := List.mem_append_left _ (List.mem_map.mpr ⟨(yX11_derive, _), (List.mem_append_left _ (List.mem_of_getElem? (i := 6) rfl)), rfl⟩)
set_option maxRecDepth 20000 in
theorem ws_fe_ofTwo : Cond.static yX11_ofTwo ∈ lw_tbl := List.mem_append_right _ (List.mem_append_right _ (List.mem_append_left _ (List.mem_of_getElem? (i := 108) rfl)))
set_option maxRecDepth 20000 in
theorem wi_fe_total : wI yX11_total := List.mem_append_right _ (List.mem_append_right _ (List.mem_append_left _ (List.mem_of_getElem? (i := 105) rfl)))
set_option maxRecDepth 20000 in
theorem wz_fe_total : Cond.selects yX11_total.cls yX11_total yX11_total ∈ lw_tbl := List.mem_append_left _ (List.mem_map.mpr ⟨(yX11_total, _), (List.mem_append_left _ (List.mem_of_getElem? (i := 7) rfl)), rfl⟩)
set_option maxRecDepth 20000 in
theorem wi_fe_reach : wI yX11_reach := List.mem_append_right _ (List.mem_append_right _ (List.mem_append_left _ (List.mem_of_getElem? (i := 138) rfl)))
set_option maxRecDepth 20000 in
theorem wz_fe_reach : Cond.selects yX11_reach.cls yX11_reach yX11_reach ∈ lw_tbl := List.mem_append_left _ (List.mem_map.mpr ⟨(yX11_reach, _), (List.mem_append_left _ (List.mem_of_getElem? (i := 8) rfl)), rfl⟩)
set_option maxRecDepth 20000 in
theorem wi_fe_set : wI yX11_set := List.mem_append_right _ (List.mem_append_right _ (List.mem_append_left _ (List.mem_of_getElem? (i := 163) rfl)))
set_option maxRecDepth 20000 in
theorem wz_fe_set : Cond.selects yX11_set.cls yX11_set yX11_set ∈ lw_tbl := List.mem_append_right _ (List.mem_append_right _ (List.mem_append_left _ (List.mem_of_getElem? (i := 164) rfl)))
set_option maxRecDepth 20000 in
theorem wi_fe_lead : wI yX11_lead := List.mem_append_right _ (List.mem_append_right _ (List.mem_append_right _ (List.mem_append_left _ (List.mem_of_getElem? (i := 87) rfl))))
set_option maxRecDepth 20000 in
theorem wz_fe_lead : Cond.selects yX11_lead.cls yX11_lead yX11_lead ∈ lw_tbl := List.mem_append_right _ (List.mem_append_right _ (List.mem_append_right _ (List.mem_append_left _ (List.mem_of_getElem? (i := 88) rfl))))
set_option maxRecDepth 20000 in
theorem wi_fe_unset : wI yX11_unset := List.mem_append_right _ (List.mem_append_right _ (List.mem_append_right _ (List.mem_append_left _ (List.mem_of_getElem? (i := 95) rfl))))
set_option maxRecDepth 20000 in
theorem wz_fe_unset : Cond.selects yX11_unset.cls yX11_unset yX11_unset ∈ lw_tbl := List.mem_append_right _ (List.mem_append_right _ (List.mem_append_right _ (List.mem_append_left _ (List.mem_of_getElem? (i := 96) rfl))))
set_option maxRecDepth 20000 in
theorem wi_fe_insert : wI yX11_insert := List.mem_append_right _ (List.mem_append_right _ (List.mem_append_right _ (List.mem_append_left _ (List.mem_of_getElem? (i := 99) rfl))))
set_option maxRecDepth 20000 in
theorem wz_fe_insert : Cond.selects yX11_insert.cls yX11_insert yX11_insert ∈ lw_tbl := List.mem_append_right _ (List.mem_append_right _ (List.mem_append_right _ (List.mem_append_left _ (List.mem_of_getElem? (i := 100) rfl))))
set_option maxRecDepth 20000 in
theorem wi_fe_remove : wI yX11_remove := List.mem_append_right _ (List.mem_append_right _ (List.mem_append_right _ (List.mem_append_left _ (List.mem_of_getElem? (i := 107) rfl))))
set_option maxRecDepth 20000 in
theorem wz_fe_remove : Cond.selects yX11_remove.cls yX11_remove yX11_remove ∈ lw_tbl := List.mem_append_right _ (List.mem_append_right _ (List.mem_append_right _ (List.mem_append_left _ (List.mem_of_getElem? (i := 108) rfl))))
set_option maxRecDepth 20000 in
theorem wi_fe_sort : wI yX11_sort := List.mem_append_right _ (List.mem_append_right _ (List.mem_append_right _ (List.mem_append_left _ (List.mem_of_getElem? (i := 114) rfl))))
set_option maxRecDepth 20000 in
theorem wz_fe_sort : Cond.selects yX11_sort.cls yX11_sort yX11_sort ∈ lw_tbl := List.mem_append_right _ (List.mem_append_right _ (List.mem_append_right _ (List.mem_append_left _ (List.mem_of_getElem? (i := 115) rfl))))
set_option maxRecDepth 20000 in
theorem wi_fe_begin : wI yX11_begin := List.mem_append_right _ (List.mem_append_right _ (List.mem_append_right _ (List.mem_append_left _ (List.mem_of_getElem? (i := 139) rfl))))
set_option maxRecDepth 20000 in
theorem wz_fe_begin : Cond.selects yX11_begin.cls yX11_begin yX11_begin ∈ lw_tbl := List.mem_append_right _ (List.mem_append_right _ (List.mem_append_right _ (List.mem_append_left _ (List.mem_of_getElem? (i := 140) rfl))))
set_option maxRecDepth 20000 in
theorem wi_fe_commit : wI yX11_commit := List.mem_append_right _ (List.mem_append_right _ (List.mem_append_right _ (List.mem_append_left _ (List.mem_of_getElem? (i := 145) rfl))))
set_option maxRecDepth 20000 in
theorem wz_fe_commit : Cond.selects yX11_commit.cls yX11_commit yX11_commit ∈ lw_tbl := List.mem_append_right _ (List.mem_append_right _ (List.mem_append_right _ (List.mem_append_left _ (List.mem_of_getElem? (i := 146) rfl))))
set_option maxRecDepth 20000 in
theorem wi_fe_abort : wI yX11_abort := List.mem_append_right _ (List.mem_append_right _ (List.mem_append_right _ (List.mem_append_left _ (List.mem_of_getElem? (i := 155) rfl))))
set_option maxRecDepth 20000 in
theorem wz_fe_abort : Cond.selects yX11_abort.cls yX11_abort yX11_abort ∈ lw_tbl := List.mem_append_right _ (List.mem_append_right _ (List.mem_append_right _ (List.mem_append_left _ (List.mem_of_getElem? (i := 156) rfl))))
set_option maxRecDepth 20000 in
theorem wi_fe_undo : wI yX11_undo := List.mem_append_right _ (List.mem_append_right _ (List.mem_append_right _ (List.mem_append_left _ (List.mem_of_getElem? (i := 171) rfl))))
set_option maxRecDepth 20000 in
theorem wz_fe_undo : Cond.selects yX11_undo.cls yX11_undo yX11_undo ∈ lw_tbl := List.mem_append_right _ (List.mem_append_right _ (List.mem_append_right _ (List.mem_append_left _ (List.mem_of_getElem? (i := 172) rfl))))
set_option maxRecDepth 20000 in
theorem wi_fe_redo : wI yX11_redo := List.mem_append_right _ (List.mem_append_right _ (List.mem_append_right _ (List.mem_append_left _ (List.mem_of_getElem? (i := 177) rfl))))
set_option maxRecDepth 20000 in
theorem wz_fe_redo : Cond.selects yX11_redo.cls yX11_redo yX11_redo ∈ lw_tbl := List.mem_append_right _ (List.mem_append_right _ (List.mem_append_right _ (List.mem_append_left _ (List.mem_of_getElem? (i := 178) rfl))))
set_option maxRecDepth 20000 in
theorem wi_fe_isLocked : wI yX11_isLocked := List.mem_append_right _ (List.mem_append_right _ (List.mem_append_left _ (List.mem_of_getElem? (i := 168) rfl)))
set_option maxRecDepth 20000 in
theorem wz_fe_isLocked : Cond.selects yX11_isLocked.cls yX11_isLocked yX11_isLocked ∈ lw_tbl := List.mem_append_left _ (List.mem_map.mpr ⟨(yX11_isLocked, _), (List.mem_append_left _ (List.mem_of_getElem? (i := 10) rfl)), rfl⟩)
set_option maxRecDepth 20000 in
theorem wi_fe_wouldLoop : wI yX11_wouldLoop := List.mem_append_right _ (List.mem_append_right _ (List.mem_append_right _ (List.mem_append_left _ (List.mem_of_getElem? (i := 92) rfl))))
set_option maxRecDepth 20000 in
theorem wz_fe_wouldLoop : Cond.selects yX11_wouldLoop.cls yX11_wouldLoop yX11_wouldLoop ∈ lw_tbl := List.mem_append_left _ (List.mem_map.mpr ⟨(yX11_wouldLoop, _), (List.mem_append_right _ (List.mem_append_left _ (List.mem_of_getElem? (i := 4) rfl))), rfl⟩)
set_option maxRecDepth 20000 in
theorem wi_fe_isVetoed : wI yX11_isVetoed := List.mem_append_right _ (List.mem_append_right _ (List.mem_append_left _ (List.mem_of_getElem? (i := 173) rfl)))
set_option maxRecDepth 20000 in
theorem wz_fe_isVetoed : Cond.selects yX11_isVetoed.cls yX11_isVetoed yX11_isVetoed ∈ lw_tbl := List.mem_append_left _ (List.mem_map.mpr ⟨(yX11_isVetoed, _), (List.mem_append_left _ (List.mem_of_getElem? (i := 11) rfl)), rfl⟩)
set_option maxRecDepth 20000 in
theorem ws_fe_withPlace : Cond.static yX11_withPlace ∈ lw_tbl := List.mem_append_right _ (List.mem_append_right _ (List.mem_append_right _ (List.mem_append_left _ (List.mem_of_getElem? (i := 103) rfl))))
set_option maxRecDepth 20000 in
theorem ws_fe_withoutPlace : Cond.static yX11_withoutPlace ∈ lw_tbl := List.mem_append_right _ (List.mem_append_right _ (List.mem_append_right _ (List.mem_append_left _ (List.mem_of_getElem? (i := 111) rfl))))
set_option maxRecDepth 20000 in
theorem wi_fe_inOrder : wI yX11_inOrder := List.mem_append_right _ (List.mem_append_right _ (List.mem_append_right _ (List.mem_append_left _ (List.mem_of_getElem? (i := 119) rfl))))
set_option maxRecDepth 20000 in
theorem wz_fe_inOrder : Cond.selects yX11_inOrder.cls yX11_inOrder yX11_inOrder ∈ lw_tbl := List.mem_append_left _ (List.mem_map.mpr ⟨(yX11_inOrder, _), (List.mem_append_right _ (List.mem_append_left _ (List.mem_of_getElem? (i := 5) rfl))), rfl⟩)
set_option maxRecDepth 20000 in
theorem wi_fe_sortKey : wI yX11_sortKey := List.mem_append_right _ (List.mem_append_right _ (List.mem_append_right _ (List.mem_append_left _ (List.mem_of_getElem? (i := 130) rfl))))
set_option maxRecDepth 20000 in
theorem wz_fe_sortKey : Cond.selects yX11_sortKey.cls yX11_sortKey yX11_sortKey ∈ lw_tbl := List.mem_append_left _ (List.mem_map.mpr ⟨(yX11_sortKey, _), (List.mem_append_right _ (List.mem_append_left _ (List.mem_of_getElem? (i := 6) rfl))), rfl⟩)
set_option maxRecDepth 20000 in
theorem ws_fe_goesAhead : Cond.static yX11_goesAhead ∈ lw_tbl := List.mem_append_right _ (List.mem_append_right _ (List.mem_append_right _ (List.mem_append_left _ (List.mem_of_getElem? (i := 133) rfl))))
set_option maxRecDepth 20000 in
theorem ws_fe_swap : Cond.static yX11_swap ∈ lw_tbl := List.mem_append_right _ (List.mem_append_right _ (List.mem_append_right _ (List.mem_append_left _ (List.mem_of_getElem? (i := 136) rfl))))
set_option maxRecDepth 20000 in
theorem wi_fe_take : wI yX11_take := List.mem_append_right _ (List.mem_append_right _ (List.mem_append_left _ (List.mem_of_getElem? (i := 185) rfl)))
set_option maxRecDepth 20000 in
theorem wz_fe_take : Cond.selects yX11_take.cls yX11_take yX11_take ∈ lw_tbl := List.mem_append_left _ (List.mem_map.mpr ⟨(yX11_take, _), (List.mem_append_left _ (List.mem_of_getElem? (i := 14) rfl)), rfl⟩)
set_option maxRecDepth 20000 in
theorem wi_fe_takeBack : wI yX11_takeBack := List.mem_append_right _ (List.mem_append_right _ (List.mem_append_right _ (List.mem_append_left _ (List.mem_of_getElem? (i := 160) rfl))))
set_option maxRecDepth 20000 in
theorem wz_fe_takeBack : Cond.selects yX11_takeBack.cls yX11_takeBack yX11_takeBack ∈ lw_tbl := List.mem_append_left _ (List.mem_map.mpr ⟨(yX11_takeBack, _), (List.mem_append_right _ (List.mem_append_left _ (List.mem_of_getElem? (i := 7) rfl))), rfl⟩)
set_option maxRecDepth 20000 in
theorem wi_fe_doAgain : wI yX11_doAgain := List.mem_append_right _ (List.mem_append_right _ (List.mem_append_right _ (List.mem_append_left _ (List.mem_of_getElem? (i := 182) rfl))))
set_option maxRecDepth 20000 in
theorem wz_fe_doAgain : Cond.selects yX11_doAgain.cls yX11_doAgain yX11_doAgain ∈ lw_tbl := List.mem_append_left _ (List.mem_map.mpr ⟨(yX11_doAgain, _), (List.mem_append_right _ (List.mem_append_left _ (List.mem_of_getElem? (i := 8) rfl))), rfl⟩)
set_option maxRecDepth 20000 in
theorem wi_fe_put : wI yX11_put := List.mem_append_right _ (List.mem_append_right _ (List.mem_append_right _ (List.mem_append_left _ (List.mem_of_getElem? (i := 80) rfl))))
set_option maxRecDepth 20000 in
theorem wz_fe_put : Cond.selects yX11_put.cls yX11_put yX11_put ∈ lw_tbl := List.mem_append_left _ (List.mem_map.mpr ⟨(yX11_put, _), (List.mem_append_right _ (List.mem_append_left _ (List.mem_of_getElem? (i := 3) rfl))), rfl⟩)
set_option maxRecDepth 20000 in
theorem wi_fe_path : wI yX11_path := List.mem_append_right _ (List.mem_append_right _ (List.mem_append_right _ (List.mem_append_left _ (List.mem_of_getElem? (i := 185) rfl))))
set_option maxRecDepth 20000 in
theorem wz_fe_path : Cond.selects yX11_path.cls yX11_path yX11_path ∈ lw_tbl := List.mem_append_right _ (List.mem_append_right _ (List.mem_append_right _ (List.mem_append_left _ (List.mem_of_getElem? (i := 186) rfl))))
set_option maxRecDepth 20000 in
theorem wi_fe_step : wI yX11_step := List.mem_append_right _ (List.mem_append_right _ (List.mem_append_right _ (List.mem_append_left _ (List.mem_of_getElem? (i := 207) rfl))))
set_option maxRecDepth 20000 in
theorem wz_fe_step : Cond.selects yX11_step.cls yX11_step yX11_step ∈ lw_tbl := List.mem_append_right _ (List.mem_append_right _ (List.mem_append_right _ (List.mem_append_left _ (List.mem_of_getElem? (i := 208) rfl))))
set_option maxRecDepth 20000 in
theorem wi_fe_fault : wI yX11_fault := List.mem_append_right _ (List.mem_append_right _ (List.mem_append_right _ (List.mem_append_left _ (List.mem_of_getElem? (i := 223) rfl))))
set_option maxRecDepth 20000 in
theorem wz_fe_fault : Cond.selects yX11_fault.cls yX11_fault yX11_fault ∈ lw_tbl := List.mem_append_right _ (List.mem_append_right _ (List.mem_append_right _ (List.mem_append_left _ (List.mem_of_getElem? (i := 224) rfl))))
set_option maxRecDepth 20000 in
theorem wi_fe_matches : wI yX11_matches := List.mem_append_right _ (List.mem_append_right _ (List.mem_append_right _ (List.mem_append_left _ (List.mem_of_getElem? (i := 234) rfl))))
set_option maxRecDepth 20000 in
theorem wz_fe_matches : Cond.selects yX11_matches.cls yX11_matches yX11_matches ∈ lw_tbl := List.mem_append_right _ (List.mem_append_right _ (List.mem_append_right _ (List.mem_append_left _ (List.mem_of_getElem? (i := 235) rfl))))
set_option maxRecDepth 20000 in
theorem wi_fe_match : wI yX11_match := List.mem_append_right _ (List.mem_append_right _ (List.mem_append_right _ (List.mem_append_right _ (List.mem_append_left _ (List.mem_of_getElem? (i := 17) rfl)))))
set_option maxRecDepth 20000 in
theorem wz_fe_match : Cond.selects yX11_match.cls yX11_match yX11_match ∈ lw_tbl := List.mem_append_right _ (List.mem_append_right _ (List.mem_append_right _ (List.mem_append_right _ (List.mem_append_left _ (List.mem_of_getElem? (i := 18) rfl)))))
set_option maxRecDepth 20000 in
theorem wi_fe_isPath : wI yX11_isPath := List.mem_append_right _ (List.mem_append_right _ (List.mem_append_right _ (List.mem_append_left _ (List.mem_of_getElem? (i := 212) rfl))))
set_option maxRecDepth 20000 in
theorem wz_fe_isPath : Cond.selects yX11_isPath.cls yX11_isPath yX11_isPath ∈ lw_tbl := List.mem_append_left _ (List.mem_map.mpr ⟨(yX11_isPath, _), (List.mem_append_right _ (List.mem_append_left _ (List.mem_of_getElem? (i := 9) rfl))), rfl⟩)
set_option maxRecDepth 20000 in
theorem wi_fe_isStep : wI yX11_isStep := List.mem_append_right _ (List.mem_append_right _ (List.mem_append_right _ (List.mem_append_left _ (List.mem_of_getElem? (i := 216) rfl))))
set_option maxRecDepth 20000 in
theorem wz_fe_isStep : Cond.selects yX11_isStep.cls yX11_isStep yX11_isStep ∈ lw_tbl := List.mem_append_left _ (List.mem_map.mpr ⟨(yX11_isStep, _), (List.mem_append_right _ (List.mem_append_left _ (List.mem_of_getElem? (i := 10) rfl))), rfl⟩)
set_option maxRecDepth 20000 in
theorem wi_fe_judge : wI yX11_judge := List.mem_append_right _ (List.mem_append_right _ (List.mem_append_right _ (List.mem_append_left _ (List.mem_of_getElem? (i := 228) rfl))))
set_option maxRecDepth 20000 in
theorem wz_fe_judge : Cond.selects yX11_judge.cls yX11_judge yX11_judge ∈ lw_tbl := List.mem_append_left _ (List.mem_map.mpr ⟨(yX11_judge, _), (List.mem_append_right _ (List.mem_append_left _ (List.mem_of_getElem? (i := 11) rfl))), rfl⟩)
set_option maxRecDepth 20000 in
theorem ws_fe_judgeField : Cond.static yX11_judgeField ∈ lw_tbl := List.mem_append_right _ (List.mem_append_right _ (List.mem_append_right _ (List.mem_append_left _ (List.mem_of_getElem? (i := 231) rfl))))
set_option maxRecDepth 20000 in
theorem wi_fe_walk : wI yX11_walk := List.mem_append_right _ (List.mem_append_right _ (List.mem_append_right _ (List.mem_append_left _ (List.mem_of_getElem? (i := 239) rfl))))
set_option maxRecDepth 20000 in
theorem wz_fe_walk : Cond.selects yX11_walk.cls yX11_walk yX11_walk ∈ lw_tbl := List.mem_append_left _ (List.mem_map.mpr ⟨(yX11_walk, _), (List.mem_append_right _ (List.mem_append_left _ (List.mem_of_getElem? (i := 12) rfl))), rfl⟩)
set_option maxRecDepth 20000 in
theorem wi_fe_go : wI yX11_go := List.mem_append_right _ (List.mem_append_right _ (List.mem_append_right _ (List.mem_append_right _ (List.mem_append_left _ (List.mem_of_getElem? (i := 7) rfl)))))
set_option maxRecDepth 20000 in
theorem wz_fe_go : Cond.selects yX11_go.cls yX11_go yX11_go ∈ lw_tbl := List.mem_append_left _ (List.mem_map.mpr ⟨(yX11_go, _), (List.mem_append_right _ (List.mem_append_left _ (List.mem_of_getElem? (i := 13) rfl))), rfl⟩)
set_option maxRecDepth 20000 in
theorem wi_fe_goToField : wI yX11_goToField := List.mem_append_right _ (List.mem_append_right _ (List.mem_append_right _ (List.mem_append_right _ (List.mem_append_left _ (List.mem_of_getElem? (i := 11) rfl)))))
set_option maxRecDepth 20000 in
theorem wz_fe_goToField : Cond.selects yX11_goToField.cls yX11_goToField yX11_goToField ∈ lw_tbl := List.mem_append_left _ (List.mem_map.mpr ⟨(yX11_goToField, _), (List.mem_append_right _ (List.mem_append_left _ (List.mem_of_getElem? (i := 14) rfl))), rfl⟩)
set_option maxRecDepth 20000 in
theorem ws_fe_goIntoList : Cond.static yX11_goIntoList ∈ lw_tbl := List.mem_append_right _ (List.mem_append_right _ (List.mem_append_right _ (List.mem_append_right _ (List.mem_append_left _ (List.mem_of_getElem? (i := 14) rfl)))))
set_option maxRecDepth 20000 in
theorem wi_fe_copy : wI yX11_copy := List.mem_append_right _ (List.mem_append_right _ (List.mem_append_right _ (List.mem_append_right _ (List.mem_append_left _ (List.mem_of_getElem? (i := 21) rfl)))))
set_option maxRecDepth 20000 in
theorem wz_fe_copy : Cond.selects yX11_copy.cls yX11_copy yX11_copy ∈ lw_tbl := List.mem_append_right _ (List.mem_append_right _ (List.mem_append_right _ (List.mem_append_right _ (List.mem_append_left _ (List.mem_of_getElem? (i := 22) rfl)))))
set_option maxRecDepth 20000 in
theorem wi_fe_alike : wI yX11_alike := List.mem_append_right _ (List.mem_append_right _ (List.mem_append_right _ (List.mem_append_right _ (List.mem_append_left _ (List.mem_of_getElem? (i := 33) rfl)))))
set_option maxRecDepth 20000 in
theorem wz_fe_alike : Cond.selects yX11_alike.cls yX11_alike yX11_alike ∈ lw_tbl := List.mem_append_right _ (List.mem_append_right _ (List.mem_append_right _ (List.mem_append_right _ (List.mem_append_left _ (List.mem_of_getElem? (i := 34) rfl)))))
set_option maxRecDepth 20000 in
theorem wi_fe_copyOf : wI yX11_copyOf := List.mem_append_right _ (List.mem_append_right _ (List.mem_append_right _ (List.mem_append_right _ (List.mem_append_left _ (List.mem_of_getElem? (i := 26) rfl)))))
set_option maxRecDepth 20000 in
theorem wz_fe_copyOf : Cond.selects yX11_copyOf.cls yX11_copyOf yX11_copyOf ∈ lw_tbl := List.mem_append_left _ (List.mem_map.mpr ⟨(yX11_copyOf, _), (List.mem_append_right _ (List.mem_append_left _ (List.mem_of_getElem? (i := 15) rfl))), rfl⟩)
set_option maxRecDepth 20000 in
theorem wi_fe_leadToCopies : wI yX11_leadToCopies := List.mem_append_right _ (List.mem_append_right _ (List.mem_append_right _ (List.mem_append_right _ (List.mem_append_left _ (List.mem_of_getElem? (i := 30) rfl)))))
set_option maxRecDepth 20000 in
theorem wz_fe_leadToCopies : Cond.selects yX11_leadToCopies.cls yX11_leadToCopies yX11_leadToCopies ∈ lw_tbl := List.mem_append_left _ (List.mem_map.mpr ⟨(yX11_leadToCopies, _), (List.mem_append_right _ (List.mem_append_right _ (List.mem_append_left _ (List.mem_of_getElem? (i := 0) rfl)))), rfl⟩)
set_option maxRecDepth 20000 in
theorem wi_fe_areLike : wI yX11_areLike := List.mem_append_right _ (List.mem_append_right _ (List.mem_append_right _ (List.mem_append_right _ (List.mem_append_left _ (List.mem_of_getElem? (i := 46) rfl)))))
set_option maxRecDepth 20000 in
theorem wz_fe_areLike : Cond.selects yX11_areLike.cls yX11_areLike yX11_areLike ∈ lw_tbl := List.mem_append_left _ (List.mem_map.mpr ⟨(yX11_areLike, _), (List.mem_append_right _ (List.mem_append_right _ (List.mem_append_left _ (List.mem_of_getElem? (i := 1) rfl)))), rfl⟩)
set_option maxRecDepth 20000 in
theorem wi_fe_rowsLike : wI yX11_rowsLike := List.mem_append_right _ (List.mem_append_right _ (List.mem_append_right _ (List.mem_append_right _ (List.mem_append_left _ (List.mem_of_getElem? (i := 50) rfl)))))
set_option maxRecDepth 20000 in
theorem wz_fe_rowsLike : Cond.selects yX11_rowsLike.cls yX11_rowsLike yX11_rowsLike ∈ lw_tbl := List.mem_append_left _ (List.mem_map.mpr ⟨(yX11_rowsLike, _), (List.mem_append_right _ (List.mem_append_right _ (List.mem_append_left _ (List.mem_of_getElem? (i := 2) rfl)))), rfl⟩)
set_option maxRecDepth 20000 in
theorem wi_fe_watch : wI yX11_watch := List.mem_append_right _ (List.mem_append_right _ (List.mem_append_right _ (List.mem_append_right _ (List.mem_append_left _ (List.mem_of_getElem? (i := 53) rfl)))))
set_option maxRecDepth 20000 in
theorem wz_fe_watch : Cond.selects yX11_watch.cls yX11_watch yX11_watch ∈ lw_tbl := List.mem_append_right _ (List.mem_append_right _ (List.mem_append_right _ (List.mem_append_right _ (List.mem_append_left _ (List.mem_of_getElem? (i := 54) rfl)))))
set_option maxRecDepth 20000 in
theorem wi_fe_note : wI yX11_note := List.mem_append_right _ (List.mem_append_right _ (List.mem_append_right _ (List.mem_append_right _ (List.mem_append_left _ (List.mem_of_getElem? (i := 95) rfl)))))
set_option maxRecDepth 20000 in
theorem wz_fe_note : Cond.selects yX11_note.cls yX11_note yX11_note ∈ lw_tbl := List.mem_append_right _ (List.mem_append_right _ (List.mem_append_right _ (List.mem_append_right _ (List.mem_append_left _ (List.mem_of_getElem? (i := 96) rfl)))))
set_option maxRecDepth 20000 in
theorem wi_fe_lacks : wI yX11_lacks := List.mem_append_right _ (List.mem_append_right _ (List.mem_append_right _ (List.mem_append_right _ (List.mem_append_left _ (List.mem_of_getElem? (i := 99) rfl)))))
set_option maxRecDepth 20000 in
theorem wz_fe_lacks : Cond.selects yX11_lacks.cls yX11_lacks yX11_lacks ∈ lw_tbl := List.mem_append_right _ (List.mem_append_right _ (List.mem_append_right _ (List.mem_append_right _ (List.mem_append_left _ (List.mem_of_getElem? (i := 100) rfl)))))
set_option maxRecDepth 20000 in
theorem wi_fe_count : wI yX11_count := List.mem_append_right _ (List.mem_append_right _ (List.mem_append_right _ (List.mem_append_right _ (List.mem_append_left _ (List.mem_of_getElem? (i := 103) rfl)))))
set_option maxRecDepth 20000 in
theorem wz_fe_count : Cond.selects yX11_count.cls yX11_count yX11_count ∈ lw_tbl := List.mem_append_right _ (List.mem_append_right _ (List.mem_append_right _ (List.mem_append_right _ (List.mem_append_left _ (List.mem_of_getElem? (i := 104) rfl)))))
set_option maxRecDepth 20000 in
theorem wi_fe_digest : wI yX11_digest := List.mem_append_right _ (List.mem_append_right _ (List.mem_append_right _ (List.mem_append_right _ (List.mem_append_left _ (List.mem_of_getElem? (i := 107) rfl)))))
set_option maxRecDepth 20000 in
theorem wz_fe_digest : Cond.selects yX11_digest.cls yX11_digest yX11_digest ∈ lw_tbl := List.mem_append_right _ (List.mem_append_right _ (List.mem_append_right _ (List.mem_append_right _ (List.mem_append_left _ (List.mem_of_getElem? (i := 108) rfl)))))
set_option maxRecDepth 20000 in
theorem wi_fe_digestOf : wI yX11_digestOf := List.mem_append_right _ (List.mem_append_right _ (List.mem_append_right _ (List.mem_append_right _ (List.mem_append_left _ (List.mem_of_getElem? (i := 113) rfl)))))
set_option maxRecDepth 20000 in
theorem wz_fe_digestOf : Cond.selects yX11_digestOf.cls yX11_digestOf yX11_digestOf ∈ lw_tbl := List.mem_append_left _ (List.mem_map.mpr ⟨(yX11_digestOf, _), (List.mem_append_right _ (List.mem_append_right _ (List.mem_append_left _ (List.mem_of_getElem? (i := 3) rfl)))), rfl⟩)
set_option maxRecDepth 20000 in
theorem wi_fe_sees : wI yX11_sees := List.mem_append_right _ (List.mem_append_right _ (List.mem_append_left _ (List.mem_of_getElem? (i := 177) rfl)))
set_option maxRecDepth 20000 in
theorem wz_fe_sees : Cond.selects yX11_sees.cls yX11_sees yX11_sees ∈ lw_tbl := List.mem_append_left _ (List.mem_map.mpr ⟨(yX11_sees, _), (List.mem_append_left _ (List.mem_of_getElem? (i := 12) rfl)), rfl⟩)
set_option maxRecDepth 20000 in
theorem wi_md_init : wI yX12_init := List.mem_append_right _ (List.mem_append_right _ (List.mem_append_right _ (List.mem_append_right _ (List.mem_append_left _ (List.mem_of_getElem? (i := 119) rfl)))))
set_option maxRecDepth 20000 in
theorem ws_md_in : Cond.static yX12_in ∈ lw_tbl := List.mem_append_right _ (List.mem_append_right _ (List.mem_append_right _ (List.mem_append_right _ (List.mem_append_right _ (List.mem_append_left _ (List.mem_of_getElem? (i := 31) rfl))))))
set_option maxRecDepth 20000 in
theorem wi_md_isShape : wI yX12_isShape := List.mem_append_right _ (List.mem_append_right _ (List.mem_append_right _ (List.mem_append_right _ (List.mem_append_right _ (List.mem_append_left _ (List.mem_of_getElem? (i := 28) rfl))))))
set_option maxRecDepth 20000 in
theorem wz_md_isShape : Cond.selects yX12_isShape.cls yX12_isShape yX12_isShape ∈ lw_tbl := List.mem_append_left _ (List.mem_map.mpr ⟨(yX12_isShape, _), (List.mem_append_right _ (List.mem_append_right _ (List.mem_append_left _ (List.mem_of_getElem? (i := 4) rfl)))), rfl⟩)
set_option maxRecDepth 20000 in
theorem wi_md_isOf : wI yX12_isOf := List.mem_append_right _ (List.mem_append_right _ (List.mem_append_right _ (List.mem_append_right _ (List.mem_append_right _ (List.mem_append_left _ (List.mem_of_getElem? (i := 155) rfl))))))
set_option maxRecDepth 20000 in
theorem wz_md_isOf : Cond.selects yX12_isOf.cls yX12_isOf yX12_isOf ∈ lw_tbl := List.mem_append_left _ (List.mem_map.mpr ⟨(yX12_isOf, _), (List.mem_append_right _ (List.mem_append_right _ (List.mem_append_right _ (List.mem_append_left _ (List.mem_of_getElem? (i := 7) rfl))))), rfl⟩)
set_option maxRecDepth 20000 in
theorem wi_md_shape : wI yX12_shape := List.mem_append_right _ (List.mem_append_right _ (List.mem_append_right _ (List.mem_append_right _ (List.mem_append_right _ (List.mem_append_left _ (List.mem_of_getElem? (i := 23) rfl))))))
set_option maxRecDepth 20000 in
theorem wz_md_shape : Cond.selects yX12_shape.cls yX12_shape yX12_shape ∈ lw_tbl := List.mem_append_right _ (List.mem_append_right _ (List.mem_append_right _ (List.mem_append_right _ (List.mem_append_right _ (List.mem_append_left _ (List.mem_of_getElem? (i := 24) rfl))))))
set_option maxRecDepth 20000 in
theorem wi_md_against : wI yX12_against := List.mem_append_right _ (List.mem_append_right _ (List.mem_append_right _ (List.mem_append_right _ (List.mem_append_right _ (List.mem_append_left _ (List.mem_of_getElem? (i := 47) rfl))))))
set_option maxRecDepth 20000 in
theorem wz_md_against : Cond.selects yX12_against.cls yX12_against yX12_against ∈ lw_tbl := List.mem_append_left _ (List.mem_map.mpr ⟨(yX12_against, _), (List.mem_append_right _ (List.mem_append_right _ (List.mem_append_left _ (List.mem_of_getElem? (i := 6) rfl)))), rfl⟩)
set_option maxRecDepth 20000 in
theorem wi_md_adds : wI yX12_adds := List.mem_append_right _ (List.mem_append_right _ (List.mem_append_right _ (List.mem_append_right _ (List.mem_append_right _ (List.mem_append_left _ (List.mem_of_getElem? (i := 43) rfl))))))
set_option maxRecDepth 20000 in
theorem wz_md_adds : Cond.selects yX12_adds.cls yX12_adds yX12_adds ∈ lw_tbl := List.mem_append_left _ (List.mem_map.mpr ⟨(yX12_adds, _), (List.mem_append_right _ (List.mem_append_right _ (List.mem_append_left _ (List.mem_of_getElem? (i := 5) rfl)))), rfl⟩)
set_option maxRecDepth 20000 in
theorem ws_md_flag : Cond.static yX12_flag ∈ lw_tbl := List.mem_append_right _ (List.mem_append_right _ (List.mem_append_right _ (List.mem_append_right _ (List.mem_append_right _ (List.mem_append_left _ (List.mem_of_getElem? (i := 39) rfl))))))
set_option maxRecDepth 20000 in
theorem wi_md_number : wI yX12_number := List.mem_append_right _ (List.mem_append_right _ (List.mem_append_right _ (List.mem_append_right _ (List.mem_append_right _ (List.mem_append_left _ (List.mem_of_getElem? (i := 34) rfl))))))
set_option maxRecDepth 20000 in
theorem wz_md_number : Cond.selects yX12_number.cls yX12_number yX12_number ∈ lw_tbl := List.mem_append_right _ (List.mem_append_right _ (List.mem_append_right _ (List.mem_append_right _ (List.mem_append_right _ (List.mem_append_left _ (List.mem_of_getElem? (i := 35) rfl))))))
set_option maxRecDepth 20000 in
theorem wi_md_link : wI yX12_link := List.mem_append_right _ (List.mem_append_right _ (List.mem_append_right _ (List.mem_append_right _ (List.mem_append_right _ (List.mem_append_left _ (List.mem_of_getElem? (i := 50) rfl))))))
set_option maxRecDepth 20000 in
theorem wz_md_link : Cond.selects yX12_link.cls yX12_link yX12_link ∈ lw_tbl := List.mem_append_right _ (List.mem_append_right _ (List.mem_append_right _ (List.mem_append_right _ (List.mem_append_right _ (List.mem_append_left _ (List.mem_of_getElem? (i := 51) rfl))))))
set_option maxRecDepth 20000 in
theorem wi_md_isNumeric : wI yX12_isNumeric := List.mem_append_right _ (List.mem_append_right _ (List.mem_append_right _ (List.mem_append_right _ (List.mem_append_right _ (List.mem_append_left _ (List.mem_of_getElem? (i := 63) rfl))))))
set_option maxRecDepth 20000 in
theorem wz_md_isNumeric : Cond.selects yX12_isNumeric.cls yX12_isNumeric yX12_isNumeric ∈ lw_tbl := List.mem_append_left _ (List.mem_map.mpr ⟨(yX12_isNumeric, _), (List.mem_append_right _ (List.mem_append_right _ (List.mem_append_left _ (List.mem_of_getElem? (i := 8) rfl)))), rfl⟩)
set_option maxRecDepth 20000 in
theorem wi_md_isKind : wI yX12_isKind := List.mem_append_right _ (List.mem_append_right _ (List.mem_append_right _ (List.mem_append_right _ (List.mem_append_right _ (List.mem_append_left _ (List.mem_of_getElem? (i := 67) rfl))))))
set_option maxRecDepth 20000 in
theorem wz_md_isKind : Cond.selects yX12_isKind.cls yX12_isKind yX12_isKind ∈ lw_tbl := List.mem_append_left _ (List.mem_map.mpr ⟨(yX12_isKind, _), (List.mem_append_right _ (List.mem_append_right _ (List.mem_append_left _ (List.mem_of_getElem? (i := 9) rfl)))), rfl⟩)
set_option maxRecDepth 20000 in
theorem wi_md_mayFollow : wI yX12_mayFollow := List.mem_append_right _ (List.mem_append_right _ (List.mem_append_right _ (List.mem_append_right _ (List.mem_append_right _ (List.mem_append_left _ (List.mem_of_getElem? (i := 59) rfl))))))
set_option maxRecDepth 20000 in
theorem wz_md_mayFollow : Cond.selects yX12_mayFollow.cls yX12_mayFollow yX12_mayFollow ∈ lw_tbl := List.mem_append_left _ (List.mem_map.mpr ⟨(yX12_mayFollow, _), (List.mem_append_right _ (List.mem_append_right _ (List.mem_append_left _ (List.mem_of_getElem? (i := 7) rfl)))), rfl⟩)
set_option maxRecDepth 20000 in
theorem wi_md_derived : wI yX12_derived := List.mem_append_right _ (List.mem_append_right _ (List.mem_append_right _ (List.mem_append_right _ (List.mem_append_right _ (List.mem_append_left _ (List.mem_of_getElem? (i := 54) rfl))))))
set_option maxRecDepth 20000 in
theorem wz_md_derived : Cond.selects yX12_derived.cls yX12_derived yX12_derived ∈ lw_tbl := List.mem_append_right _ (List.mem_append_right _ (List.mem_append_right _ (List.mem_append_right _ (List.mem_append_right _ (List.mem_append_left _ (List.mem_of_getElem? (i := 55) rfl))))))
set_option maxRecDepth 20000 in
theorem wi_md_told : wI yX12_told := List.mem_append_right _ (List.mem_append_right _ (List.mem_append_right _ (List.mem_append_right _ (List.mem_append_right _ (List.mem_append_left _ (List.mem_of_getElem? (i := 70) rfl))))))
set_option maxRecDepth 20000 in
theorem wz_md_told : Cond.selects yX12_told.cls yX12_told yX12_told ∈ lw_tbl := List.mem_append_right _ (List.mem_append_right _ (List.mem_append_right _ (List.mem_append_right _ (List.mem_append_right _ (List.mem_append_left _ (List.mem_of_getElem? (i := 71) rfl))))))
set_option maxRecDepth 20000 in
theorem wi_md_isObject : wI yX12_isObject := List.mem_append_right _ (List.mem_append_right _ (List.mem_append_right _ (List.mem_append_right _ (List.mem_append_right _ (List.mem_append_left _ (List.mem_of_getElem? (i := 99) rfl))))))
set_option maxRecDepth 20000 in
theorem wz_md_isObject : Cond.selects yX12_isObject.cls yX12_isObject yX12_isObject ∈ lw_tbl := List.mem_append_left _ (List.mem_map.mpr ⟨(yX12_isObject, _), (List.mem_append_right _ (List.mem_append_right _ (List.mem_append_left _ (List.mem_of_getElem? (i := 14) rfl)))), rfl⟩)
set_option maxRecDepth 20000 in
theorem wi_md_hasField : wI yX12_hasField := List.mem_append_right _ (List.mem_append_right _ (List.mem_append_right _ (List.mem_append_right _ (List.mem_append_right _ (List.mem_append_left _ (List.mem_of_getElem? (i := 95) rfl))))))
set_option maxRecDepth 20000 in
theorem wz_md_hasField : Cond.selects yX12_hasField.cls yX12_hasField yX12_hasField ∈ lw_tbl := List.mem_append_left _ (List.mem_map.mpr ⟨(yX12_hasField, _), (List.mem_append_right _ (List.mem_append_right _ (List.mem_append_left _ (List.mem_of_getElem? (i := 13) rfl)))), rfl⟩)
set_option maxRecDepth 20000 in
theorem wi_md_at : wI yX12_at := List.mem_append_right _ (List.mem_append_right _ (List.mem_append_right _ (List.mem_append_right _ (List.mem_append_right _ (List.mem_append_left _ (List.mem_of_getElem? (i := 83) rfl))))))
set_option maxRecDepth 20000 in
theorem wz_md_at : Cond.selects yX12_at.cls yX12_at yX12_at ∈ lw_tbl := List.mem_append_left _ (List.mem_map.mpr ⟨(yX12_at, _), (List.mem_append_right _ (List.mem_append_right _ (List.mem_append_left _ (List.mem_of_getElem? (i := 11) rfl)))), rfl⟩)
set_option maxRecDepth 20000 in
theorem wi_md_by : wI yX12_by := List.mem_append_right _ (List.mem_append_right _ (List.mem_append_right _ (List.mem_append_right _ (List.mem_append_right _ (List.mem_append_left _ (List.mem_of_getElem? (i := 87) rfl))))))
set_option maxRecDepth 20000 in
theorem wz_md_by : Cond.selects yX12_by.cls yX12_by yX12_by ∈ lw_tbl := List.mem_append_left _ (List.mem_map.mpr ⟨(yX12_by, _), (List.mem_append_right _ (List.mem_append_right _ (List.mem_append_left _ (List.mem_of_getElem? (i := 12) rfl)))), rfl⟩)
set_option maxRecDepth 20000 in
theorem wi_md_makes : wI yX12_makes := List.mem_append_right _ (List.mem_append_right _ (List.mem_append_right _ (List.mem_append_right _ (List.mem_append_right _ (List.mem_append_left _ (List.mem_of_getElem? (i := 79) rfl))))))
set_option maxRecDepth 20000 in
theorem wz_md_makes : Cond.selects yX12_makes.cls yX12_makes yX12_makes ∈ lw_tbl := List.mem_append_left _ (List.mem_map.mpr ⟨(yX12_makes, _), (List.mem_append_right _ (List.mem_append_right _ (List.mem_append_left _ (List.mem_of_getElem? (i := 10) rfl)))), rfl⟩)
set_option maxRecDepth 20000 in
theorem wi_md_object : wI yX12_object := List.mem_append_right _ (List.mem_append_right _ (List.mem_append_right _ (List.mem_append_right _ (List.mem_append_right _ (List.mem_append_left _ (List.mem_of_getElem? (i := 74) rfl))))))
set_option maxRecDepth 20000 in
theorem wz_md_object : Cond.selects yX12_object.cls yX12_object yX12_object ∈ lw_tbl := List.mem_append_right _ (List.mem_append_right _ (List.mem_append_right _ (List.mem_append_right _ (List.mem_append_right _ (List.mem_append_left _ (List.mem_of_getElem? (i := 75) rfl))))))
set_option maxRecDepth 20000 in
theorem wi_md_total : wI yX12_total := List.mem_append_right _ (List.mem_append_right _ (List.mem_append_right _ (List.mem_append_right _ (List.mem_append_right _ (List.mem_append_left _ (List.mem_of_getElem? (i := 111) rfl))))))
set_option maxRecDepth 20000 in
theorem wz_md_total : Cond.selects yX12_total.cls yX12_total yX12_total ∈ lw_tbl := List.mem_append_left _ (List.mem_map.mpr ⟨(yX12_total, _), (List.mem_append_right _ (List.mem_append_right _ (List.mem_append_right _ (List.mem_append_left _ (List.mem_of_getElem? (i := 1) rfl))))), rfl⟩)
set_option maxRecDepth 20000 in
theorem wi_md_followed : wI yX12_followed := List.mem_append_right _ (List.mem_append_right _ (List.mem_append_right _ (List.mem_append_right _ (List.mem_append_right _ (List.mem_append_left _ (List.mem_of_getElem? (i := 107) rfl))))))
set_option maxRecDepth 20000 in
theorem wz_md_followed : Cond.selects yX12_followed.cls yX12_followed yX12_followed ∈ lw_tbl := List.mem_append_left _ (List.mem_map.mpr ⟨(yX12_followed, _), (List.mem_append_right _ (List.mem_append_right _ (List.mem_append_right _ (List.mem_append_left _ (List.mem_of_getElem? (i := 0) rfl))))), rfl⟩)
set_option maxRecDepth 20000 in
theorem wi_md_valueOf : wI yX12_valueOf := List.mem_append_right _ (List.mem_append_right _ (List.mem_append_right _ (List.mem_append_right _ (List.mem_append_right _ (List.mem_append_left _ (List.mem_of_getElem? (i := 103) rfl))))))
set_option maxRecDepth 20000 in
theorem wz_md_valueOf : Cond.selects yX12_valueOf.cls yX12_valueOf yX12_valueOf ∈ lw_tbl := List.mem_append_left _ (List.mem_map.mpr ⟨(yX12_valueOf, _), (List.mem_append_right _ (List.mem_append_right _ (List.mem_append_left _ (List.mem_of_getElem? (i := 15) rfl)))), rfl⟩)
set_option maxRecDepth 20000 in
theorem wi_md_get : wI yX12_get := List.mem_append_right _ (List.mem_append_right _ (List.mem_append_right _ (List.mem_append_right _ (List.mem_append_right _ (List.mem_append_left _ (List.mem_of_getElem? (i := 90) rfl))))))
set_option maxRecDepth 20000 in
theorem wz_md_get : Cond.selects yX12_get.cls yX12_get yX12_get ∈ lw_tbl := List.mem_append_right _ (List.mem_append_right _ (List.mem_append_right _ (List.mem_append_right _ (List.mem_append_right _ (List.mem_append_left _ (List.mem_of_getElem? (i := 91) rfl))))))
set_option maxRecDepth 20000 in
theorem wi_md_element : wI yX12_element := List.mem_append_right _ (List.mem_append_right _ (List.mem_append_right _ (List.mem_append_right _ (List.mem_append_right _ (List.mem_append_left _ (List.mem_of_getElem? (i := 114) rfl))))))
set_option maxRecDepth 20000 in
theorem wz_md_element : Cond.selects yX12_element.cls yX12_element yX12_element ∈ lw_tbl := List.mem_append_right _ (List.mem_append_right _ (List.mem_append_right _ (List.mem_append_right _ (List.mem_append_right _ (List.mem_append_left _ (List.mem_of_getElem? (i := 115) rfl))))))
set_option maxRecDepth 20000 in
theorem wi_md_shapeOf : wI yX12_shapeOf := List.mem_append_right _ (List.mem_append_right _ (List.mem_append_right _ (List.mem_append_right _ (List.mem_append_right _ (List.mem_append_left _ (List.mem_of_getElem? (i := 118) rfl))))))
set_option maxRecDepth 20000 in
theorem wz_md_shapeOf : Cond.selects yX12_shapeOf.cls yX12_shapeOf yX12_shapeOf ∈ lw_tbl := List.mem_append_right _ (List.mem_append_right _ (List.mem_append_right _ (List.mem_append_right _ (List.mem_append_right _ (List.mem_append_left _ (List.mem_of_getElem? (i := 119) rfl))))))
set_option maxRecDepth 20000 in
theorem wi_md_holders : wI yX12_holders := List.mem_append_right _ (List.mem_append_right _ (List.mem_append_right _ (List.mem_append_right _ (List.mem_append_right _ (List.mem_append_left _ (List.mem_of_getElem? (i := 122) rfl))))))
set_option maxRecDepth 20000 in
theorem wz_md_holders : Cond.selects yX12_holders.cls yX12_holders yX12_holders ∈ lw_tbl := List.mem_append_right _ (List.mem_append_right _ (List.mem_append_right _ (List.mem_append_right _ (List.mem_append_right _ (List.mem_append_left _ (List.mem_of_getElem? (i := 123) rfl))))))
set_option maxRecDepth 20000 in
theorem wi_md_comes : wI yX12_comes := List.mem_append_right _ (List.mem_append_right _ (List.mem_append_right _ (List.mem_append_right _ (List.mem_append_right _ (List.mem_append_left _ (List.mem_of_getElem? (i := 139) rfl))))))
set_option maxRecDepth 20000 in
theorem wz_md_comes : Cond.selects yX12_comes.cls yX12_comes yX12_comes ∈ lw_tbl := List.mem_append_left _ (List.mem_map.mpr ⟨(yX12_comes, _), (List.mem_append_right _ (List.mem_append_right _ (List.mem_append_right _ (List.mem_append_left _ (List.mem_of_getElem? (i := 4) rfl))))), rfl⟩)
set_option maxRecDepth 20000 in
theorem wi_md_comesHeld : wI yX12_comesHeld := List.mem_append_right _ (List.mem_append_right _ (List.mem_append_right _ (List.mem_append_right _ (List.mem_append_right _ (List.mem_append_left _ (List.mem_of_getElem? (i := 135) rfl))))))
set_option maxRecDepth 20000 in
theorem wz_md_comesHeld : Cond.selects yX12_comesHeld.cls yX12_comesHeld yX12_comesHeld ∈ lw_tbl := List.mem_append_left _ (List.mem_map.mpr ⟨(yX12_comesHeld, _), (List.mem_append_right _ (List.mem_append_right _ (List.mem_append_right _ (List.mem_append_left _ (List.mem_of_getElem? (i := 3) rfl))))), rfl⟩)
set_option maxRecDepth 20000 in
theorem wi_md_findHeld : wI yX12_findHeld := List.mem_append_right _ (List.mem_append_right _ (List.mem_append_right _ (List.mem_append_right _ (List.mem_append_right _ (List.mem_append_right _ (List.mem_of_getElem? (i := 50) rfl))))))
set_option maxRecDepth 20000 in
theorem wz_md_findHeld : Cond.selects yX12_findHeld.cls yX12_findHeld yX12_findHeld ∈ lw_tbl := List.mem_append_left _ (List.mem_map.mpr ⟨(yX12_findHeld, _), (List.mem_append_right _ (List.mem_append_right _ (List.mem_append_right _ (List.mem_append_right _ (List.mem_of_getElem? (i := 8) rfl))))), rfl⟩)
set_option maxRecDepth 20000 in
theorem wi_md_isHeld : wI yX12_isHeld := List.mem_append_right _ (List.mem_append_right _ (List.mem_append_right _ (List.mem_append_right _ (List.mem_append_right _ (List.mem_append_left _ (List.mem_of_getElem? (i := 131) rfl))))))
set_option maxRecDepth 20000 in
theorem wz_md_isHeld : Cond.selects yX12_isHeld.cls yX12_isHeld yX12_isHeld ∈ lw_tbl := List.mem_append_left _ (List.mem_map.mpr ⟨(yX12_isHeld, _), (List.mem_append_right _ (List.mem_append_right _ (List.mem_append_right _ (List.mem_append_left _ (List.mem_of_getElem? (i := 2) rfl))))), rfl⟩)
set_option maxRecDepth 20000 in
theorem wi_md_holds : wI yX12_holds := List.mem_append_right _ (List.mem_append_right _ (List.mem_append_right _ (List.mem_append_right _ (List.mem_append_right _ (List.mem_append_left _ (List.mem_of_getElem? (i := 126) rfl))))))
set_option maxRecDepth 20000 in
theorem wz_md_holds : Cond.selects yX12_holds.cls yX12_holds yX12_holds ∈ lw_tbl := List.mem_append_right _ (List.mem_append_right _ (List.mem_append_right _ (List.mem_append_right _ (List.mem_append_right _ (List.mem_append_left _ (List.mem_of_getElem? (i := 127) rfl))))))
set_option maxRecDepth 20000 in
theorem wi_md_keeps : wI yX12_keeps := List.mem_append_right _ (List.mem_append_right _ (List.mem_append_right _ (List.mem_append_right _ (List.mem_append_right _ (List.mem_append_left _ (List.mem_of_getElem? (i := 167) rfl))))))
set_option maxRecDepth 20000 in
theorem wz_md_keeps : Cond.selects yX12_keeps.cls yX12_keeps yX12_keeps ∈ lw_tbl := List.mem_append_left _ (List.mem_map.mpr ⟨(yX12_keeps, _), (List.mem_append_right _ (List.mem_append_right _ (List.mem_append_right _ (List.mem_append_left _ (List.mem_of_getElem? (i := 10) rfl))))), rfl⟩)
set_option maxRecDepth 20000 in
theorem wi_md_puts : wI yX12_puts := List.mem_append_right _ (List.mem_append_right _ (List.mem_append_right _ (List.mem_append_right _ (List.mem_append_right _ (List.mem_append_left _ (List.mem_of_getElem? (i := 234) rfl))))))
set_option maxRecDepth 20000 in
theorem wz_md_puts : Cond.selects yX12_puts.cls yX12_puts yX12_puts ∈ lw_tbl := List.mem_append_left _ (List.mem_map.mpr ⟨(yX12_puts, _), (List.mem_append_right _ (List.mem_append_right _ (List.mem_append_right _ (List.mem_append_right _ (List.mem_of_getElem? (i := 2) rfl))))), rfl⟩)
set_option maxRecDepth 20000 in
theorem wi_md_notes : wI yX12_notes := List.mem_append_right _ (List.mem_append_right _ (List.mem_append_right _ (List.mem_append_right _ (List.mem_append_right _ (List.mem_append_left _ (List.mem_of_getElem? (i := 175) rfl))))))
set_option maxRecDepth 20000 in
theorem wz_md_notes : Cond.selects yX12_notes.cls yX12_notes yX12_notes ∈ lw_tbl := List.mem_append_left _ (List.mem_map.mpr ⟨(yX12_notes, _), (List.mem_append_right _ (List.mem_append_right _ (List.mem_append_right _ (List.mem_append_left _ (List.mem_of_getElem? (i := 12) rfl))))), rfl⟩)
set_option maxRecDepth 20000 in
theorem wi_md_doneEnd : wI yX12_doneEnd := List.mem_append_right _ (List.mem_append_right _ (List.mem_append_right _ (List.mem_append_right _ (List.mem_append_right _ (List.mem_append_left _ (List.mem_of_getElem? (i := 163) rfl))))))
set_option maxRecDepth 20000 in
theorem wz_md_doneEnd : Cond.selects yX12_doneEnd.cls yX12_doneEnd yX12_doneEnd ∈ lw_tbl := List.mem_append_left _ (List.mem_map.mpr ⟨(yX12_doneEnd, _), (List.mem_append_right _ (List.mem_append_right _ (List.mem_append_right _ (List.mem_append_left _ (List.mem_of_getElem? (i := 9) rfl))))), rfl⟩)
set_option maxRecDepth 20000 in
theorem wi_md_begins : wI yX12_begins := List.mem_append_right _ (List.mem_append_right _ (List.mem_append_right _ (List.mem_append_right _ (List.mem_append_right _ (List.mem_append_left _ (List.mem_of_getElem? (i := 159) rfl))))))
set_option maxRecDepth 20000 in
theorem wz_md_begins : Cond.selects yX12_begins.cls yX12_begins yX12_begins ∈ lw_tbl := List.mem_append_left _ (List.mem_map.mpr ⟨(yX12_begins, _), (List.mem_append_right _ (List.mem_append_right _ (List.mem_append_right _ (List.mem_append_left _ (List.mem_of_getElem? (i := 8) rfl))))), rfl⟩)
set_option maxRecDepth 20000 in
theorem wi_md_ends : wI yX12_ends := List.mem_append_right _ (List.mem_append_right _ (List.mem_append_right _ (List.mem_append_right _ (List.mem_append_right _ (List.mem_append_left _ (List.mem_of_getElem? (i := 171) rfl))))))
set_option maxRecDepth 20000 in
theorem wz_md_ends : Cond.selects yX12_ends.cls yX12_ends yX12_ends ∈ lw_tbl := List.mem_append_left _ (List.mem_map.mpr ⟨(yX12_ends, _), (List.mem_append_right _ (List.mem_append_right _ (List.mem_append_right _ (List.mem_append_left _ (List.mem_of_getElem? (i := 11) rfl))))), rfl⟩)
set_option maxRecDepth 20000 in
theorem wi_md_enters : wI yX12_enters := List.mem_append_right _ (List.mem_append_right _ (List.mem_append_right _ (List.mem_append_right _ (List.mem_append_right _ (List.mem_append_left _ (List.mem_of_getElem? (i := 179) rfl))))))
set_option maxRecDepth 20000 in
theorem wz_md_enters : Cond.selects yX12_enters.cls yX12_enters yX12_enters ∈ lw_tbl := List.mem_append_left _ (List.mem_map.mpr ⟨(yX12_enters, _), (List.mem_append_right _ (List.mem_append_right _ (List.mem_append_right _ (List.mem_append_left _ (List.mem_of_getElem? (i := 13) rfl))))), rfl⟩)
set_option maxRecDepth 20000 in
theorem wi_md_isReadOnly : wI yX12_isReadOnly := List.mem_append_right _ (List.mem_append_right _ (List.mem_append_right _ (List.mem_append_right _ (List.mem_append_right _ (List.mem_append_left _ (List.mem_of_getElem? (i := 147) rfl))))))
set_option maxRecDepth 20000 in
theorem wz_md_isReadOnly : Cond.selects yX12_isReadOnly.cls yX12_isReadOnly yX12_isReadOnly ∈ lw_tbl := List.mem_append_left _ (List.mem_map.mpr ⟨(yX12_isReadOnly, _), (List.mem_append_right _ (List.mem_append_right _ (List.mem_append_right _ (List.mem_append_left _ (List.mem_of_getElem? (i := 5) rfl))))), rfl⟩)
set_option maxRecDepth 20000 in
theorem wi_md_isVetoed : wI yX12_isVetoed := List.mem_append_right _ (List.mem_append_right _ (List.mem_append_right _ (List.mem_append_right _ (List.mem_append_right _ (List.mem_append_left _ (List.mem_of_getElem? (i := 151) rfl))))))
set_option maxRecDepth 20000 in
theorem wz_md_isVetoed : Cond.selects yX12_isVetoed.cls yX12_isVetoed yX12_isVetoed ∈ lw_tbl := List.mem_append_left _ (List.mem_map.mpr ⟨(yX12_isVetoed, _), (List.mem_append_right _ (List.mem_append_right _ (List.mem_append_right _ (List.mem_append_left _ (List.mem_of_getElem? (i := 6) rfl))))), rfl⟩)
set_option maxRecDepth 20000 in
theorem wi_md_set : wI yX12_set := List.mem_append_right _ (List.mem_append_right _ (List.mem_append_right _ (List.mem_append_right _ (List.mem_append_right _ (List.mem_append_left _ (List.mem_of_getElem? (i := 142) rfl))))))
set_option maxRecDepth 20000 in
theorem wz_md_set : Cond.selects yX12_set.cls yX12_set yX12_set ∈ lw_tbl := List.mem_append_right _ (List.mem_append_right _ (List.mem_append_right _ (List.mem_append_right _ (List.mem_append_right _ (List.mem_append_left _ (List.mem_of_getElem? (i := 143) rfl))))))
set_option maxRecDepth 20000 in
theorem wi_md_wouldLoop : wI yX12_wouldLoop := List.mem_append_right _ (List.mem_append_right _ (List.mem_append_right _ (List.mem_append_right _ (List.mem_append_right _ (List.mem_append_left _ (List.mem_of_getElem? (i := 187) rfl))))))
set_option maxRecDepth 20000 in
theorem wz_md_wouldLoop : Cond.selects yX12_wouldLoop.cls yX12_wouldLoop yX12_wouldLoop ∈ lw_tbl := List.mem_append_left _ (List.mem_map.mpr ⟨(yX12_wouldLoop, _), (List.mem_append_right _ (List.mem_append_right _ (List.mem_append_right _ (List.mem_append_left _ (List.mem_of_getElem? (i := 14) rfl))))), rfl⟩)
set_option maxRecDepth 20000 in
theorem wi_md_lead : wI yX12_lead := List.mem_append_right _ (List.mem_append_right _ (List.mem_append_right _ (List.mem_append_right _ (List.mem_append_right _ (List.mem_append_left _ (List.mem_of_getElem? (i := 182) rfl))))))
set_option maxRecDepth 20000 in
theorem wz_md_lead : Cond.selects yX12_lead.cls yX12_lead yX12_lead ∈ lw_tbl := List.mem_append_right _ (List.mem_append_right _ (List.mem_append_right _ (List.mem_append_right _ (List.mem_append_right _ (List.mem_append_left _ (List.mem_of_getElem? (i := 183) rfl))))))
set_option maxRecDepth 20000 in
theorem wi_md_unset : wI yX12_unset := List.mem_append_right _ (List.mem_append_right _ (List.mem_append_right _ (List.mem_append_right _ (List.mem_append_right _ (List.mem_append_left _ (List.mem_of_getElem? (i := 190) rfl))))))
set_option maxRecDepth 20000 in
theorem wz_md_unset : Cond.selects yX12_unset.cls yX12_unset yX12_unset ∈ lw_tbl := List.mem_append_right _ (List.mem_append_right _ (List.mem_append_right _ (List.mem_append_right _ (List.mem_append_right _ (List.mem_append_left _ (List.mem_of_getElem? (i := 191) rfl))))))
set_option maxRecDepth 20000 in
theorem wi_md_insert : wI yX12_insert := List.mem_append_right _ (List.mem_append_right _ (List.mem_append_right _ (List.mem_append_right _ (List.mem_append_right _ (List.mem_append_left _ (List.mem_of_getElem? (i := 194) rfl))))))
set_option maxRecDepth 20000 in
theorem wz_md_insert : Cond.selects yX12_insert.cls yX12_insert yX12_insert ∈ lw_tbl := List.mem_append_right _ (List.mem_append_right _ (List.mem_append_right _ (List.mem_append_right _ (List.mem_append_right _ (List.mem_append_left _ (List.mem_of_getElem? (i := 195) rfl))))))
set_option maxRecDepth 20000 in
theorem wi_md_remove : wI yX12_remove := List.mem_append_right _ (List.mem_append_right _ (List.mem_append_right _ (List.mem_append_right _ (List.mem_append_right _ (List.mem_append_left _ (List.mem_of_getElem? (i := 198) rfl))))))
set_option maxRecDepth 20000 in
theorem wz_md_remove : Cond.selects yX12_remove.cls yX12_remove yX12_remove ∈ lw_tbl := List.mem_append_right _ (List.mem_append_right _ (List.mem_append_right _ (List.mem_append_right _ (List.mem_append_right _ (List.mem_append_left _ (List.mem_of_getElem? (i := 199) rfl))))))
set_option maxRecDepth 20000 in
theorem wi_md_weightOf : wI yX12_weightOf := List.mem_append_right _ (List.mem_append_right _ (List.mem_append_right _ (List.mem_append_right _ (List.mem_append_right _ (List.mem_append_left _ (List.mem_of_getElem? (i := 207) rfl))))))
set_option maxRecDepth 20000 in
theorem wz_md_weightOf : Cond.selects yX12_weightOf.cls yX12_weightOf yX12_weightOf ∈ lw_tbl := List.mem_append_left _ (List.mem_map.mpr ⟨(yX12_weightOf, _), (List.mem_append_right _ (List.mem_append_right _ (List.mem_append_right _ (List.mem_append_left _ (List.mem_of_getElem? (i := 15) rfl))))), rfl⟩)
set_option maxRecDepth 20000 in
theorem ws_md_isAhead : Cond.static yX12_isAhead ∈ lw_tbl := List.mem_append_right _ (List.mem_append_right _ (List.mem_append_right _ (List.mem_append_right _ (List.mem_append_right _ (List.mem_append_left _ (List.mem_of_getElem? (i := 210) rfl))))))
set_option maxRecDepth 20000 in
theorem wi_md_sort : wI yX12_sort := List.mem_append_right _ (List.mem_append_right _ (List.mem_append_right _ (List.mem_append_right _ (List.mem_append_right _ (List.mem_append_left _ (List.mem_of_getElem? (i := 202) rfl))))))
set_option maxRecDepth 20000 in
theorem wz_md_sort : Cond.selects yX12_sort.cls yX12_sort yX12_sort ∈ lw_tbl := List.mem_append_right _ (List.mem_append_right _ (List.mem_append_right _ (List.mem_append_right _ (List.mem_append_right _ (List.mem_append_left _ (List.mem_of_getElem? (i := 203) rfl))))))
set_option maxRecDepth 20000 in
theorem wi_md_begin : wI yX12_begin := List.mem_append_right _ (List.mem_append_right _ (List.mem_append_right _ (List.mem_append_right _ (List.mem_append_right _ (List.mem_append_left _ (List.mem_of_getElem? (i := 213) rfl))))))
set_option maxRecDepth 20000 in
theorem wz_md_begin : Cond.selects yX12_begin.cls yX12_begin yX12_begin ∈ lw_tbl := List.mem_append_right _ (List.mem_append_right _ (List.mem_append_right _ (List.mem_append_right _ (List.mem_append_right _ (List.mem_append_left _ (List.mem_of_getElem? (i := 214) rfl))))))
set_option maxRecDepth 20000 in
theorem wi_md_groupSize : wI yX12_groupSize := List.mem_append_right _ (List.mem_append_right _ (List.mem_append_right _ (List.mem_append_right _ (List.mem_append_right _ (List.mem_append_left _ (List.mem_of_getElem? (i := 222) rfl))))))
set_option maxRecDepth 20000 in
theorem wz_md_groupSize : Cond.selects yX12_groupSize.cls yX12_groupSize yX12_groupSize ∈ lw_tbl := List.mem_append_left _ (List.mem_map.mpr ⟨(yX12_groupSize, _), (List.mem_append_right _ (List.mem_append_right _ (List.mem_append_right _ (List.mem_append_right _ (List.mem_of_getElem? (i := 0) rfl))))), rfl⟩)
set_option maxRecDepth 20000 in
theorem wi_md_commit : wI yX12_commit := List.mem_append_right _ (List.mem_append_right _ (List.mem_append_right _ (List.mem_append_right _ (List.mem_append_right _ (List.mem_append_left _ (List.mem_of_getElem? (i := 217) rfl))))))
set_option maxRecDepth 20000 in
theorem wz_md_commit : Cond.selects yX12_commit.cls yX12_commit yX12_commit ∈ lw_tbl := List.mem_append_right _ (List.mem_append_right _ (List.mem_append_right _ (List.mem_append_right _ (List.mem_append_right _ (List.mem_append_left _ (List.mem_of_getElem? (i := 218) rfl))))))
set_option maxRecDepth 20000 in
theorem wi_md_goes : wI yX12_goes := List.mem_append_right _ (List.mem_append_right _ (List.mem_append_right _ (List.mem_append_right _ (List.mem_append_right _ (List.mem_append_left _ (List.mem_of_getElem? (i := 230) rfl))))))
set_option maxRecDepth 20000 in
theorem wz_md_goes : Cond.selects yX12_goes.cls yX12_goes yX12_goes ∈ lw_tbl := List.mem_append_left _ (List.mem_map.mpr ⟨(yX12_goes, _), (List.mem_append_right _ (List.mem_append_right _ (List.mem_append_right _ (List.mem_append_right _ (List.mem_of_getElem? (i := 1) rfl))))), rfl⟩)
set_option maxRecDepth 20000 in
theorem wi_md_abort : wI yX12_abort := List.mem_append_right _ (List.mem_append_right _ (List.mem_append_right _ (List.mem_append_right _ (List.mem_append_right _ (List.mem_append_left _ (List.mem_of_getElem? (i := 225) rfl))))))
set_option maxRecDepth 20000 in
theorem wz_md_abort : Cond.selects yX12_abort.cls yX12_abort yX12_abort ∈ lw_tbl := List.mem_append_right _ (List.mem_append_right _ (List.mem_append_right _ (List.mem_append_right _ (List.mem_append_right _ (List.mem_append_left _ (List.mem_of_getElem? (i := 226) rfl))))))
set_option maxRecDepth 20000 in
theorem wi_md_undo : wI yX12_undo := List.mem_append_right _ (List.mem_append_right _ (List.mem_append_right _ (List.mem_append_right _ (List.mem_append_right _ (List.mem_append_left _ (List.mem_of_getElem? (i := 237) rfl))))))
set_option maxRecDepth 20000 in
theorem wz_md_undo : Cond.selects yX12_undo.cls yX12_undo yX12_undo ∈ lw_tbl := List.mem_append_right _ (List.mem_append_right _ (List.mem_append_right _ (List.mem_append_right _ (List.mem_append_right _ (List.mem_append_left _ (List.mem_of_getElem? (i := 238) rfl))))))
set_option maxRecDepth 20000 in
theorem wi_md_redo : wI yX12_redo := List.mem_append_right _ (List.mem_append_right _ (List.mem_append_right _ (List.mem_append_right _ (List.mem_append_right _ (List.mem_append_right _ (List.mem_of_getElem? (i := 1) rfl))))))
set_option maxRecDepth 20000 in
theorem wz_md_redo : Cond.selects yX12_redo.cls yX12_redo yX12_redo ∈ lw_tbl := List.mem_append_right _ (List.mem_append_right _ (List.mem_append_right _ (List.mem_append_right _ (List.mem_append_right _ (List.mem_append_right _ (List.mem_of_getElem? (i := 2) rfl))))))
set_option maxRecDepth 20000 in
theorem wi_md_isPath : wI yX12_isPath := List.mem_append_right _ (List.mem_append_right _ (List.mem_append_right _ (List.mem_append_right _ (List.mem_append_right _ (List.mem_append_right _ (List.mem_of_getElem? (i := 14) rfl))))))
set_option maxRecDepth 20000 in
theorem wz_md_isPath : Cond.selects yX12_isPath.cls yX12_isPath yX12_isPath ∈ lw_tbl := List.mem_append_left _ (List.mem_map.mpr ⟨(yX12_isPath, _), (List.mem_append_right _ (List.mem_append_right _ (List.mem_append_right _ (List.mem_append_right _ (List.mem_of_getElem? (i := 3) rfl))))), rfl⟩)
set_option maxRecDepth 20000 in
theorem wi_md_path : wI yX12_path := List.mem_append_right _ (List.mem_append_right _ (List.mem_append_right _ (List.mem_append_right _ (List.mem_append_right _ (List.mem_append_right _ (List.mem_of_getElem? (i := 5) rfl))))))
set_option maxRecDepth 20000 in
theorem wz_md_path : Cond.selects yX12_path.cls yX12_path yX12_path ∈ lw_tbl := List.mem_append_right _ (List.mem_append_right _ (List.mem_append_right _ (List.mem_append_right _ (List.mem_append_right _ (List.mem_append_right _ (List.mem_of_getElem? (i := 6) rfl))))))
set_option maxRecDepth 20000 in
theorem wi_md_step : wI yX12_step := List.mem_append_right _ (List.mem_append_right _ (List.mem_append_right _ (List.mem_append_right _ (List.mem_append_right _ (List.mem_append_right _ (List.mem_of_getElem? (i := 9) rfl))))))
set_option maxRecDepth 20000 in
theorem wz_md_step : Cond.selects yX12_step.cls yX12_step yX12_step ∈ lw_tbl := List.mem_append_right _ (List.mem_append_right _ (List.mem_append_right _ (List.mem_append_right _ (List.mem_append_right _ (List.mem_append_right _ (List.mem_of_getElem? (i := 10) rfl))))))
set_option maxRecDepth 20000 in
theorem wi_md_fault : wI yX12_fault := List.mem_append_right _ (List.mem_append_right _ (List.mem_append_right _ (List.mem_append_right _ (List.mem_append_right _ (List.mem_append_right _ (List.mem_of_getElem? (i := 17) rfl))))))
set_option maxRecDepth 20000 in
theorem wz_md_fault : Cond.selects yX12_fault.cls yX12_fault yX12_fault ∈ lw_tbl := List.mem_append_right _ (List.mem_append_right _ (List.mem_append_right _ (List.mem_append_right _ (List.mem_append_right _ (List.mem_append_right _ (List.mem_of_getElem? (i := 18) rfl))))))
set_option maxRecDepth 20000 in
theorem wi_md_matched : wI yX12_matched := List.mem_append_right _ (List.mem_append_right _ (List.mem_append_right _ (List.mem_append_right _ (List.mem_append_right _ (List.mem_append_right _ (List.mem_of_getElem? (i := 34) rfl))))))
set_option maxRecDepth 20000 in
theorem wz_md_matched : Cond.selects yX12_matched.cls yX12_matched yX12_matched ∈ lw_tbl := List.mem_append_left _ (List.mem_map.mpr ⟨(yX12_matched, _), (List.mem_append_right _ (List.mem_append_right _ (List.mem_append_right _ (List.mem_append_right _ (List.mem_of_getElem? (i := 6) rfl))))), rfl⟩)
set_option maxRecDepth 20000 in
theorem wi_md_walkField : wI yX12_walkField := List.mem_append_right _ (List.mem_append_right _ (List.mem_append_right _ (List.mem_append_right _ (List.mem_append_right _ (List.mem_append_right _ (List.mem_of_getElem? (i := 30) rfl))))))
set_option maxRecDepth 20000 in
theorem wz_md_walkField : Cond.selects yX12_walkField.cls yX12_walkField yX12_walkField ∈ lw_tbl := List.mem_append_left _ (List.mem_map.mpr ⟨(yX12_walkField, _), (List.mem_append_right _ (List.mem_append_right _ (List.mem_append_right _ (List.mem_append_right _ (List.mem_of_getElem? (i := 5) rfl))))), rfl⟩)
set_option maxRecDepth 20000 in
theorem wi_md_walkList : wI yX12_walkList := List.mem_append_right _ (List.mem_append_right _ (List.mem_append_right _ (List.mem_append_right _ (List.mem_append_right _ (List.mem_append_right _ (List.mem_of_getElem? (i := 38) rfl))))))
set_option maxRecDepth 20000 in
theorem wz_md_walkList : Cond.selects yX12_walkList.cls yX12_walkList yX12_walkList ∈ lw_tbl := List.mem_append_left _ (List.mem_map.mpr ⟨(yX12_walkList, _), (List.mem_append_right _ (List.mem_append_right _ (List.mem_append_right _ (List.mem_append_right _ (List.mem_of_getElem? (i := 7) rfl))))), rfl⟩)
set_option maxRecDepth 20000 in
theorem wi_md_walk : wI yX12_walk := List.mem_append_right _ (List.mem_append_right _ (List.mem_append_right _ (List.mem_append_right _ (List.mem_append_right _ (List.mem_append_right _ (List.mem_of_getElem? (i := 26) rfl))))))
set_option maxRecDepth 20000 in
theorem wz_md_walk : Cond.selects yX12_walk.cls yX12_walk yX12_walk ∈ lw_tbl := List.mem_append_left _ (List.mem_map.mpr ⟨(yX12_walk, _), (List.mem_append_right _ (List.mem_append_right _ (List.mem_append_right _ (List.mem_append_right _ (List.mem_of_getElem? (i := 4) rfl))))), rfl⟩)
set_option maxRecDepth 20000 in
theorem wi_md_matches : wI yX12_matches := List.mem_append_right _ (List.mem_append_right _ (List.mem_append_right _ (List.mem_append_right _ (List.mem_append_right _ (List.mem_append_right _ (List.mem_of_getElem? (i := 21) rfl))))))
set_option maxRecDepth 20000 in
theorem wz_md_matches : Cond.selects yX12_matches.cls yX12_matches yX12_matches ∈ lw_tbl := List.mem_append_right _ (List.mem_append_right _ (List.mem_append_right _ (List.mem_append_right _ (List.mem_append_right _ (List.mem_append_right _ (List.mem_of_getElem? (i := 22) rfl))))))
set_option maxRecDepth 20000 in
theorem wi_md_match : wI yX12_match := List.mem_append_right _ (List.mem_append_right _ (List.mem_append_right _ (List.mem_append_right _ (List.mem_append_right _ (List.mem_append_right _ (List.mem_of_getElem? (i := 41) rfl))))))
set_option maxRecDepth 20000 in
theorem wz_md_match : Cond.selects yX12_match.cls yX12_match yX12_match ∈ lw_tbl := List.mem_append_right _ (List.mem_append_right _ (List.mem_append_right _ (List.mem_append_right _ (List.mem_append_right _ (List.mem_append_right _ (List.mem_of_getElem? (i := 42) rfl))))))
set_option maxRecDepth 20000 in
theorem wi_md_copied : wI yX12_copied := List.mem_append_right _ (List.mem_append_right _ (List.mem_append_right _ (List.mem_append_right _ (List.mem_append_right _ (List.mem_append_right _ (List.mem_of_getElem? (i := 54) rfl))))))
set_option maxRecDepth 20000 in
theorem wz_md_copied : Cond.selects yX12_copied.cls yX12_copied yX12_copied ∈ lw_tbl := List.mem_append_left _ (List.mem_map.mpr ⟨(yX12_copied, _), (List.mem_append_right _ (List.mem_append_right _ (List.mem_append_right _ (List.mem_append_right _ (List.mem_of_getElem? (i := 9) rfl))))), rfl⟩)
set_option maxRecDepth 20000 in
theorem wi_md_copy : wI yX12_copy := List.mem_append_right _ (List.mem_append_right _ (List.mem_append_right _ (List.mem_append_right _ (List.mem_append_right _ (List.mem_append_right _ (List.mem_of_getElem? (i := 45) rfl))))))
set_option maxRecDepth 20000 in
theorem wz_md_copy : Cond.selects yX12_copy.cls yX12_copy yX12_copy ∈ lw_tbl := List.mem_append_right _ (List.mem_append_right _ (List.mem_append_right _ (List.mem_append_right _ (List.mem_append_right _ (List.mem_append_right _ (List.mem_of_getElem? (i := 46) rfl))))))
set_option maxRecDepth 20000 in
theorem wi_md_alsoAlike : wI yX12_alsoAlike := List.mem_append_right _ (List.mem_append_right _ (List.mem_append_right _ (List.mem_append_right _ (List.mem_append_right _ (List.mem_append_right _ (List.mem_of_getElem? (i := 62) rfl))))))
set_option maxRecDepth 20000 in
theorem wz_md_alsoAlike : Cond.selects yX12_alsoAlike.cls yX12_alsoAlike yX12_alsoAlike ∈ lw_tbl := List.mem_append_left _ (List.mem_map.mpr ⟨(yX12_alsoAlike, _), (List.mem_append_right _ (List.mem_append_right _ (List.mem_append_right _ (List.mem_append_right _ (List.mem_of_getElem? (i := 10) rfl))))), rfl⟩)
set_option maxRecDepth 20000 in
theorem wi_md_areLike : wI yX12_areLike := List.mem_append_right _ (List.mem_append_right _ (List.mem_append_right _ (List.mem_append_right _ (List.mem_append_right _ (List.mem_append_right _ (List.mem_of_getElem? (i := 66) rfl))))))
set_option maxRecDepth 20000 in
theorem wz_md_areLike : Cond.selects yX12_areLike.cls yX12_areLike yX12_areLike ∈ lw_tbl := List.mem_append_left _ (List.mem_map.mpr ⟨(yX12_areLike, _), (List.mem_append_right _ (List.mem_append_right _ (List.mem_append_right _ (List.mem_append_right _ (List.mem_of_getElem? (i := 11) rfl))))), rfl⟩)
set_option maxRecDepth 20000 in
theorem wi_md_alike : wI yX12_alike := List.mem_append_right _ (List.mem_append_right _ (List.mem_append_right _ (List.mem_append_right _ (List.mem_append_right _ (List.mem_append_right _ (List.mem_of_getElem? (i := 57) rfl))))))
set_option maxRecDepth 20000 in
theorem wz_md_alike : Cond.selects yX12_alike.cls yX12_alike yX12_alike ∈ lw_tbl := List.mem_append_right _ (List.mem_append_right _ (List.mem_append_right _ (List.mem_append_right _ (List.mem_append_right _ (List.mem_append_right _ (List.mem_of_getElem? (i := 58) rfl))))))
set_option maxRecDepth 20000 in
theorem wi_md_watch : wI yX12_watch := List.mem_append_right _ (List.mem_append_right _ (List.mem_append_right _ (List.mem_append_right _ (List.mem_append_right _ (List.mem_append_right _ (List.mem_of_getElem? (i := 69) rfl))))))
set_option maxRecDepth 20000 in
theorem wz_md_watch : Cond.selects yX12_watch.cls yX12_watch yX12_watch ∈ lw_tbl := List.mem_append_right _ (List.mem_append_right _ (List.mem_append_right _ (List.mem_append_right _ (List.mem_append_right _ (List.mem_append_right _ (List.mem_of_getElem? (i := 70) rfl))))))
set_option maxRecDepth 20000 in
theorem wi_md_note : wI yX12_note := List.mem_append_right _ (List.mem_append_right _ (List.mem_append_right _ (List.mem_append_right _ (List.mem_append_right _ (List.mem_append_right _ (List.mem_of_getElem? (i := 73) rfl))))))
set_option maxRecDepth 20000 in
theorem wz_md_note : Cond.selects yX12_note.cls yX12_note yX12_note ∈ lw_tbl := List.mem_append_right _ (List.mem_append_right _ (List.mem_append_right _ (List.mem_append_right _ (List.mem_append_right _ (List.mem_append_right _ (List.mem_of_getElem? (i := 74) rfl))))))
set_option maxRecDepth 20000 in
theorem wi_md_lacks : wI yX12_lacks := List.mem_append_right _ (List.mem_append_right _ (List.mem_append_right _ (List.mem_append_right _ (List.mem_append_right _ (List.mem_append_right _ (List.mem_of_getElem? (i := 77) rfl))))))
set_option maxRecDepth 20000 in
theorem wz_md_lacks : Cond.selects yX12_lacks.cls yX12_lacks yX12_lacks ∈ lw_tbl := List.mem_append_right _ (List.mem_append_right _ (List.mem_append_right _ (List.mem_append_right _ (List.mem_append_right _ (List.mem_append_right _ (List.mem_of_getElem? (i := 78) rfl))))))
set_option maxRecDepth 20000 in
theorem wi_md_count : wI yX12_count := List.mem_append_right _ (List.mem_append_right _ (List.mem_append_right _ (List.mem_append_right _ (List.mem_append_right _ (List.mem_append_right _ (List.mem_of_getElem? (i := 81) rfl))))))
set_option maxRecDepth 20000 in
theorem wz_md_count : Cond.selects yX12_count.cls yX12_count yX12_count ∈ lw_tbl := List.mem_append_right _ (List.mem_append_right _ (List.mem_append_right _ (List.mem_append_right _ (List.mem_append_right _ (List.mem_append_right _ (List.mem_of_getElem? (i := 82) rfl))))))
set_option maxRecDepth 20000 in
theorem wi_md_digest : wI yX12_digest := List.mem_append_right _ (List.mem_append_right _ (List.mem_append_right _ (List.mem_append_right _ (List.mem_append_right _ (List.mem_append_right _ (List.mem_of_getElem? (i := 85) rfl))))))
set_option maxRecDepth 20000 in
theorem wz_md_digest : Cond.selects yX12_digest.cls yX12_digest yX12_digest ∈ lw_tbl := List.mem_append_right _ (List.mem_append_right _ (List.mem_append_right _ (List.mem_append_right _ (List.mem_append_right _ (List.mem_append_right _ (List.mem_of_getElem? (i := 86) rfl))))))
set_option maxRecDepth 20000 in
theorem ws_mt_max : Cond.static yJ9_max_7cf53 ∈ lw_tbl := List.mem_append_right _ (List.mem_append_right _ (List.mem_append_left _ (List.mem_of_getElem? (i := 111) rfl)))
set_option maxRecDepth 20000 in
theorem ws_mt_min : Cond.static yJ9_min_7cf53 ∈ lw_tbl := List.mem_append_right _ (List.mem_append_right _ (List.mem_append_right _ (List.mem_append_left _ (List.mem_of_getElem? (i := 38) rfl))))
set_option maxRecDepth 20000 in
theorem wi_ac_init : wI yJxa1e45_init_da8c8 := List.mem_append_right _ (List.mem_append_left _ (List.mem_of_getElem? (i := 54) rfl))
set_option maxRecDepth 20000 in
theorem wi_ab_init : wI yJxc12de_init_da8c8 := List.mem_append_right _ (List.mem_append_left _ (List.mem_of_getElem? (i := 51) rfl))
set_option maxRecDepth 20000 in
theorem wi_al_init : wI yJx4a65c_init_da8c8 := List.mem_append_right _ (List.mem_append_left _ (List.mem_of_getElem? (i := 48) rfl))
set_option maxRecDepth 20000 in
theorem wi_al_grow1 : wI yJx4a65c_grow_92f84 := List.mem_append_right _ (List.mem_append_right _ (List.mem_append_right _ (List.mem_append_left _ (List.mem_of_getElem? (i := 0) rfl))))
set_option maxRecDepth 20000 in
theorem wz_al_grow1 : Cond.selects yJx4a65c_grow_92f84.cls yJx4a65c_grow_92f84 yJx4a65c_grow_92f84 ∈ lw_tbl := List.mem_append_left _ (List.mem_map.mpr ⟨(yJx4a65c_grow_92f84, _), (List.mem_append_right _ (List.mem_append_left _ (List.mem_of_getElem? (i := 1) rfl))), rfl⟩)
set_option maxRecDepth 20000 in
theorem wi_al_grow0 : wI yJx4a65c_grow_d5877 := List.mem_append_right _ (List.mem_append_right _ (List.mem_append_left _ (List.mem_of_getElem? (i := 236) rfl)))
set_option maxRecDepth 20000 in
theorem wz_al_grow0 : Cond.selects yJx4a65c_grow_d5877.cls yJx4a65c_grow_d5877 yJx4a65c_grow_d5877 ∈ lw_tbl := List.mem_append_left _ (List.mem_map.mpr ⟨(yJx4a65c_grow_d5877, _), (List.mem_append_right _ (List.mem_append_left _ (List.mem_of_getElem? (i := 0) rfl))), rfl⟩)
set_option maxRecDepth 20000 in
theorem wi_al_size : wI yJx4a65c_size_8abf5 := List.mem_append_right _ (List.mem_append_right _ (List.mem_append_left _ (List.mem_of_getElem? (i := 192) rfl)))
set_option maxRecDepth 20000 in
theorem wz_al_size : Cond.selects yJx4a65c_size_8abf5.cls yJx4a65c_size_8abf5 yJx4a65c_size_8abf5 ∈ lw_tbl := List.mem_append_right _ (List.mem_append_right _ (List.mem_append_left _ (List.mem_of_getElem? (i := 193) rfl)))
set_option maxRecDepth 20000 in
theorem wi_al_isEmpty : wI yJx4a65c_isEmpty_aae02 := List.mem_append_right _ (List.mem_append_right _ (List.mem_append_right _ (List.mem_append_left _ (List.mem_of_getElem? (i := 149) rfl))))
set_option maxRecDepth 20000 in
theorem wz_al_isEmpty : Cond.selects yJx4a65c_isEmpty_aae02.cls yJx4a65c_isEmpty_aae02 yJx4a65c_isEmpty_aae02 ∈ lw_tbl := List.mem_append_right _ (List.mem_append_right _ (List.mem_append_right _ (List.mem_append_left _ (List.mem_of_getElem? (i := 150) rfl))))
set_option maxRecDepth 20000 in
theorem wi_al_elementData : wI yJx4a65c_elementData_915e3 := List.mem_append_right _ (List.mem_append_right _ (List.mem_append_right _ (List.mem_append_left _ (List.mem_of_getElem? (i := 167) rfl))))
set_option maxRecDepth 20000 in
theorem wz_al_elementData : Cond.selects yJx4a65c_elementData_915e3.cls yJx4a65c_elementData_915e3 yJx4a65c_elementData_915e3 ∈ lw_tbl := List.mem_append_right _ (List.mem_append_right _ (List.mem_append_right _ (List.mem_append_left _ (List.mem_of_getElem? (i := 168) rfl))))
set_option maxRecDepth 20000 in
theorem wi_al_get : wI yJx4a65c_get_915e3 := List.mem_append_right _ (List.mem_append_right _ (List.mem_append_right _ (List.mem_append_left _ (List.mem_of_getElem? (i := 163) rfl))))
set_option maxRecDepth 20000 in
theorem wz_al_get : Cond.selects yJx4a65c_get_915e3.cls yJx4a65c_get_915e3 yJx4a65c_get_915e3 ∈ lw_tbl := List.mem_append_right _ (List.mem_append_right _ (List.mem_append_right _ (List.mem_append_left _ (List.mem_of_getElem? (i := 164) rfl))))
set_option maxRecDepth 20000 in
theorem wi_al_add3 : wI yJx4a65c_add_72be8 := List.mem_append_right _ (List.mem_append_right _ (List.mem_append_left _ (List.mem_of_getElem? (i := 232) rfl)))
set_option maxRecDepth 20000 in
theorem wz_al_add3 : Cond.selects yJx4a65c_add_72be8.cls yJx4a65c_add_72be8 yJx4a65c_add_72be8 ∈ lw_tbl := List.mem_append_left _ (List.mem_map.mpr ⟨(yJx4a65c_add_72be8, _), (List.mem_append_left _ (List.mem_of_getElem? (i := 15) rfl)), rfl⟩)
set_option maxRecDepth 20000 in
theorem wi_al_add1 : wI yJx4a65c_add_9ea2d := List.mem_append_right _ (List.mem_append_right _ (List.mem_append_left _ (List.mem_of_getElem? (i := 227) rfl)))
set_option maxRecDepth 20000 in
theorem wz_al_add1 : Cond.selects yJx4a65c_add_9ea2d.cls yJx4a65c_add_9ea2d yJx4a65c_add_9ea2d ∈ lw_tbl := List.mem_append_right _ (List.mem_append_right _ (List.mem_append_left _ (List.mem_of_getElem? (i := 228) rfl)))
set_option maxRecDepth 20000 in
theorem wi_al_remove : wI yJx4a65c_remove_915e3 := List.mem_append_right _ (List.mem_append_right _ (List.mem_append_right _ (List.mem_append_left _ (List.mem_of_getElem? (i := 64) rfl))))
set_option maxRecDepth 20000 in
theorem wz_al_remove : Cond.selects yJx4a65c_remove_915e3.cls yJx4a65c_remove_915e3 yJx4a65c_remove_915e3 ∈ lw_tbl := List.mem_append_right _ (List.mem_append_right _ (List.mem_append_right _ (List.mem_append_left _ (List.mem_of_getElem? (i := 65) rfl))))
set_option maxRecDepth 20000 in
theorem wi_al_fastRemove : wI yJx4a65c_fastRemove_b59b0 := List.mem_append_right _ (List.mem_append_right _ (List.mem_append_right _ (List.mem_append_left _ (List.mem_of_getElem? (i := 75) rfl))))
set_option maxRecDepth 20000 in
theorem wz_al_fastRemove : Cond.selects yJx4a65c_fastRemove_b59b0.cls yJx4a65c_fastRemove_b59b0 yJx4a65c_fastRemove_b59b0 ∈ lw_tbl := List.mem_append_left _ (List.mem_map.mpr ⟨(yJx4a65c_fastRemove_b59b0, _), (List.mem_append_right _ (List.mem_append_left _ (List.mem_of_getElem? (i := 2) rfl))), rfl⟩)
set_option maxRecDepth 20000 in
theorem wi_al_clear : wI yJx4a65c_clear_da8c8 := List.mem_append_right _ (List.mem_append_right _ (List.mem_append_left _ (List.mem_of_getElem? (i := 223) rfl)))
set_option maxRecDepth 20000 in
theorem wz_al_clear : Cond.selects yJx4a65c_clear_da8c8.cls yJx4a65c_clear_da8c8 yJx4a65c_clear_da8c8 ∈ lw_tbl := List.mem_append_right _ (List.mem_append_right _ (List.mem_append_left _ (List.mem_of_getElem? (i := 224) rfl)))
set_option maxRecDepth 20000 in
theorem ws_ar_copyOf2 : Cond.static yJ7_copyOf_1904c ∈ lw_tbl := List.mem_append_right _ (List.mem_append_right _ (List.mem_append_right _ (List.mem_append_left _ (List.mem_of_getElem? (i := 11) rfl))))
set_option maxRecDepth 20000 in
theorem ws_ar_copyOf3 : Cond.static yJ7_copyOf_6403c ∈ lw_tbl := List.mem_append_right _ (List.mem_append_right _ (List.mem_append_right _ (List.mem_append_left _ (List.mem_of_getElem? (i := 32) rfl))))
set_option maxRecDepth 20000 in
theorem ws_oj_checkIndex : Cond.static yJ15_checkIndex_7cf53 ∈ lw_tbl := List.mem_append_right _ (List.mem_append_right _ (List.mem_append_right _ (List.mem_append_left _ (List.mem_of_getElem? (i := 68) rfl))))
set_option maxRecDepth 20000 in
theorem ws_as_newLength : Cond.static yJ8_newLength_cabcc ∈ lw_tbl := List.mem_append_right _ (List.mem_append_right _ (List.mem_append_right _ (List.mem_append_left _ (List.mem_of_getElem? (i := 3) rfl))))
set_option maxRecDepth 20000 in
theorem ws_as_hugeLength : Cond.static yJ8_hugeLength_7cf53 ∈ lw_tbl := List.mem_append_right _ (List.mem_append_right _ (List.mem_append_right _ (List.mem_append_left _ (List.mem_of_getElem? (i := 8) rfl))))
set_option maxRecDepth 20000 in
theorem ws_pr_checkIndex : Cond.static yJ3_checkIndex_8e157 ∈ lw_tbl := List.mem_append_right _ (List.mem_append_right _ (List.mem_append_right _ (List.mem_append_left _ (List.mem_of_getElem? (i := 71) rfl))))
set_option maxRecDepth 20000 in
theorem ml_la_9 : Cond.methodLink RL 9 yX11_init ∈ lw_tbl := List.mem_append_right _ (List.mem_append_left _ (List.mem_of_getElem? (i := 25) rfl))
set_option maxRecDepth 20000 in
theorem ml_fe_3 : Cond.methodLink RX11 3 objectInit ∈ lw_tbl := List.mem_append_right _ (List.mem_append_left _ (List.mem_of_getElem? (i := 28) rfl))
set_option maxRecDepth 20000 in
theorem ml_hi_3 : Cond.methodLink RX3 3 objectInit ∈ lw_tbl := List.mem_append_right _ (List.mem_append_left _ (List.mem_of_getElem? (i := 44) rfl))
set_option maxRecDepth 20000 in
theorem ml_hi_11 : Cond.methodLink RX3 11 yJx4a65c_init_da8c8 ∈ lw_tbl := List.mem_append_right _ (List.mem_append_left _ (List.mem_of_getElem? (i := 47) rfl))
set_option maxRecDepth 20000 in
theorem ml_al_1 : Cond.methodLink RJx4a65c 1 yJxc12de_init_da8c8 ∈ lw_tbl := List.mem_append_right _ (List.mem_append_left _ (List.mem_of_getElem? (i := 50) rfl))
set_option maxRecDepth 20000 in
theorem ml_ab_1 : Cond.methodLink RJxc12de 1 yJxa1e45_init_da8c8 ∈ lw_tbl := List.mem_append_right _ (List.mem_append_left _ (List.mem_of_getElem? (i := 53) rfl))
set_option maxRecDepth 20000 in
theorem ml_ac_1 : Cond.methodLink RJxa1e45 1 objectInit ∈ lw_tbl := List.mem_append_right _ (List.mem_append_left _ (List.mem_of_getElem? (i := 56) rfl))
set_option maxRecDepth 20000 in
theorem ml_re_3 : Cond.methodLink RX6 3 objectInit ∈ lw_tbl := List.mem_append_right _ (List.mem_append_left _ (List.mem_of_getElem? (i := 89) rfl))
set_option maxRecDepth 20000 in
theorem ml_pa_3 : Cond.methodLink RX4 3 objectInit ∈ lw_tbl := List.mem_append_right _ (List.mem_append_left _ (List.mem_of_getElem? (i := 109) rfl))
set_option maxRecDepth 20000 in
theorem ml_so_3 : Cond.methodLink RX8 3 objectInit ∈ lw_tbl := List.mem_append_right _ (List.mem_append_left _ (List.mem_of_getElem? (i := 131) rfl))
set_option maxRecDepth 20000 in
theorem ml_la_13 : Cond.methodLink RL 13 yX11_shape ∈ lw_tbl := List.mem_append_right _ (List.mem_append_left _ (List.mem_of_getElem? (i := 188) rfl))
set_option maxRecDepth 20000 in
theorem ml_fe_68 : Cond.methodLink RX11 68 yX11_isShape ∈ lw_tbl := List.mem_append_right _ (List.mem_append_left _ (List.mem_of_getElem? (i := 192) rfl))
set_option maxRecDepth 20000 in
theorem ml_fe_76 : Cond.methodLink RX11 76 yX7_init ∈ lw_tbl := List.mem_append_right _ (List.mem_append_left _ (List.mem_of_getElem? (i := 197) rfl))
set_option maxRecDepth 20000 in
theorem ml_sh_3 : Cond.methodLink RX7 3 objectInit ∈ lw_tbl := List.mem_append_right _ (List.mem_append_left _ (List.mem_of_getElem? (i := 200) rfl))
set_option maxRecDepth 20000 in
theorem ml_fe_79 : Cond.methodLink RX11 79 yX7_inherit ∈ lw_tbl := List.mem_append_right _ (List.mem_append_left _ (List.mem_of_getElem? (i := 219) rfl))
set_option maxRecDepth 20000 in
theorem ml_sh_24 : Cond.methodLink RX7 24 yX7_append ∈ lw_tbl := List.mem_append_right _ (List.mem_append_left _ (List.mem_of_getElem? (i := 223) rfl))
set_option maxRecDepth 20000 in
theorem ml_la_18 : Cond.methodLink RL 18 yX11_number ∈ lw_tbl := List.mem_append_right _ (List.mem_append_left _ (List.mem_of_getElem? (i := 227) rfl))
set_option maxRecDepth 20000 in
theorem ml_fe_90 : Cond.methodLink RX11 90 yX11_flags ∈ lw_tbl := List.mem_append_right _ (List.mem_append_left _ (List.mem_of_getElem? (i := 234) rfl))
set_option maxRecDepth 20000 in
theorem ml_fe_94 : Cond.methodLink RX11 94 yX1_init ∈ lw_tbl := List.mem_append_right _ (List.mem_append_left _ (List.mem_of_getElem? (i := 237) rfl))
set_option maxRecDepth 20000 in
theorem ml_fd_3 : Cond.methodLink RX1 3 objectInit ∈ lw_tbl := List.mem_append_right _ (List.mem_append_right _ (List.mem_append_left _ (List.mem_of_getElem? (i := 0) rfl)))
set_option maxRecDepth 20000 in
theorem ml_fe_97 : Cond.methodLink RX11 97 yX11_addField ∈ lw_tbl := List.mem_append_right _ (List.mem_append_right _ (List.mem_append_left _ (List.mem_of_getElem? (i := 22) rfl)))
set_option maxRecDepth 20000 in
theorem ml_fe_123 : Cond.methodLink RX11 123 yX7_append ∈ lw_tbl := List.mem_append_right _ (List.mem_append_right _ (List.mem_append_left _ (List.mem_of_getElem? (i := 25) rfl)))
set_option maxRecDepth 20000 in
theorem ml_la_23 : Cond.methodLink RL 23 yX11_link ∈ lw_tbl := List.mem_append_right _ (List.mem_append_right _ (List.mem_append_left _ (List.mem_of_getElem? (i := 26) rfl)))
set_option maxRecDepth 20000 in
theorem ml_la_28 : Cond.methodLink RL 28 yX11_derived ∈ lw_tbl := List.mem_append_right _ (List.mem_append_right _ (List.mem_append_left _ (List.mem_of_getElem? (i := 30) rfl)))
set_option maxRecDepth 20000 in
theorem ml_fe_101 : Cond.methodLink RX11 101 yX11_canFollow ∈ lw_tbl := List.mem_append_right _ (List.mem_append_right _ (List.mem_append_left _ (List.mem_of_getElem? (i := 34) rfl)))
set_option maxRecDepth 20000 in
theorem ml_fe_105 : Cond.methodLink RX11 105 yX7_fieldAt ∈ lw_tbl := List.mem_append_right _ (List.mem_append_right _ (List.mem_append_left _ (List.mem_of_getElem? (i := 38) rfl)))
set_option maxRecDepth 20000 in
theorem ml_fe_127 : Cond.methodLink RX11 127 yX1_isNumeric ∈ lw_tbl := List.mem_append_right _ (List.mem_append_right _ (List.mem_append_left _ (List.mem_of_getElem? (i := 42) rfl)))
set_option maxRecDepth 20000 in
theorem ml_la_33 : Cond.methodLink RL 33 yX11_told ∈ lw_tbl := List.mem_append_right _ (List.mem_append_right _ (List.mem_append_left _ (List.mem_of_getElem? (i := 46) rfl)))
set_option maxRecDepth 20000 in
theorem ml_la_38 : Cond.methodLink RL 38 yX11_object ∈ lw_tbl := List.mem_append_right _ (List.mem_append_right _ (List.mem_append_left _ (List.mem_of_getElem? (i := 50) rfl)))
set_option maxRecDepth 20000 in
theorem ml_fe_137 : Cond.methodLink RX11 137 yX9_init ∈ lw_tbl := List.mem_append_right _ (List.mem_append_right _ (List.mem_append_left _ (List.mem_of_getElem? (i := 55) rfl)))
set_option maxRecDepth 20000 in
theorem ml_th_1 : Cond.methodLink RX9 1 objectInit ∈ lw_tbl := List.mem_append_right _ (List.mem_append_right _ (List.mem_append_left _ (List.mem_of_getElem? (i := 58) rfl)))
set_option maxRecDepth 20000 in
theorem ml_fe_148 : Cond.methodLink RX11 148 yX1_firstRow ∈ lw_tbl := List.mem_append_right _ (List.mem_append_right _ (List.mem_append_left _ (List.mem_of_getElem? (i := 70) rfl)))
set_option maxRecDepth 20000 in
theorem ml_la_42 : Cond.methodLink RL 42 yX11_get ∈ lw_tbl := List.mem_append_right _ (List.mem_append_right _ (List.mem_append_left _ (List.mem_of_getElem? (i := 75) rfl)))
set_option maxRecDepth 20000 in
theorem ml_fe_152 : Cond.methodLink RX11 152 yX11_fieldOf ∈ lw_tbl := List.mem_append_right _ (List.mem_append_right _ (List.mem_append_left _ (List.mem_of_getElem? (i := 79) rfl)))
set_option maxRecDepth 20000 in
theorem ml_fe_160 : Cond.methodLink RX11 160 yX11_isThing ∈ lw_tbl := List.mem_append_right _ (List.mem_append_right _ (List.mem_append_left _ (List.mem_of_getElem? (i := 83) rfl)))
set_option maxRecDepth 20000 in
theorem ml_fe_156 : Cond.methodLink RX11 156 yX11_valueOf ∈ lw_tbl := List.mem_append_right _ (List.mem_append_right _ (List.mem_append_left _ (List.mem_of_getElem? (i := 87) rfl)))
set_option maxRecDepth 20000 in
theorem ml_fe_179 : Cond.methodLink RX11 179 yX1_plainValue ∈ lw_tbl := List.mem_append_right _ (List.mem_append_right _ (List.mem_append_left _ (List.mem_of_getElem? (i := 91) rfl)))
set_option maxRecDepth 20000 in
theorem ml_fe_183 : Cond.methodLink RX11 183 yX11_fillValues ∈ lw_tbl := List.mem_append_right _ (List.mem_append_right _ (List.mem_append_left _ (List.mem_of_getElem? (i := 95) rfl)))
set_option maxRecDepth 20000 in
theorem ml_fe_187 : Cond.methodLink RX11 187 yX11_derive ∈ lw_tbl := List.mem_append_right _ (List.mem_append_right _ (List.mem_append_left _ (List.mem_of_getElem? (i := 99) rfl)))
set_option maxRecDepth 20000 in
theorem ml_fe_194 : Cond.methodLink RX11 194 yX11_total ∈ lw_tbl := List.mem_append_right _ (List.mem_append_right _ (List.mem_append_left _ (List.mem_of_getElem? (i := 103) rfl)))
set_option maxRecDepth 20000 in
theorem ml_fe_197 : Cond.methodLink RX11 197 yX11_ofTwo ∈ lw_tbl := List.mem_append_right _ (List.mem_append_right _ (List.mem_append_left _ (List.mem_of_getElem? (i := 107) rfl)))
set_option maxRecDepth 20000 in
theorem ml_fe_201 : Cond.methodLink RX11 201 yJ9_max_7cf53 ∈ lw_tbl := List.mem_append_right _ (List.mem_append_right _ (List.mem_append_left _ (List.mem_of_getElem? (i := 110) rfl)))
set_option maxRecDepth 20000 in
theorem ml_la_47 : Cond.methodLink RL 47 yX11_element ∈ lw_tbl := List.mem_append_right _ (List.mem_append_right _ (List.mem_append_left _ (List.mem_of_getElem? (i := 113) rfl)))
set_option maxRecDepth 20000 in
theorem ml_la_51 : Cond.methodLink RL 51 yX11_shapeOf ∈ lw_tbl := List.mem_append_right _ (List.mem_append_right _ (List.mem_append_left _ (List.mem_of_getElem? (i := 117) rfl)))
set_option maxRecDepth 20000 in
theorem ml_la_55 : Cond.methodLink RL 55 yX11_holders ∈ lw_tbl := List.mem_append_right _ (List.mem_append_right _ (List.mem_append_left _ (List.mem_of_getElem? (i := 121) rfl)))
set_option maxRecDepth 20000 in
theorem ml_fe_166 : Cond.methodLink RX11 166 yX1_leads ∈ lw_tbl := List.mem_append_right _ (List.mem_append_right _ (List.mem_append_left _ (List.mem_of_getElem? (i := 125) rfl)))
set_option maxRecDepth 20000 in
theorem ml_fe_169 : Cond.methodLink RX11 169 yX11_timesIn ∈ lw_tbl := List.mem_append_right _ (List.mem_append_right _ (List.mem_append_left _ (List.mem_of_getElem? (i := 129) rfl)))
set_option maxRecDepth 20000 in
theorem ml_la_59 : Cond.methodLink RL 59 yX11_holds ∈ lw_tbl := List.mem_append_right _ (List.mem_append_right _ (List.mem_append_left _ (List.mem_of_getElem? (i := 132) rfl)))
set_option maxRecDepth 20000 in
theorem ml_fe_173 : Cond.methodLink RX11 173 yX11_reach ∈ lw_tbl := List.mem_append_right _ (List.mem_append_right _ (List.mem_append_left _ (List.mem_of_getElem? (i := 136) rfl)))
set_option maxRecDepth 20000 in
theorem ml_fe_206 : Cond.methodLink RX11 206 yX6_start ∈ lw_tbl := List.mem_append_right _ (List.mem_append_right _ (List.mem_append_left _ (List.mem_of_getElem? (i := 140) rfl)))
set_option maxRecDepth 20000 in
theorem ml_re_22 : Cond.methodLink RX6 22 yX6_add ∈ lw_tbl := List.mem_append_right _ (List.mem_append_right _ (List.mem_append_left _ (List.mem_of_getElem? (i := 144) rfl)))
set_option maxRecDepth 20000 in
theorem ml_fe_213 : Cond.methodLink RX11 213 yX1_holdsOn ∈ lw_tbl := List.mem_append_right _ (List.mem_append_right _ (List.mem_append_left _ (List.mem_of_getElem? (i := 148) rfl)))
set_option maxRecDepth 20000 in
theorem ml_fd_27 : Cond.methodLink RX1 27 yX1_leads ∈ lw_tbl := List.mem_append_right _ (List.mem_append_right _ (List.mem_append_left _ (List.mem_of_getElem? (i := 152) rfl)))
set_option maxRecDepth 20000 in
theorem ml_fd_31 : Cond.methodLink RX1 31 yX1_has ∈ lw_tbl := List.mem_append_right _ (List.mem_append_right _ (List.mem_append_left _ (List.mem_of_getElem? (i := 153) rfl)))
set_option maxRecDepth 20000 in
theorem ml_fe_216 : Cond.methodLink RX11 216 yX6_addAll ∈ lw_tbl := List.mem_append_right _ (List.mem_append_right _ (List.mem_append_left _ (List.mem_of_getElem? (i := 157) rfl)))
set_option maxRecDepth 20000 in
theorem ml_la_63 : Cond.methodLink RL 63 yX11_set ∈ lw_tbl := List.mem_append_right _ (List.mem_append_right _ (List.mem_append_left _ (List.mem_of_getElem? (i := 162) rfl)))
set_option maxRecDepth 20000 in
theorem ml_fe_220 : Cond.methodLink RX11 220 yX11_isLocked ∈ lw_tbl := List.mem_append_right _ (List.mem_append_right _ (List.mem_append_left _ (List.mem_of_getElem? (i := 166) rfl)))
set_option maxRecDepth 20000 in
theorem ml_fe_240 : Cond.methodLink RX11 240 yX1_has ∈ lw_tbl := List.mem_append_right _ (List.mem_append_right _ (List.mem_append_left _ (List.mem_of_getElem? (i := 170) rfl)))
set_option maxRecDepth 20000 in
theorem ml_fe_224 : Cond.methodLink RX11 224 yX11_isVetoed ∈ lw_tbl := List.mem_append_right _ (List.mem_append_right _ (List.mem_append_left _ (List.mem_of_getElem? (i := 171) rfl)))
set_option maxRecDepth 20000 in
theorem ml_fe_307 : Cond.methodLink RX11 307 yX11_sees ∈ lw_tbl := List.mem_append_right _ (List.mem_append_right _ (List.mem_append_left _ (List.mem_of_getElem? (i := 175) rfl)))
set_option maxRecDepth 20000 in
theorem ml_fe_232 : Cond.methodLink RX11 232 yX11_isOf ∈ lw_tbl := List.mem_append_right _ (List.mem_append_right _ (List.mem_append_left _ (List.mem_of_getElem? (i := 179) rfl)))
set_option maxRecDepth 20000 in
theorem ml_fe_228 : Cond.methodLink RX11 228 yX11_take ∈ lw_tbl := List.mem_append_right _ (List.mem_append_right _ (List.mem_append_left _ (List.mem_of_getElem? (i := 183) rfl)))
set_option maxRecDepth 20000 in
theorem ml_fe_333 : Cond.methodLink RX11 333 yX3_hasRoom ∈ lw_tbl := List.mem_append_right _ (List.mem_append_right _ (List.mem_append_left _ (List.mem_of_getElem? (i := 187) rfl)))
set_option maxRecDepth 20000 in
theorem ml_hi_30 : Cond.methodLink RX3 30 yJx4a65c_size_8abf5 ∈ lw_tbl := List.mem_append_right _ (List.mem_append_right _ (List.mem_append_left _ (List.mem_of_getElem? (i := 191) rfl)))
set_option maxRecDepth 20000 in
theorem ml_fe_338 : Cond.methodLink RX11 338 yX0_init ∈ lw_tbl := List.mem_append_right _ (List.mem_append_right _ (List.mem_append_left _ (List.mem_of_getElem? (i := 197) rfl)))
set_option maxRecDepth 20000 in
theorem ml_ed_1 : Cond.methodLink RX0 1 objectInit ∈ lw_tbl := List.mem_append_right _ (List.mem_append_right _ (List.mem_append_left _ (List.mem_of_getElem? (i := 200) rfl)))
set_option maxRecDepth 20000 in
theorem ml_fe_341 : Cond.methodLink RX11 341 yX3_keep ∈ lw_tbl := List.mem_append_right _ (List.mem_append_right _ (List.mem_append_left _ (List.mem_of_getElem? (i := 218) rfl)))
set_option maxRecDepth 20000 in
theorem ml_hi_34 : Cond.methodLink RX3 34 yJx4a65c_clear_da8c8 ∈ lw_tbl := List.mem_append_right _ (List.mem_append_right _ (List.mem_append_left _ (List.mem_of_getElem? (i := 222) rfl)))
set_option maxRecDepth 20000 in
theorem ml_hi_37 : Cond.methodLink RX3 37 yJx4a65c_add_9ea2d ∈ lw_tbl := List.mem_append_right _ (List.mem_append_right _ (List.mem_append_left _ (List.mem_of_getElem? (i := 226) rfl)))
set_option maxRecDepth 20000 in
theorem ml_al_131 : Cond.methodLink RJx4a65c 131 yJx4a65c_add_72be8 ∈ lw_tbl := List.mem_append_right _ (List.mem_append_right _ (List.mem_append_left _ (List.mem_of_getElem? (i := 230) rfl)))
set_option maxRecDepth 20000 in
theorem ml_al_129 : Cond.methodLink RJx4a65c 129 yJx4a65c_grow_d5877 ∈ lw_tbl := List.mem_append_right _ (List.mem_append_right _ (List.mem_append_left _ (List.mem_of_getElem? (i := 234) rfl)))
set_option maxRecDepth 20000 in
theorem ml_al_69 : Cond.methodLink RJx4a65c 69 yJx4a65c_grow_92f84 ∈ lw_tbl := List.mem_append_right _ (List.mem_append_right _ (List.mem_append_left _ (List.mem_of_getElem? (i := 238) rfl)))
set_option maxRecDepth 20000 in
theorem ml_al_73 : Cond.methodLink RJx4a65c 73 yJ8_newLength_cabcc ∈ lw_tbl := List.mem_append_right _ (List.mem_append_right _ (List.mem_append_right _ (List.mem_append_left _ (List.mem_of_getElem? (i := 2) rfl))))
set_option maxRecDepth 20000 in
theorem ml_as_194 : Cond.methodLink RJ8 194 yJ9_max_7cf53 ∈ lw_tbl := List.mem_append_right _ (List.mem_append_right _ (List.mem_append_right _ (List.mem_append_left _ (List.mem_of_getElem? (i := 5) rfl))))
set_option maxRecDepth 20000 in
theorem ml_as_201 : Cond.methodLink RJ8 201 yJ8_hugeLength_7cf53 ∈ lw_tbl := List.mem_append_right _ (List.mem_append_right _ (List.mem_append_right _ (List.mem_append_left _ (List.mem_of_getElem? (i := 7) rfl))))
set_option maxRecDepth 20000 in
theorem ml_al_66 : Cond.methodLink RJx4a65c 66 yJ7_copyOf_1904c ∈ lw_tbl := List.mem_append_right _ (List.mem_append_right _ (List.mem_append_right _ (List.mem_append_left _ (List.mem_of_getElem? (i := 10) rfl))))
set_option maxRecDepth 20000 in
theorem ml_ar_86 : Cond.methodLink RJ7 86 ⟨"java/lang/Object", "getClass", "()Ljava/lang/Class;"⟩ ∈ lw_tbl := List.mem_append_right _ (List.mem_append_right _ (List.mem_append_right _ (List.mem_append_left _ (List.mem_of_getElem? (i := 13) rfl))))
set_option maxRecDepth 20000 in
theorem ml_ar_300 : Cond.methodLink RJ7 300 yJ7_copyOf_6403c ∈ lw_tbl := List.mem_append_right _ (List.mem_append_right _ (List.mem_append_right _ (List.mem_append_left _ (List.mem_of_getElem? (i := 31) rfl))))
set_option maxRecDepth 20000 in
theorem ml_ar_304 : Cond.methodLink RJ7 304 yJ9_min_7cf53 ∈ lw_tbl := List.mem_append_right _ (List.mem_append_right _ (List.mem_append_right _ (List.mem_append_left _ (List.mem_of_getElem? (i := 37) rfl))))
set_option maxRecDepth 20000 in
theorem ml_ar_150 : Cond.methodLink RJ7 150 ⟨"java/lang/System", "arraycopy", "(Ljava/lang/Object;ILjava/lang/Object;II)V"⟩ ∈ lw_tbl := List.mem_append_right _ (List.mem_append_right _ (List.mem_append_right _ (List.mem_append_left _ (List.mem_of_getElem? (i := 40) rfl))))
set_option maxRecDepth 20000 in
theorem ml_al_79 : Cond.methodLink RJx4a65c 79 yJ9_max_7cf53 ∈ lw_tbl := List.mem_append_right _ (List.mem_append_right _ (List.mem_append_right _ (List.mem_append_left _ (List.mem_of_getElem? (i := 43) rfl))))
set_option maxRecDepth 20000 in
theorem ml_gr_1 : Cond.methodLink RX2 1 objectInit ∈ lw_tbl := List.mem_append_right _ (List.mem_append_right _ (List.mem_append_right _ (List.mem_append_left _ (List.mem_of_getElem? (i := 50) rfl))))
set_option maxRecDepth 20000 in
theorem ml_gr_9 : Cond.methodLink RX2 9 yJx4a65c_init_da8c8 ∈ lw_tbl := List.mem_append_right _ (List.mem_append_right _ (List.mem_append_right _ (List.mem_append_left _ (List.mem_of_getElem? (i := 52) rfl))))
set_option maxRecDepth 20000 in
theorem ml_hi_42 : Cond.methodLink RX3 42 yX3_push ∈ lw_tbl := List.mem_append_right _ (List.mem_append_right _ (List.mem_append_right _ (List.mem_append_left _ (List.mem_of_getElem? (i := 59) rfl))))
set_option maxRecDepth 20000 in
theorem ml_hi_46 : Cond.methodLink RX3 46 yJx4a65c_remove_915e3 ∈ lw_tbl := List.mem_append_right _ (List.mem_append_right _ (List.mem_append_right _ (List.mem_append_left _ (List.mem_of_getElem? (i := 63) rfl))))
set_option maxRecDepth 20000 in
theorem ml_al_118 : Cond.methodLink RJx4a65c 118 yJ15_checkIndex_7cf53 ∈ lw_tbl := List.mem_append_right _ (List.mem_append_right _ (List.mem_append_right _ (List.mem_append_left _ (List.mem_of_getElem? (i := 67) rfl))))
set_option maxRecDepth 20000 in
theorem ml_oj_105 : Cond.methodLink RJ15 105 yJ3_checkIndex_8e157 ∈ lw_tbl := List.mem_append_right _ (List.mem_append_right _ (List.mem_append_right _ (List.mem_append_left _ (List.mem_of_getElem? (i := 70) rfl))))
set_option maxRecDepth 20000 in
theorem ml_al_144 : Cond.methodLink RJx4a65c 144 yJx4a65c_fastRemove_b59b0 ∈ lw_tbl := List.mem_append_right _ (List.mem_append_right _ (List.mem_append_right _ (List.mem_append_left _ (List.mem_of_getElem? (i := 73) rfl))))
set_option maxRecDepth 20000 in
theorem ml_al_112 : Cond.methodLink RJx4a65c 112 ⟨"java/lang/System", "arraycopy", "(Ljava/lang/Object;ILjava/lang/Object;II)V"⟩ ∈ lw_tbl := List.mem_append_right _ (List.mem_append_right _ (List.mem_append_right _ (List.mem_append_left _ (List.mem_of_getElem? (i := 77) rfl))))
set_option maxRecDepth 20000 in
theorem ml_fe_345 : Cond.methodLink RX11 345 yX11_put ∈ lw_tbl := List.mem_append_right _ (List.mem_append_right _ (List.mem_append_right _ (List.mem_append_left _ (List.mem_of_getElem? (i := 78) rfl))))
set_option maxRecDepth 20000 in
theorem ml_fe_364 : Cond.methodLink RX11 364 yX10_write ∈ lw_tbl := List.mem_append_right _ (List.mem_append_right _ (List.mem_append_right _ (List.mem_append_left _ (List.mem_of_getElem? (i := 82) rfl))))
set_option maxRecDepth 20000 in
theorem ml_la_67 : Cond.methodLink RL 67 yX11_lead ∈ lw_tbl := List.mem_append_right _ (List.mem_append_right _ (List.mem_append_right _ (List.mem_append_left _ (List.mem_of_getElem? (i := 86) rfl))))
set_option maxRecDepth 20000 in
theorem ml_fe_236 : Cond.methodLink RX11 236 yX11_wouldLoop ∈ lw_tbl := List.mem_append_right _ (List.mem_append_right _ (List.mem_append_right _ (List.mem_append_left _ (List.mem_of_getElem? (i := 90) rfl))))
set_option maxRecDepth 20000 in
theorem ml_la_71 : Cond.methodLink RL 71 yX11_unset ∈ lw_tbl := List.mem_append_right _ (List.mem_append_right _ (List.mem_append_right _ (List.mem_append_left _ (List.mem_of_getElem? (i := 94) rfl))))
set_option maxRecDepth 20000 in
theorem ml_la_75 : Cond.methodLink RL 75 yX11_insert ∈ lw_tbl := List.mem_append_right _ (List.mem_append_right _ (List.mem_append_right _ (List.mem_append_left _ (List.mem_of_getElem? (i := 98) rfl))))
set_option maxRecDepth 20000 in
theorem ml_fe_243 : Cond.methodLink RX11 243 yX11_withPlace ∈ lw_tbl := List.mem_append_right _ (List.mem_append_right _ (List.mem_append_right _ (List.mem_append_left _ (List.mem_of_getElem? (i := 102) rfl))))
set_option maxRecDepth 20000 in
theorem ml_fe_311 : Cond.methodLink RX11 311 ⟨"java/lang/System", "arraycopy", "(Ljava/lang/Object;ILjava/lang/Object;II)V"⟩ ∈ lw_tbl := List.mem_append_right _ (List.mem_append_right _ (List.mem_append_right _ (List.mem_append_left _ (List.mem_of_getElem? (i := 105) rfl))))
set_option maxRecDepth 20000 in
theorem ml_la_79 : Cond.methodLink RL 79 yX11_remove ∈ lw_tbl := List.mem_append_right _ (List.mem_append_right _ (List.mem_append_right _ (List.mem_append_left _ (List.mem_of_getElem? (i := 106) rfl))))
set_option maxRecDepth 20000 in
theorem ml_fe_247 : Cond.methodLink RX11 247 yX11_withoutPlace ∈ lw_tbl := List.mem_append_right _ (List.mem_append_right _ (List.mem_append_right _ (List.mem_append_left _ (List.mem_of_getElem? (i := 110) rfl))))
set_option maxRecDepth 20000 in
theorem ml_la_83 : Cond.methodLink RL 83 yX11_sort ∈ lw_tbl := List.mem_append_right _ (List.mem_append_right _ (List.mem_append_right _ (List.mem_append_left _ (List.mem_of_getElem? (i := 113) rfl))))
set_option maxRecDepth 20000 in
theorem ml_fe_251 : Cond.methodLink RX11 251 yX11_inOrder ∈ lw_tbl := List.mem_append_right _ (List.mem_append_right _ (List.mem_append_right _ (List.mem_append_left _ (List.mem_of_getElem? (i := 117) rfl))))
set_option maxRecDepth 20000 in
theorem ml_fe_317 : Cond.methodLink RX11 317 ⟨"[I", "clone", "()Ljava/lang/Object;"⟩ ∈ lw_tbl := List.mem_append_right _ (List.mem_append_right _ (List.mem_append_right _ (List.mem_append_left _ (List.mem_of_getElem? (i := 121) rfl))))
set_option maxRecDepth 20000 in
theorem ml_fe_322 : Cond.methodLink RX11 322 yX11_sortKey ∈ lw_tbl := List.mem_append_right _ (List.mem_append_right _ (List.mem_append_right _ (List.mem_append_left _ (List.mem_of_getElem? (i := 128) rfl))))
set_option maxRecDepth 20000 in
theorem ml_fe_325 : Cond.methodLink RX11 325 yX11_goesAhead ∈ lw_tbl := List.mem_append_right _ (List.mem_append_right _ (List.mem_append_right _ (List.mem_append_left _ (List.mem_of_getElem? (i := 132) rfl))))
set_option maxRecDepth 20000 in
theorem ml_fe_329 : Cond.methodLink RX11 329 yX11_swap ∈ lw_tbl := List.mem_append_right _ (List.mem_append_right _ (List.mem_append_right _ (List.mem_append_left _ (List.mem_of_getElem? (i := 135) rfl))))
set_option maxRecDepth 20000 in
theorem ml_la_88 : Cond.methodLink RL 88 yX11_begin ∈ lw_tbl := List.mem_append_right _ (List.mem_append_right _ (List.mem_append_right _ (List.mem_append_left _ (List.mem_of_getElem? (i := 138) rfl))))
set_option maxRecDepth 20000 in
theorem ml_la_93 : Cond.methodLink RL 93 yX11_commit ∈ lw_tbl := List.mem_append_right _ (List.mem_append_right _ (List.mem_append_right _ (List.mem_append_left _ (List.mem_of_getElem? (i := 144) rfl))))
set_option maxRecDepth 20000 in
theorem ml_fe_266 : Cond.methodLink RX11 266 yJx4a65c_isEmpty_aae02 ∈ lw_tbl := List.mem_append_right _ (List.mem_append_right _ (List.mem_append_right _ (List.mem_append_left _ (List.mem_of_getElem? (i := 148) rfl))))
set_option maxRecDepth 20000 in
theorem ml_fe_271 : Cond.methodLink RX11 271 yX3_push ∈ lw_tbl := List.mem_append_right _ (List.mem_append_right _ (List.mem_append_right _ (List.mem_append_left _ (List.mem_of_getElem? (i := 152) rfl))))
set_option maxRecDepth 20000 in
theorem ml_fe_275 : Cond.methodLink RX11 275 yJx4a65c_size_8abf5 ∈ lw_tbl := List.mem_append_right _ (List.mem_append_right _ (List.mem_append_right _ (List.mem_append_left _ (List.mem_of_getElem? (i := 153) rfl))))
set_option maxRecDepth 20000 in
theorem ml_la_97 : Cond.methodLink RL 97 yX11_abort ∈ lw_tbl := List.mem_append_right _ (List.mem_append_right _ (List.mem_append_right _ (List.mem_append_left _ (List.mem_of_getElem? (i := 154) rfl))))
set_option maxRecDepth 20000 in
theorem ml_fe_278 : Cond.methodLink RX11 278 yX11_takeBack ∈ lw_tbl := List.mem_append_right _ (List.mem_append_right _ (List.mem_append_right _ (List.mem_append_left _ (List.mem_of_getElem? (i := 158) rfl))))
set_option maxRecDepth 20000 in
theorem ml_fe_349 : Cond.methodLink RX11 349 yJx4a65c_get_915e3 ∈ lw_tbl := List.mem_append_right _ (List.mem_append_right _ (List.mem_append_right _ (List.mem_append_left _ (List.mem_of_getElem? (i := 162) rfl))))
set_option maxRecDepth 20000 in
theorem ml_al_123 : Cond.methodLink RJx4a65c 123 yJx4a65c_elementData_915e3 ∈ lw_tbl := List.mem_append_right _ (List.mem_append_right _ (List.mem_append_right _ (List.mem_append_left _ (List.mem_of_getElem? (i := 166) rfl))))
set_option maxRecDepth 20000 in
theorem ml_la_101 : Cond.methodLink RL 101 yX11_undo ∈ lw_tbl := List.mem_append_right _ (List.mem_append_right _ (List.mem_append_right _ (List.mem_append_left _ (List.mem_of_getElem? (i := 170) rfl))))
set_option maxRecDepth 20000 in
theorem ml_fe_284 : Cond.methodLink RX11 284 yJx4a65c_remove_915e3 ∈ lw_tbl := List.mem_append_right _ (List.mem_append_right _ (List.mem_append_right _ (List.mem_append_left _ (List.mem_of_getElem? (i := 174) rfl))))
set_option maxRecDepth 20000 in
theorem ml_fe_291 : Cond.methodLink RX11 291 yJx4a65c_add_9ea2d ∈ lw_tbl := List.mem_append_right _ (List.mem_append_right _ (List.mem_append_right _ (List.mem_append_left _ (List.mem_of_getElem? (i := 175) rfl))))
set_option maxRecDepth 20000 in
theorem ml_la_105 : Cond.methodLink RL 105 yX11_redo ∈ lw_tbl := List.mem_append_right _ (List.mem_append_right _ (List.mem_append_right _ (List.mem_append_left _ (List.mem_of_getElem? (i := 176) rfl))))
set_option maxRecDepth 20000 in
theorem ml_fe_295 : Cond.methodLink RX11 295 yX11_doAgain ∈ lw_tbl := List.mem_append_right _ (List.mem_append_right _ (List.mem_append_right _ (List.mem_append_left _ (List.mem_of_getElem? (i := 180) rfl))))
set_option maxRecDepth 20000 in
theorem ml_la_109 : Cond.methodLink RL 109 yX11_path ∈ lw_tbl := List.mem_append_right _ (List.mem_append_right _ (List.mem_append_right _ (List.mem_append_left _ (List.mem_of_getElem? (i := 184) rfl))))
set_option maxRecDepth 20000 in
theorem ml_pt_3 : Cond.methodLink RX5 3 objectInit ∈ lw_tbl := List.mem_append_right _ (List.mem_append_right _ (List.mem_append_right _ (List.mem_append_left _ (List.mem_of_getElem? (i := 192) rfl))))
set_option maxRecDepth 20000 in
theorem ml_la_113 : Cond.methodLink RL 113 yX11_step ∈ lw_tbl := List.mem_append_right _ (List.mem_append_right _ (List.mem_append_right _ (List.mem_append_left _ (List.mem_of_getElem? (i := 206) rfl))))
set_option maxRecDepth 20000 in
theorem ml_fe_372 : Cond.methodLink RX11 372 yX11_isPath ∈ lw_tbl := List.mem_append_right _ (List.mem_append_right _ (List.mem_append_right _ (List.mem_append_left _ (List.mem_of_getElem? (i := 210) rfl))))
set_option maxRecDepth 20000 in
theorem ml_fe_375 : Cond.methodLink RX11 375 yX11_isStep ∈ lw_tbl := List.mem_append_right _ (List.mem_append_right _ (List.mem_append_right _ (List.mem_append_left _ (List.mem_of_getElem? (i := 214) rfl))))
set_option maxRecDepth 20000 in
theorem ml_fe_379 : Cond.methodLink RX11 379 yX5_append ∈ lw_tbl := List.mem_append_right _ (List.mem_append_right _ (List.mem_append_right _ (List.mem_append_left _ (List.mem_of_getElem? (i := 218) rfl))))
set_option maxRecDepth 20000 in
theorem ml_la_117 : Cond.methodLink RL 117 yX11_fault ∈ lw_tbl := List.mem_append_right _ (List.mem_append_right _ (List.mem_append_right _ (List.mem_append_left _ (List.mem_of_getElem? (i := 222) rfl))))
set_option maxRecDepth 20000 in
theorem ml_fe_387 : Cond.methodLink RX11 387 yX11_judge ∈ lw_tbl := List.mem_append_right _ (List.mem_append_right _ (List.mem_append_right _ (List.mem_append_left _ (List.mem_of_getElem? (i := 226) rfl))))
set_option maxRecDepth 20000 in
theorem ml_fe_400 : Cond.methodLink RX11 400 yX11_judgeField ∈ lw_tbl := List.mem_append_right _ (List.mem_append_right _ (List.mem_append_right _ (List.mem_append_left _ (List.mem_of_getElem? (i := 230) rfl))))
set_option maxRecDepth 20000 in
theorem ml_la_121 : Cond.methodLink RL 121 yX11_matches ∈ lw_tbl := List.mem_append_right _ (List.mem_append_right _ (List.mem_append_right _ (List.mem_append_left _ (List.mem_of_getElem? (i := 233) rfl))))
set_option maxRecDepth 20000 in
theorem ml_fe_390 : Cond.methodLink RX11 390 yX11_walk ∈ lw_tbl := List.mem_append_right _ (List.mem_append_right _ (List.mem_append_right _ (List.mem_append_left _ (List.mem_of_getElem? (i := 237) rfl))))
set_option maxRecDepth 20000 in
theorem ml_fe_403 : Cond.methodLink RX11 403 yX8_add ∈ lw_tbl := List.mem_append_right _ (List.mem_append_right _ (List.mem_append_right _ (List.mem_append_right _ (List.mem_append_left _ (List.mem_of_getElem? (i := 1) rfl)))))
set_option maxRecDepth 20000 in
theorem ml_fe_405 : Cond.methodLink RX11 405 yX11_go ∈ lw_tbl := List.mem_append_right _ (List.mem_append_right _ (List.mem_append_right _ (List.mem_append_right _ (List.mem_append_left _ (List.mem_of_getElem? (i := 5) rfl)))))
set_option maxRecDepth 20000 in
theorem ml_fe_409 : Cond.methodLink RX11 409 yX11_goToField ∈ lw_tbl := List.mem_append_right _ (List.mem_append_right _ (List.mem_append_right _ (List.mem_append_right _ (List.mem_append_left _ (List.mem_of_getElem? (i := 9) rfl)))))
set_option maxRecDepth 20000 in
theorem ml_fe_413 : Cond.methodLink RX11 413 yX11_goIntoList ∈ lw_tbl := List.mem_append_right _ (List.mem_append_right _ (List.mem_append_right _ (List.mem_append_right _ (List.mem_append_left _ (List.mem_of_getElem? (i := 13) rfl)))))
set_option maxRecDepth 20000 in
theorem ml_la_125 : Cond.methodLink RL 125 yX11_match ∈ lw_tbl := List.mem_append_right _ (List.mem_append_right _ (List.mem_append_right _ (List.mem_append_right _ (List.mem_append_left _ (List.mem_of_getElem? (i := 16) rfl)))))
set_option maxRecDepth 20000 in
theorem ml_la_129 : Cond.methodLink RL 129 yX11_copy ∈ lw_tbl := List.mem_append_right _ (List.mem_append_right _ (List.mem_append_right _ (List.mem_append_right _ (List.mem_append_left _ (List.mem_of_getElem? (i := 20) rfl)))))
set_option maxRecDepth 20000 in
theorem ml_fe_417 : Cond.methodLink RX11 417 yX11_copyOf ∈ lw_tbl := List.mem_append_right _ (List.mem_append_right _ (List.mem_append_right _ (List.mem_append_right _ (List.mem_append_left _ (List.mem_of_getElem? (i := 24) rfl)))))
set_option maxRecDepth 20000 in
theorem ml_fe_437 : Cond.methodLink RX11 437 yX11_leadToCopies ∈ lw_tbl := List.mem_append_right _ (List.mem_append_right _ (List.mem_append_right _ (List.mem_append_right _ (List.mem_append_left _ (List.mem_of_getElem? (i := 28) rfl)))))
set_option maxRecDepth 20000 in
theorem ml_la_133 : Cond.methodLink RL 133 yX11_alike ∈ lw_tbl := List.mem_append_right _ (List.mem_append_right _ (List.mem_append_right _ (List.mem_append_right _ (List.mem_append_left _ (List.mem_of_getElem? (i := 32) rfl)))))
set_option maxRecDepth 20000 in
theorem ml_fe_421 : Cond.methodLink RX11 421 yX4_start ∈ lw_tbl := List.mem_append_right _ (List.mem_append_right _ (List.mem_append_right _ (List.mem_append_right _ (List.mem_append_left _ (List.mem_of_getElem? (i := 36) rfl)))))
set_option maxRecDepth 20000 in
theorem ml_fe_423 : Cond.methodLink RX11 423 yX4_join ∈ lw_tbl := List.mem_append_right _ (List.mem_append_right _ (List.mem_append_right _ (List.mem_append_right _ (List.mem_append_left _ (List.mem_of_getElem? (i := 40) rfl)))))
set_option maxRecDepth 20000 in
theorem ml_fe_433 : Cond.methodLink RX11 433 yX11_areLike ∈ lw_tbl := List.mem_append_right _ (List.mem_append_right _ (List.mem_append_right _ (List.mem_append_right _ (List.mem_append_left _ (List.mem_of_getElem? (i := 44) rfl)))))
set_option maxRecDepth 20000 in
theorem ml_fe_440 : Cond.methodLink RX11 440 yX11_rowsLike ∈ lw_tbl := List.mem_append_right _ (List.mem_append_right _ (List.mem_append_right _ (List.mem_append_right _ (List.mem_append_left _ (List.mem_of_getElem? (i := 48) rfl)))))
set_option maxRecDepth 20000 in
theorem ml_la_137 : Cond.methodLink RL 137 yX11_watch ∈ lw_tbl := List.mem_append_right _ (List.mem_append_right _ (List.mem_append_right _ (List.mem_append_right _ (List.mem_append_left _ (List.mem_of_getElem? (i := 52) rfl)))))
set_option maxRecDepth 20000 in
theorem ml_fe_444 : Cond.methodLink RX11 444 yX10_init ∈ lw_tbl := List.mem_append_right _ (List.mem_append_right _ (List.mem_append_right _ (List.mem_append_right _ (List.mem_append_left _ (List.mem_of_getElem? (i := 57) rfl)))))
set_option maxRecDepth 20000 in
theorem ml_wa_3 : Cond.methodLink RX10 3 objectInit ∈ lw_tbl := List.mem_append_right _ (List.mem_append_right _ (List.mem_append_right _ (List.mem_append_right _ (List.mem_append_left _ (List.mem_of_getElem? (i := 60) rfl)))))
set_option maxRecDepth 20000 in
theorem ml_la_142 : Cond.methodLink RL 142 yX11_note ∈ lw_tbl := List.mem_append_right _ (List.mem_append_right _ (List.mem_append_right _ (List.mem_append_right _ (List.mem_append_left _ (List.mem_of_getElem? (i := 94) rfl)))))
set_option maxRecDepth 20000 in
theorem ml_la_146 : Cond.methodLink RL 146 yX11_lacks ∈ lw_tbl := List.mem_append_right _ (List.mem_append_right _ (List.mem_append_right _ (List.mem_append_right _ (List.mem_append_left _ (List.mem_of_getElem? (i := 98) rfl)))))
set_option maxRecDepth 20000 in
theorem ml_la_150 : Cond.methodLink RL 150 yX11_count ∈ lw_tbl := List.mem_append_right _ (List.mem_append_right _ (List.mem_append_right _ (List.mem_append_right _ (List.mem_append_left _ (List.mem_of_getElem? (i := 102) rfl)))))
set_option maxRecDepth 20000 in
theorem ml_la_154 : Cond.methodLink RL 154 yX11_digest ∈ lw_tbl := List.mem_append_right _ (List.mem_append_right _ (List.mem_append_right _ (List.mem_append_right _ (List.mem_append_left _ (List.mem_of_getElem? (i := 106) rfl)))))
set_option maxRecDepth 20000 in
theorem ml_fe_457 : Cond.methodLink RX11 457 yX11_digestOf ∈ lw_tbl := List.mem_append_right _ (List.mem_append_right _ (List.mem_append_right _ (List.mem_append_right _ (List.mem_append_left _ (List.mem_of_getElem? (i := 111) rfl)))))
set_option maxRecDepth 20000 in
theorem ml_la_12 : Cond.methodLink RL 12 yX12_init ∈ lw_tbl := List.mem_append_right _ (List.mem_append_right _ (List.mem_append_right _ (List.mem_append_right _ (List.mem_append_left _ (List.mem_of_getElem? (i := 118) rfl)))))
set_option maxRecDepth 20000 in
theorem ml_md_1 : Cond.methodLink RX12 1 objectInit ∈ lw_tbl := List.mem_append_right _ (List.mem_append_right _ (List.mem_append_right _ (List.mem_append_right _ (List.mem_append_left _ (List.mem_of_getElem? (i := 121) rfl)))))
set_option maxRecDepth 20000 in
theorem ml_la_17 : Cond.methodLink RL 17 yX12_shape ∈ lw_tbl := List.mem_append_right _ (List.mem_append_right _ (List.mem_append_right _ (List.mem_append_right _ (List.mem_append_right _ (List.mem_append_left _ (List.mem_of_getElem? (i := 22) rfl))))))
set_option maxRecDepth 20000 in
theorem ml_md_118 : Cond.methodLink RX12 118 yX12_isShape ∈ lw_tbl := List.mem_append_right _ (List.mem_append_right _ (List.mem_append_right _ (List.mem_append_right _ (List.mem_append_right _ (List.mem_append_left _ (List.mem_of_getElem? (i := 26) rfl))))))
set_option maxRecDepth 20000 in
theorem ml_md_114 : Cond.methodLink RX12 114 yX12_in ∈ lw_tbl := List.mem_append_right _ (List.mem_append_right _ (List.mem_append_right _ (List.mem_append_right _ (List.mem_append_right _ (List.mem_append_left _ (List.mem_of_getElem? (i := 30) rfl))))))
set_option maxRecDepth 20000 in
theorem ml_la_22 : Cond.methodLink RL 22 yX12_number ∈ lw_tbl := List.mem_append_right _ (List.mem_append_right _ (List.mem_append_right _ (List.mem_append_right _ (List.mem_append_right _ (List.mem_append_left _ (List.mem_of_getElem? (i := 33) rfl))))))
set_option maxRecDepth 20000 in
theorem ml_md_130 : Cond.methodLink RX12 130 yX12_flag ∈ lw_tbl := List.mem_append_right _ (List.mem_append_right _ (List.mem_append_right _ (List.mem_append_right _ (List.mem_append_right _ (List.mem_append_left _ (List.mem_of_getElem? (i := 38) rfl))))))
set_option maxRecDepth 20000 in
theorem ml_md_134 : Cond.methodLink RX12 134 yX12_adds ∈ lw_tbl := List.mem_append_right _ (List.mem_append_right _ (List.mem_append_right _ (List.mem_append_right _ (List.mem_append_right _ (List.mem_append_left _ (List.mem_of_getElem? (i := 41) rfl))))))
set_option maxRecDepth 20000 in
theorem ml_md_125 : Cond.methodLink RX12 125 yX12_against ∈ lw_tbl := List.mem_append_right _ (List.mem_append_right _ (List.mem_append_right _ (List.mem_append_right _ (List.mem_append_right _ (List.mem_append_left _ (List.mem_of_getElem? (i := 45) rfl))))))
set_option maxRecDepth 20000 in
theorem ml_la_27 : Cond.methodLink RL 27 yX12_link ∈ lw_tbl := List.mem_append_right _ (List.mem_append_right _ (List.mem_append_right _ (List.mem_append_right _ (List.mem_append_right _ (List.mem_append_left _ (List.mem_of_getElem? (i := 49) rfl))))))
set_option maxRecDepth 20000 in
theorem ml_la_32 : Cond.methodLink RL 32 yX12_derived ∈ lw_tbl := List.mem_append_right _ (List.mem_append_right _ (List.mem_append_right _ (List.mem_append_right _ (List.mem_append_right _ (List.mem_append_left _ (List.mem_of_getElem? (i := 53) rfl))))))
set_option maxRecDepth 20000 in
theorem ml_md_145 : Cond.methodLink RX12 145 yX12_mayFollow ∈ lw_tbl := List.mem_append_right _ (List.mem_append_right _ (List.mem_append_right _ (List.mem_append_right _ (List.mem_append_right _ (List.mem_append_left _ (List.mem_of_getElem? (i := 57) rfl))))))
set_option maxRecDepth 20000 in
theorem ml_md_138 : Cond.methodLink RX12 138 yX12_isNumeric ∈ lw_tbl := List.mem_append_right _ (List.mem_append_right _ (List.mem_append_right _ (List.mem_append_right _ (List.mem_append_right _ (List.mem_append_left _ (List.mem_of_getElem? (i := 61) rfl))))))
set_option maxRecDepth 20000 in
theorem ml_md_142 : Cond.methodLink RX12 142 yX12_isKind ∈ lw_tbl := List.mem_append_right _ (List.mem_append_right _ (List.mem_append_right _ (List.mem_append_right _ (List.mem_append_right _ (List.mem_append_left _ (List.mem_of_getElem? (i := 65) rfl))))))
set_option maxRecDepth 20000 in
theorem ml_la_37 : Cond.methodLink RL 37 yX12_told ∈ lw_tbl := List.mem_append_right _ (List.mem_append_right _ (List.mem_append_right _ (List.mem_append_right _ (List.mem_append_right _ (List.mem_append_left _ (List.mem_of_getElem? (i := 69) rfl))))))
set_option maxRecDepth 20000 in
theorem ml_la_41 : Cond.methodLink RL 41 yX12_object ∈ lw_tbl := List.mem_append_right _ (List.mem_append_right _ (List.mem_append_right _ (List.mem_append_right _ (List.mem_append_right _ (List.mem_append_left _ (List.mem_of_getElem? (i := 73) rfl))))))
set_option maxRecDepth 20000 in
theorem ml_md_159 : Cond.methodLink RX12 159 yX12_makes ∈ lw_tbl := List.mem_append_right _ (List.mem_append_right _ (List.mem_append_right _ (List.mem_append_right _ (List.mem_append_right _ (List.mem_append_left _ (List.mem_of_getElem? (i := 77) rfl))))))
set_option maxRecDepth 20000 in
theorem ml_md_152 : Cond.methodLink RX12 152 yX12_at ∈ lw_tbl := List.mem_append_right _ (List.mem_append_right _ (List.mem_append_right _ (List.mem_append_right _ (List.mem_append_right _ (List.mem_append_left _ (List.mem_of_getElem? (i := 81) rfl))))))
set_option maxRecDepth 20000 in
theorem ml_md_156 : Cond.methodLink RX12 156 yX12_by ∈ lw_tbl := List.mem_append_right _ (List.mem_append_right _ (List.mem_append_right _ (List.mem_append_right _ (List.mem_append_right _ (List.mem_append_left _ (List.mem_of_getElem? (i := 85) rfl))))))
set_option maxRecDepth 20000 in
theorem ml_la_46 : Cond.methodLink RL 46 yX12_get ∈ lw_tbl := List.mem_append_right _ (List.mem_append_right _ (List.mem_append_right _ (List.mem_append_right _ (List.mem_append_right _ (List.mem_append_left _ (List.mem_of_getElem? (i := 89) rfl))))))
set_option maxRecDepth 20000 in
theorem ml_md_169 : Cond.methodLink RX12 169 yX12_hasField ∈ lw_tbl := List.mem_append_right _ (List.mem_append_right _ (List.mem_append_right _ (List.mem_append_right _ (List.mem_append_right _ (List.mem_append_left _ (List.mem_of_getElem? (i := 93) rfl))))))
set_option maxRecDepth 20000 in
theorem ml_md_149 : Cond.methodLink RX12 149 yX12_isObject ∈ lw_tbl := List.mem_append_right _ (List.mem_append_right _ (List.mem_append_right _ (List.mem_append_right _ (List.mem_append_right _ (List.mem_append_left _ (List.mem_of_getElem? (i := 97) rfl))))))
set_option maxRecDepth 20000 in
theorem ml_md_172 : Cond.methodLink RX12 172 yX12_valueOf ∈ lw_tbl := List.mem_append_right _ (List.mem_append_right _ (List.mem_append_right _ (List.mem_append_right _ (List.mem_append_right _ (List.mem_append_left _ (List.mem_of_getElem? (i := 101) rfl))))))
set_option maxRecDepth 20000 in
theorem ml_md_166 : Cond.methodLink RX12 166 yX12_followed ∈ lw_tbl := List.mem_append_right _ (List.mem_append_right _ (List.mem_append_right _ (List.mem_append_right _ (List.mem_append_right _ (List.mem_append_left _ (List.mem_of_getElem? (i := 105) rfl))))))
set_option maxRecDepth 20000 in
theorem ml_md_162 : Cond.methodLink RX12 162 yX12_total ∈ lw_tbl := List.mem_append_right _ (List.mem_append_right _ (List.mem_append_right _ (List.mem_append_right _ (List.mem_append_right _ (List.mem_append_left _ (List.mem_of_getElem? (i := 109) rfl))))))
set_option maxRecDepth 20000 in
theorem ml_la_50 : Cond.methodLink RL 50 yX12_element ∈ lw_tbl := List.mem_append_right _ (List.mem_append_right _ (List.mem_append_right _ (List.mem_append_right _ (List.mem_append_right _ (List.mem_append_left _ (List.mem_of_getElem? (i := 113) rfl))))))
set_option maxRecDepth 20000 in
theorem ml_la_54 : Cond.methodLink RL 54 yX12_shapeOf ∈ lw_tbl := List.mem_append_right _ (List.mem_append_right _ (List.mem_append_right _ (List.mem_append_right _ (List.mem_append_right _ (List.mem_append_left _ (List.mem_of_getElem? (i := 117) rfl))))))
set_option maxRecDepth 20000 in
theorem ml_la_58 : Cond.methodLink RL 58 yX12_holders ∈ lw_tbl := List.mem_append_right _ (List.mem_append_right _ (List.mem_append_right _ (List.mem_append_right _ (List.mem_append_right _ (List.mem_append_left _ (List.mem_of_getElem? (i := 121) rfl))))))
set_option maxRecDepth 20000 in
theorem ml_la_62 : Cond.methodLink RL 62 yX12_holds ∈ lw_tbl := List.mem_append_right _ (List.mem_append_right _ (List.mem_append_right _ (List.mem_append_right _ (List.mem_append_right _ (List.mem_append_left _ (List.mem_of_getElem? (i := 125) rfl))))))
set_option maxRecDepth 20000 in
theorem ml_md_185 : Cond.methodLink RX12 185 yX12_isHeld ∈ lw_tbl := List.mem_append_right _ (List.mem_append_right _ (List.mem_append_right _ (List.mem_append_right _ (List.mem_append_right _ (List.mem_append_left _ (List.mem_of_getElem? (i := 129) rfl))))))
set_option maxRecDepth 20000 in
theorem ml_md_182 : Cond.methodLink RX12 182 yX12_comesHeld ∈ lw_tbl := List.mem_append_right _ (List.mem_append_right _ (List.mem_append_right _ (List.mem_append_right _ (List.mem_append_right _ (List.mem_append_left _ (List.mem_of_getElem? (i := 133) rfl))))))
set_option maxRecDepth 20000 in
theorem ml_md_178 : Cond.methodLink RX12 178 yX12_comes ∈ lw_tbl := List.mem_append_right _ (List.mem_append_right _ (List.mem_append_right _ (List.mem_append_right _ (List.mem_append_right _ (List.mem_append_left _ (List.mem_of_getElem? (i := 137) rfl))))))
set_option maxRecDepth 20000 in
theorem ml_la_66 : Cond.methodLink RL 66 yX12_set ∈ lw_tbl := List.mem_append_right _ (List.mem_append_right _ (List.mem_append_right _ (List.mem_append_right _ (List.mem_append_right _ (List.mem_append_left _ (List.mem_of_getElem? (i := 141) rfl))))))
set_option maxRecDepth 20000 in
theorem ml_md_221 : Cond.methodLink RX12 221 yX12_isReadOnly ∈ lw_tbl := List.mem_append_right _ (List.mem_append_right _ (List.mem_append_right _ (List.mem_append_right _ (List.mem_append_right _ (List.mem_append_left _ (List.mem_of_getElem? (i := 145) rfl))))))
set_option maxRecDepth 20000 in
theorem ml_md_225 : Cond.methodLink RX12 225 yX12_isVetoed ∈ lw_tbl := List.mem_append_right _ (List.mem_append_right _ (List.mem_append_right _ (List.mem_append_right _ (List.mem_append_right _ (List.mem_append_left _ (List.mem_of_getElem? (i := 149) rfl))))))
set_option maxRecDepth 20000 in
theorem ml_md_191 : Cond.methodLink RX12 191 yX12_isOf ∈ lw_tbl := List.mem_append_right _ (List.mem_append_right _ (List.mem_append_right _ (List.mem_append_right _ (List.mem_append_right _ (List.mem_append_left _ (List.mem_of_getElem? (i := 153) rfl))))))
set_option maxRecDepth 20000 in
theorem ml_md_228 : Cond.methodLink RX12 228 yX12_begins ∈ lw_tbl := List.mem_append_right _ (List.mem_append_right _ (List.mem_append_right _ (List.mem_append_right _ (List.mem_append_right _ (List.mem_append_left _ (List.mem_of_getElem? (i := 157) rfl))))))
set_option maxRecDepth 20000 in
theorem ml_md_200 : Cond.methodLink RX12 200 yX12_doneEnd ∈ lw_tbl := List.mem_append_right _ (List.mem_append_right _ (List.mem_append_right _ (List.mem_append_right _ (List.mem_append_right _ (List.mem_append_left _ (List.mem_of_getElem? (i := 161) rfl))))))
set_option maxRecDepth 20000 in
theorem ml_md_207 : Cond.methodLink RX12 207 yX12_keeps ∈ lw_tbl := List.mem_append_right _ (List.mem_append_right _ (List.mem_append_right _ (List.mem_append_right _ (List.mem_append_right _ (List.mem_append_left _ (List.mem_of_getElem? (i := 165) rfl))))))
set_option maxRecDepth 20000 in
theorem ml_md_232 : Cond.methodLink RX12 232 yX12_ends ∈ lw_tbl := List.mem_append_right _ (List.mem_append_right _ (List.mem_append_right _ (List.mem_append_right _ (List.mem_append_right _ (List.mem_append_left _ (List.mem_of_getElem? (i := 169) rfl))))))
set_option maxRecDepth 20000 in
theorem ml_md_211 : Cond.methodLink RX12 211 yX12_notes ∈ lw_tbl := List.mem_append_right _ (List.mem_append_right _ (List.mem_append_right _ (List.mem_append_right _ (List.mem_append_right _ (List.mem_append_left _ (List.mem_of_getElem? (i := 173) rfl))))))
set_option maxRecDepth 20000 in
theorem ml_md_218 : Cond.methodLink RX12 218 yX12_enters ∈ lw_tbl := List.mem_append_right _ (List.mem_append_right _ (List.mem_append_right _ (List.mem_append_right _ (List.mem_append_right _ (List.mem_append_left _ (List.mem_of_getElem? (i := 177) rfl))))))
set_option maxRecDepth 20000 in
theorem ml_la_70 : Cond.methodLink RL 70 yX12_lead ∈ lw_tbl := List.mem_append_right _ (List.mem_append_right _ (List.mem_append_right _ (List.mem_append_right _ (List.mem_append_right _ (List.mem_append_left _ (List.mem_of_getElem? (i := 181) rfl))))))
set_option maxRecDepth 20000 in
theorem ml_md_235 : Cond.methodLink RX12 235 yX12_wouldLoop ∈ lw_tbl := List.mem_append_right _ (List.mem_append_right _ (List.mem_append_right _ (List.mem_append_right _ (List.mem_append_right _ (List.mem_append_left _ (List.mem_of_getElem? (i := 185) rfl))))))
set_option maxRecDepth 20000 in
theorem ml_la_74 : Cond.methodLink RL 74 yX12_unset ∈ lw_tbl := List.mem_append_right _ (List.mem_append_right _ (List.mem_append_right _ (List.mem_append_right _ (List.mem_append_right _ (List.mem_append_left _ (List.mem_of_getElem? (i := 189) rfl))))))
set_option maxRecDepth 20000 in
theorem ml_la_78 : Cond.methodLink RL 78 yX12_insert ∈ lw_tbl := List.mem_append_right _ (List.mem_append_right _ (List.mem_append_right _ (List.mem_append_right _ (List.mem_append_right _ (List.mem_append_left _ (List.mem_of_getElem? (i := 193) rfl))))))
set_option maxRecDepth 20000 in
theorem ml_la_82 : Cond.methodLink RL 82 yX12_remove ∈ lw_tbl := List.mem_append_right _ (List.mem_append_right _ (List.mem_append_right _ (List.mem_append_right _ (List.mem_append_right _ (List.mem_append_left _ (List.mem_of_getElem? (i := 197) rfl))))))
set_option maxRecDepth 20000 in
theorem ml_la_87 : Cond.methodLink RL 87 yX12_sort ∈ lw_tbl := List.mem_append_right _ (List.mem_append_right _ (List.mem_append_right _ (List.mem_append_right _ (List.mem_append_right _ (List.mem_append_left _ (List.mem_of_getElem? (i := 201) rfl))))))
set_option maxRecDepth 20000 in
theorem ml_md_238 : Cond.methodLink RX12 238 yX12_weightOf ∈ lw_tbl := List.mem_append_right _ (List.mem_append_right _ (List.mem_append_right _ (List.mem_append_right _ (List.mem_append_right _ (List.mem_append_left _ (List.mem_of_getElem? (i := 205) rfl))))))
set_option maxRecDepth 20000 in
theorem ml_md_241 : Cond.methodLink RX12 241 yX12_isAhead ∈ lw_tbl := List.mem_append_right _ (List.mem_append_right _ (List.mem_append_right _ (List.mem_append_right _ (List.mem_append_right _ (List.mem_append_left _ (List.mem_of_getElem? (i := 209) rfl))))))
set_option maxRecDepth 20000 in
theorem ml_la_92 : Cond.methodLink RL 92 yX12_begin ∈ lw_tbl := List.mem_append_right _ (List.mem_append_right _ (List.mem_append_right _ (List.mem_append_right _ (List.mem_append_right _ (List.mem_append_left _ (List.mem_of_getElem? (i := 212) rfl))))))
set_option maxRecDepth 20000 in
theorem ml_la_96 : Cond.methodLink RL 96 yX12_commit ∈ lw_tbl := List.mem_append_right _ (List.mem_append_right _ (List.mem_append_right _ (List.mem_append_right _ (List.mem_append_right _ (List.mem_append_left _ (List.mem_of_getElem? (i := 216) rfl))))))
set_option maxRecDepth 20000 in
theorem ml_md_247 : Cond.methodLink RX12 247 yX12_groupSize ∈ lw_tbl := List.mem_append_right _ (List.mem_append_right _ (List.mem_append_right _ (List.mem_append_right _ (List.mem_append_right _ (List.mem_append_left _ (List.mem_of_getElem? (i := 220) rfl))))))
set_option maxRecDepth 20000 in
theorem ml_la_100 : Cond.methodLink RL 100 yX12_abort ∈ lw_tbl := List.mem_append_right _ (List.mem_append_right _ (List.mem_append_right _ (List.mem_append_right _ (List.mem_append_right _ (List.mem_append_left _ (List.mem_of_getElem? (i := 224) rfl))))))
set_option maxRecDepth 20000 in
theorem ml_md_253 : Cond.methodLink RX12 253 yX12_goes ∈ lw_tbl := List.mem_append_right _ (List.mem_append_right _ (List.mem_append_right _ (List.mem_append_right _ (List.mem_append_right _ (List.mem_append_left _ (List.mem_of_getElem? (i := 228) rfl))))))
set_option maxRecDepth 20000 in
theorem ml_md_250 : Cond.methodLink RX12 250 yX12_puts ∈ lw_tbl := List.mem_append_right _ (List.mem_append_right _ (List.mem_append_right _ (List.mem_append_right _ (List.mem_append_right _ (List.mem_append_left _ (List.mem_of_getElem? (i := 232) rfl))))))
set_option maxRecDepth 20000 in
theorem ml_la_104 : Cond.methodLink RL 104 yX12_undo ∈ lw_tbl := List.mem_append_right _ (List.mem_append_right _ (List.mem_append_right _ (List.mem_append_right _ (List.mem_append_right _ (List.mem_append_left _ (List.mem_of_getElem? (i := 236) rfl))))))
set_option maxRecDepth 20000 in
theorem ml_la_108 : Cond.methodLink RL 108 yX12_redo ∈ lw_tbl := List.mem_append_right _ (List.mem_append_right _ (List.mem_append_right _ (List.mem_append_right _ (List.mem_append_right _ (List.mem_append_right _ (List.mem_of_getElem? (i := 0) rfl))))))
set_option maxRecDepth 20000 in
theorem ml_la_112 : Cond.methodLink RL 112 yX12_path ∈ lw_tbl := List.mem_append_right _ (List.mem_append_right _ (List.mem_append_right _ (List.mem_append_right _ (List.mem_append_right _ (List.mem_append_right _ (List.mem_of_getElem? (i := 4) rfl))))))
set_option maxRecDepth 20000 in
theorem ml_la_116 : Cond.methodLink RL 116 yX12_step ∈ lw_tbl := List.mem_append_right _ (List.mem_append_right _ (List.mem_append_right _ (List.mem_append_right _ (List.mem_append_right _ (List.mem_append_right _ (List.mem_of_getElem? (i := 8) rfl))))))
set_option maxRecDepth 20000 in
theorem ml_md_260 : Cond.methodLink RX12 260 yX12_isPath ∈ lw_tbl := List.mem_append_right _ (List.mem_append_right _ (List.mem_append_right _ (List.mem_append_right _ (List.mem_append_right _ (List.mem_append_right _ (List.mem_of_getElem? (i := 12) rfl))))))
set_option maxRecDepth 20000 in
theorem ml_la_120 : Cond.methodLink RL 120 yX12_fault ∈ lw_tbl := List.mem_append_right _ (List.mem_append_right _ (List.mem_append_right _ (List.mem_append_right _ (List.mem_append_right _ (List.mem_append_right _ (List.mem_of_getElem? (i := 16) rfl))))))
set_option maxRecDepth 20000 in
theorem ml_la_124 : Cond.methodLink RL 124 yX12_matches ∈ lw_tbl := List.mem_append_right _ (List.mem_append_right _ (List.mem_append_right _ (List.mem_append_right _ (List.mem_append_right _ (List.mem_append_right _ (List.mem_of_getElem? (i := 20) rfl))))))
set_option maxRecDepth 20000 in
theorem ml_md_280 : Cond.methodLink RX12 280 yX12_walk ∈ lw_tbl := List.mem_append_right _ (List.mem_append_right _ (List.mem_append_right _ (List.mem_append_right _ (List.mem_append_right _ (List.mem_append_right _ (List.mem_of_getElem? (i := 24) rfl))))))
set_option maxRecDepth 20000 in
theorem ml_md_272 : Cond.methodLink RX12 272 yX12_walkField ∈ lw_tbl := List.mem_append_right _ (List.mem_append_right _ (List.mem_append_right _ (List.mem_append_right _ (List.mem_append_right _ (List.mem_append_right _ (List.mem_of_getElem? (i := 28) rfl))))))
set_option maxRecDepth 20000 in
theorem ml_md_266 : Cond.methodLink RX12 266 yX12_matched ∈ lw_tbl := List.mem_append_right _ (List.mem_append_right _ (List.mem_append_right _ (List.mem_append_right _ (List.mem_append_right _ (List.mem_append_right _ (List.mem_of_getElem? (i := 32) rfl))))))
set_option maxRecDepth 20000 in
theorem ml_md_276 : Cond.methodLink RX12 276 yX12_walkList ∈ lw_tbl := List.mem_append_right _ (List.mem_append_right _ (List.mem_append_right _ (List.mem_append_right _ (List.mem_append_right _ (List.mem_append_right _ (List.mem_of_getElem? (i := 36) rfl))))))
set_option maxRecDepth 20000 in
theorem ml_la_128 : Cond.methodLink RL 128 yX12_match ∈ lw_tbl := List.mem_append_right _ (List.mem_append_right _ (List.mem_append_right _ (List.mem_append_right _ (List.mem_append_right _ (List.mem_append_right _ (List.mem_of_getElem? (i := 40) rfl))))))
set_option maxRecDepth 20000 in
theorem ml_la_132 : Cond.methodLink RL 132 yX12_copy ∈ lw_tbl := List.mem_append_right _ (List.mem_append_right _ (List.mem_append_right _ (List.mem_append_right _ (List.mem_append_right _ (List.mem_append_right _ (List.mem_of_getElem? (i := 44) rfl))))))
set_option maxRecDepth 20000 in
theorem ml_md_283 : Cond.methodLink RX12 283 yX12_findHeld ∈ lw_tbl := List.mem_append_right _ (List.mem_append_right _ (List.mem_append_right _ (List.mem_append_right _ (List.mem_append_right _ (List.mem_append_right _ (List.mem_of_getElem? (i := 48) rfl))))))
set_option maxRecDepth 20000 in
theorem ml_md_286 : Cond.methodLink RX12 286 yX12_copied ∈ lw_tbl := List.mem_append_right _ (List.mem_append_right _ (List.mem_append_right _ (List.mem_append_right _ (List.mem_append_right _ (List.mem_append_right _ (List.mem_of_getElem? (i := 52) rfl))))))
set_option maxRecDepth 20000 in
theorem ml_la_136 : Cond.methodLink RL 136 yX12_alike ∈ lw_tbl := List.mem_append_right _ (List.mem_append_right _ (List.mem_append_right _ (List.mem_append_right _ (List.mem_append_right _ (List.mem_append_right _ (List.mem_of_getElem? (i := 56) rfl))))))
set_option maxRecDepth 20000 in
theorem ml_md_292 : Cond.methodLink RX12 292 yX12_alsoAlike ∈ lw_tbl := List.mem_append_right _ (List.mem_append_right _ (List.mem_append_right _ (List.mem_append_right _ (List.mem_append_right _ (List.mem_append_right _ (List.mem_of_getElem? (i := 60) rfl))))))
set_option maxRecDepth 20000 in
theorem ml_md_295 : Cond.methodLink RX12 295 yX12_areLike ∈ lw_tbl := List.mem_append_right _ (List.mem_append_right _ (List.mem_append_right _ (List.mem_append_right _ (List.mem_append_right _ (List.mem_append_right _ (List.mem_of_getElem? (i := 64) rfl))))))
set_option maxRecDepth 20000 in
theorem ml_la_141 : Cond.methodLink RL 141 yX12_watch ∈ lw_tbl := List.mem_append_right _ (List.mem_append_right _ (List.mem_append_right _ (List.mem_append_right _ (List.mem_append_right _ (List.mem_append_right _ (List.mem_of_getElem? (i := 68) rfl))))))
set_option maxRecDepth 20000 in
theorem ml_la_145 : Cond.methodLink RL 145 yX12_note ∈ lw_tbl := List.mem_append_right _ (List.mem_append_right _ (List.mem_append_right _ (List.mem_append_right _ (List.mem_append_right _ (List.mem_append_right _ (List.mem_of_getElem? (i := 72) rfl))))))
set_option maxRecDepth 20000 in
theorem ml_la_149 : Cond.methodLink RL 149 yX12_lacks ∈ lw_tbl := List.mem_append_right _ (List.mem_append_right _ (List.mem_append_right _ (List.mem_append_right _ (List.mem_append_right _ (List.mem_append_right _ (List.mem_of_getElem? (i := 76) rfl))))))
set_option maxRecDepth 20000 in
theorem ml_la_153 : Cond.methodLink RL 153 yX12_count ∈ lw_tbl := List.mem_append_right _ (List.mem_append_right _ (List.mem_append_right _ (List.mem_append_right _ (List.mem_append_right _ (List.mem_append_right _ (List.mem_of_getElem? (i := 80) rfl))))))
set_option maxRecDepth 20000 in
theorem ml_la_158 : Cond.methodLink RL 158 yX12_digest ∈ lw_tbl := List.mem_append_right _ (List.mem_append_right _ (List.mem_append_right _ (List.mem_append_right _ (List.mem_append_right _ (List.mem_append_right _ (List.mem_of_getElem? (i := 84) rfl))))))
set_option maxRecDepth 20000 in
theorem ml_md_302 : Cond.methodLink RX12 302 yX12_count ∈ lw_tbl := List.mem_append_right _ (List.mem_append_right _ (List.mem_append_right _ (List.mem_append_right _ (List.mem_append_right _ (List.mem_append_right _ (List.mem_of_getElem? (i := 90) rfl))))))
set_option maxRecDepth 20000 in
theorem ml_fe_35 : Cond.methodLinkNest RX11 35 yX3_init "FieldEditor" ∈ lw_tbl := List.mem_append_right _ (List.mem_append_left _ (List.mem_of_getElem? (i := 41) rfl))
set_option maxRecDepth 20000 in
theorem ml_fe_42 : Cond.methodLinkNest RX11 42 yX6_init "FieldEditor" ∈ lw_tbl := List.mem_append_right _ (List.mem_append_left _ (List.mem_of_getElem? (i := 86) rfl))
set_option maxRecDepth 20000 in
theorem ml_fe_49 : Cond.methodLinkNest RX11 49 yX4_init "FieldEditor" ∈ lw_tbl := List.mem_append_right _ (List.mem_append_left _ (List.mem_of_getElem? (i := 106) rfl))
set_option maxRecDepth 20000 in
theorem ml_fe_56 : Cond.methodLinkNest RX11 56 yX8_init "FieldEditor" ∈ lw_tbl := List.mem_append_right _ (List.mem_append_left _ (List.mem_of_getElem? (i := 128) rfl))
set_option maxRecDepth 20000 in
theorem ml_hi_41 : Cond.methodLinkNest RX3 41 yX2_init "FieldEditor" ∈ lw_tbl := List.mem_append_right _ (List.mem_append_right _ (List.mem_append_right _ (List.mem_append_left _ (List.mem_of_getElem? (i := 47) rfl))))
set_option maxRecDepth 20000 in
theorem ml_fe_261 : Cond.methodLinkNest RX11 261 yX2_init "FieldEditor" ∈ lw_tbl := List.mem_append_right _ (List.mem_append_right _ (List.mem_append_right _ (List.mem_append_left _ (List.mem_of_getElem? (i := 143) rfl))))
set_option maxRecDepth 20000 in
theorem ml_fe_371 : Cond.methodLinkNest RX11 371 yX5_init "FieldEditor" ∈ lw_tbl := List.mem_append_right _ (List.mem_append_right _ (List.mem_append_right _ (List.mem_append_left _ (List.mem_of_getElem? (i := 189) rfl))))
set_option maxRecDepth 20000 in
theorem kl_la_7 : Cond.classLink RL 7 "FieldEditor" ∈ lw_tbl := List.mem_append_right _ (List.mem_append_left _ (List.mem_of_getElem? (i := 23) rfl))
set_option maxRecDepth 20000 in
theorem kl_fe_9 : Cond.classLink RX11 9 "FieldEditor$Shape" ∈ lw_tbl := List.mem_append_right _ (List.mem_append_left _ (List.mem_of_getElem? (i := 31) rfl))
set_option maxRecDepth 20000 in
theorem kl_fe_15 : Cond.classLink RX11 15 "FieldEditor$Thing" ∈ lw_tbl := List.mem_append_right _ (List.mem_append_left _ (List.mem_of_getElem? (i := 33) rfl))
set_option maxRecDepth 20000 in
theorem kl_fe_21 : Cond.classLink RX11 21 "FieldEditor$Path" ∈ lw_tbl := List.mem_append_right _ (List.mem_append_left _ (List.mem_of_getElem? (i := 35) rfl))
set_option maxRecDepth 20000 in
theorem kl_fe_27 : Cond.classLink RX11 27 "FieldEditor$Watch" ∈ lw_tbl := List.mem_append_right _ (List.mem_append_left _ (List.mem_of_getElem? (i := 37) rfl))
set_option maxRecDepth 20000 in
theorem kl_fe_33 : Cond.classLink RX11 33 "FieldEditor$History" ∈ lw_tbl := List.mem_append_right _ (List.mem_append_left _ (List.mem_of_getElem? (i := 39) rfl))
set_option maxRecDepth 20000 in
theorem kl_hi_9 : Cond.classLink RX3 9 "java/util/ArrayList" ∈ lw_tbl := List.mem_append_right _ (List.mem_append_left _ (List.mem_of_getElem? (i := 45) rfl))
set_option maxRecDepth 20000 in
theorem kl_fe_40 : Cond.classLink RX11 40 "FieldEditor$Reach" ∈ lw_tbl := List.mem_append_right _ (List.mem_append_left _ (List.mem_of_getElem? (i := 84) rfl))
set_option maxRecDepth 20000 in
theorem kl_fe_47 : Cond.classLink RX11 47 "FieldEditor$Pairs" ∈ lw_tbl := List.mem_append_right _ (List.mem_append_left _ (List.mem_of_getElem? (i := 104) rfl))
set_option maxRecDepth 20000 in
theorem kl_fe_54 : Cond.classLink RX11 54 "FieldEditor$Spots" ∈ lw_tbl := List.mem_append_right _ (List.mem_append_left _ (List.mem_of_getElem? (i := 126) rfl))
set_option maxRecDepth 20000 in
theorem kl_sh_15 : Cond.classLink RX7 15 "FieldEditor$Field" ∈ lw_tbl := List.mem_append_right _ (List.mem_append_left _ (List.mem_of_getElem? (i := 201) rfl))
set_option maxRecDepth 20000 in
theorem kl_fe_88 : Cond.classLink RX11 88 "FieldEditor$Field" ∈ lw_tbl := List.mem_append_right _ (List.mem_append_left _ (List.mem_of_getElem? (i := 232) rfl))
set_option maxRecDepth 20000 in
theorem kl_th_13 : Cond.classLink RX9 13 "[I" ∈ lw_tbl := List.mem_append_right _ (List.mem_append_right _ (List.mem_append_left _ (List.mem_of_getElem? (i := 59) rfl)))
set_option maxRecDepth 20000 in
theorem kl_fe_336 : Cond.classLink RX11 336 "FieldEditor$Edit" ∈ lw_tbl := List.mem_append_right _ (List.mem_append_right _ (List.mem_append_left _ (List.mem_of_getElem? (i := 195) rfl)))
set_option maxRecDepth 20000 in
theorem kl_ar_110 : Cond.classLink RJ7 110 "[Ljava/lang/Object;" ∈ lw_tbl := List.mem_append_right _ (List.mem_append_right _ (List.mem_append_right _ (List.mem_append_left _ (List.mem_of_getElem? (i := 34) rfl))))
set_option maxRecDepth 20000 in
theorem kl_ar_2 : Cond.classLink RJ7 2 "java/lang/Object" ∈ lw_tbl := List.mem_append_right _ (List.mem_append_right _ (List.mem_append_right _ (List.mem_append_left _ (List.mem_of_getElem? (i := 36) rfl))))
set_option maxRecDepth 20000 in
theorem kl_al_7 : Cond.classLink RJx4a65c 7 "java/lang/Object" ∈ lw_tbl := List.mem_append_right _ (List.mem_append_right _ (List.mem_append_right _ (List.mem_append_left _ (List.mem_of_getElem? (i := 44) rfl))))
set_option maxRecDepth 20000 in
theorem kl_hi_26 : Cond.classLink RX3 26 "FieldEditor$Group" ∈ lw_tbl := List.mem_append_right _ (List.mem_append_right _ (List.mem_append_right _ (List.mem_append_left _ (List.mem_of_getElem? (i := 45) rfl))))
set_option maxRecDepth 20000 in
theorem kl_gr_7 : Cond.classLink RX2 7 "java/util/ArrayList" ∈ lw_tbl := List.mem_append_right _ (List.mem_append_right _ (List.mem_append_right _ (List.mem_append_left _ (List.mem_of_getElem? (i := 51) rfl))))
set_option maxRecDepth 20000 in
theorem kl_fe_318 : Cond.classLink RX11 318 "[I" ∈ lw_tbl := List.mem_append_right _ (List.mem_append_right _ (List.mem_append_right _ (List.mem_append_left _ (List.mem_of_getElem? (i := 127) rfl))))
set_option maxRecDepth 20000 in
theorem kl_fe_259 : Cond.classLink RX11 259 "FieldEditor$Group" ∈ lw_tbl := List.mem_append_right _ (List.mem_append_right _ (List.mem_append_right _ (List.mem_append_left _ (List.mem_of_getElem? (i := 142) rfl))))
set_option maxRecDepth 20000 in
theorem kl_la_10 : Cond.classLink RL 10 "FieldEditorModel" ∈ lw_tbl := List.mem_append_right _ (List.mem_append_right _ (List.mem_append_right _ (List.mem_append_right _ (List.mem_append_left _ (List.mem_of_getElem? (i := 116) rfl)))))
set_option maxRecDepth 20000 in
theorem wm_fe : Cond.instantiable RX11 14 ∈ lw_tbl := List.mem_append_right _ (List.mem_append_left _ (List.mem_of_getElem? (i := 24) rfl))
set_option maxRecDepth 20000 in
theorem wm_hi : Cond.instantiable RX3 3 ∈ lw_tbl := List.mem_append_right _ (List.mem_append_left _ (List.mem_of_getElem? (i := 40) rfl))
set_option maxRecDepth 20000 in
theorem wm_al : Cond.instantiable RJx4a65c 3 ∈ lw_tbl := List.mem_append_right _ (List.mem_append_left _ (List.mem_of_getElem? (i := 46) rfl))
set_option maxRecDepth 20000 in
theorem wm_re : Cond.instantiable RX6 3 ∈ lw_tbl := List.mem_append_right _ (List.mem_append_left _ (List.mem_of_getElem? (i := 85) rfl))
set_option maxRecDepth 20000 in
theorem wm_pa : Cond.instantiable RX4 4 ∈ lw_tbl := List.mem_append_right _ (List.mem_append_left _ (List.mem_of_getElem? (i := 105) rfl))
set_option maxRecDepth 20000 in
theorem wm_so : Cond.instantiable RX8 3 ∈ lw_tbl := List.mem_append_right _ (List.mem_append_left _ (List.mem_of_getElem? (i := 127) rfl))
set_option maxRecDepth 20000 in
theorem wm_sh : Cond.instantiable RX7 4 ∈ lw_tbl := List.mem_append_right _ (List.mem_append_left _ (List.mem_of_getElem? (i := 196) rfl))
set_option maxRecDepth 20000 in
theorem wm_fd : Cond.instantiable RX1 5 ∈ lw_tbl := List.mem_append_right _ (List.mem_append_left _ (List.mem_of_getElem? (i := 233) rfl))
set_option maxRecDepth 20000 in
theorem wm_th : Cond.instantiable RX9 2 ∈ lw_tbl := List.mem_append_right _ (List.mem_append_right _ (List.mem_append_left _ (List.mem_of_getElem? (i := 54) rfl)))
set_option maxRecDepth 20000 in
theorem wm_ed : Cond.instantiable RX0 4 ∈ lw_tbl := List.mem_append_right _ (List.mem_append_right _ (List.mem_append_left _ (List.mem_of_getElem? (i := 196) rfl)))
set_option maxRecDepth 20000 in
theorem wm_gr : Cond.instantiable RX2 1 ∈ lw_tbl := List.mem_append_right _ (List.mem_append_right _ (List.mem_append_right _ (List.mem_append_left _ (List.mem_of_getElem? (i := 46) rfl))))
set_option maxRecDepth 20000 in
theorem wm_pt : Cond.instantiable RX5 3 ∈ lw_tbl := List.mem_append_right _ (List.mem_append_right _ (List.mem_append_right _ (List.mem_append_left _ (List.mem_of_getElem? (i := 188) rfl))))
set_option maxRecDepth 20000 in
theorem wm_wa : Cond.instantiable RX10 8 ∈ lw_tbl := List.mem_append_right _ (List.mem_append_right _ (List.mem_append_right _ (List.mem_append_right _ (List.mem_append_left _ (List.mem_of_getElem? (i := 56) rfl)))))
set_option maxRecDepth 20000 in
theorem wm_md : Cond.instantiable RX12 46 ∈ lw_tbl := List.mem_append_right _ (List.mem_append_right _ (List.mem_append_right _ (List.mem_append_right _ (List.mem_append_left _ (List.mem_of_getElem? (i := 117) rfl)))))
set_option maxRecDepth 20000 in
theorem wini_la : Cond.initialized RL ∈ lw_tbl := List.mem_append_right _ (List.mem_append_left _ (List.mem_of_getElem? (i := 0) rfl))
set_option maxRecDepth 20000 in
theorem wini_fe : Cond.initialized RX11 ∈ lw_tbl := List.mem_append_right _ (List.mem_append_left _ (List.mem_of_getElem? (i := 1) rfl))
set_option maxRecDepth 20000 in
theorem wini_hi : Cond.initialized RX3 ∈ lw_tbl := List.mem_append_right _ (List.mem_append_left _ (List.mem_of_getElem? (i := 2) rfl))
set_option maxRecDepth 20000 in
theorem wini_ac : Cond.initialized RJxa1e45 ∈ lw_tbl := List.mem_append_right _ (List.mem_append_left _ (List.mem_of_getElem? (i := 3) rfl))
set_option maxRecDepth 20000 in
theorem wini_ab : Cond.initialized RJxc12de ∈ lw_tbl := List.mem_append_right _ (List.mem_append_left _ (List.mem_of_getElem? (i := 4) rfl))
set_option maxRecDepth 20000 in
theorem wini_al : Cond.initialized RJx4a65c ∈ lw_tbl := List.mem_append_right _ (List.mem_append_left _ (List.mem_of_getElem? (i := 5) rfl))
set_option maxRecDepth 20000 in
theorem wini_re : Cond.initialized RX6 ∈ lw_tbl := List.mem_append_right _ (List.mem_append_left _ (List.mem_of_getElem? (i := 6) rfl))
set_option maxRecDepth 20000 in
theorem wini_pa : Cond.initialized RX4 ∈ lw_tbl := List.mem_append_right _ (List.mem_append_left _ (List.mem_of_getElem? (i := 7) rfl))
set_option maxRecDepth 20000 in
theorem wini_so : Cond.initialized RX8 ∈ lw_tbl := List.mem_append_right _ (List.mem_append_left _ (List.mem_of_getElem? (i := 8) rfl))
set_option maxRecDepth 20000 in
theorem wini_md : Cond.initialized RX12 ∈ lw_tbl := List.mem_append_right _ (List.mem_append_left _ (List.mem_of_getElem? (i := 9) rfl))
set_option maxRecDepth 20000 in
theorem wini_sh : Cond.initialized RX7 ∈ lw_tbl := List.mem_append_right _ (List.mem_append_left _ (List.mem_of_getElem? (i := 10) rfl))
set_option maxRecDepth 20000 in
theorem wini_fd : Cond.initialized RX1 ∈ lw_tbl := List.mem_append_right _ (List.mem_append_left _ (List.mem_of_getElem? (i := 11) rfl))
set_option maxRecDepth 20000 in
theorem wini_th : Cond.initialized RX9 ∈ lw_tbl := List.mem_append_right _ (List.mem_append_left _ (List.mem_of_getElem? (i := 12) rfl))
set_option maxRecDepth 20000 in
theorem wini_mt : Cond.initialized RJ9 ∈ lw_tbl := List.mem_append_right _ (List.mem_append_left _ (List.mem_of_getElem? (i := 13) rfl))
set_option maxRecDepth 20000 in
theorem wini_ed : Cond.initialized RX0 ∈ lw_tbl := List.mem_append_right _ (List.mem_append_left _ (List.mem_of_getElem? (i := 14) rfl))
set_option maxRecDepth 20000 in
theorem wini_as : Cond.initialized RJ8 ∈ lw_tbl := List.mem_append_right _ (List.mem_append_left _ (List.mem_of_getElem? (i := 15) rfl))
set_option maxRecDepth 20000 in
theorem wini_ar : Cond.initialized RJ7 ∈ lw_tbl := List.mem_append_right _ (List.mem_append_left _ (List.mem_of_getElem? (i := 16) rfl))
set_option maxRecDepth 20000 in
theorem wini_java_lang_System : Cond.initialized "java/lang/System" ∈ lw_tbl := List.mem_append_right _ (List.mem_append_left _ (List.mem_of_getElem? (i := 17) rfl))
set_option maxRecDepth 20000 in
theorem wini_gr : Cond.initialized RX2 ∈ lw_tbl := List.mem_append_right _ (List.mem_append_left _ (List.mem_of_getElem? (i := 18) rfl))
set_option maxRecDepth 20000 in
theorem wini_oj : Cond.initialized RJ15 ∈ lw_tbl := List.mem_append_right _ (List.mem_append_left _ (List.mem_of_getElem? (i := 19) rfl))
set_option maxRecDepth 20000 in
theorem wini_pr : Cond.initialized RJ3 ∈ lw_tbl := List.mem_append_right _ (List.mem_append_left _ (List.mem_of_getElem? (i := 20) rfl))
set_option maxRecDepth 20000 in
theorem wini_pt : Cond.initialized RX5 ∈ lw_tbl := List.mem_append_right _ (List.mem_append_left _ (List.mem_of_getElem? (i := 21) rfl))
set_option maxRecDepth 20000 in
theorem wini_wa : Cond.initialized RX10 ∈ lw_tbl := List.mem_append_right _ (List.mem_append_left _ (List.mem_of_getElem? (i := 22) rfl))
set_option maxRecDepth 20000 in
theorem kc_fe_87 : Cond.constant RX11 87 (-2147483648 : Int32) ∈ lw_tbl := List.mem_append_right _ (List.mem_append_left _ (List.mem_of_getElem? (i := 231) rfl))
set_option maxRecDepth 20000 in
theorem kc_fd_35 : Cond.constant RX1 35 (-2147483648 : Int32) ∈ lw_tbl := List.mem_append_right _ (List.mem_append_right _ (List.mem_append_left _ (List.mem_of_getElem? (i := 74) rfl)))
set_option maxRecDepth 20000 in
theorem kc_re_26 : Cond.constant RX6 26 (-2147483648 : Int32) ∈ lw_tbl := List.mem_append_right _ (List.mem_append_right _ (List.mem_append_left _ (List.mem_of_getElem? (i := 161) rfl)))
set_option maxRecDepth 20000 in
theorem kc_as_200 : Cond.constant RJ8 200 (2147483639 : Int32) ∈ lw_tbl := List.mem_append_right _ (List.mem_append_right _ (List.mem_append_right _ (List.mem_append_left _ (List.mem_of_getElem? (i := 6) rfl))))
set_option maxRecDepth 20000 in
theorem kc_md_129 : Cond.constant RX12 129 (-2147483648 : Int32) ∈ lw_tbl := List.mem_append_right _ (List.mem_append_right _ (List.mem_append_right _ (List.mem_append_right _ (List.mem_append_right _ (List.mem_append_left _ (List.mem_of_getElem? (i := 37) rfl))))))
set_option maxRecDepth 20000 in
theorem kc_fe_455 : Cond.constantLong RX11 455 (71 : Int64) ∈ lw_tbl := List.mem_append_right _ (List.mem_append_right _ (List.mem_append_right _ (List.mem_append_right _ (List.mem_append_left _ (List.mem_of_getElem? (i := 110) rfl)))))
set_option maxRecDepth 20000 in
theorem kc_fe_461 : Cond.constantLong RX11 461 (31 : Int64) ∈ lw_tbl := List.mem_append_right _ (List.mem_append_right _ (List.mem_append_right _ (List.mem_append_right _ (List.mem_append_left _ (List.mem_of_getElem? (i := 115) rfl)))))
set_option maxRecDepth 20000 in
theorem kc_md_298 : Cond.constantLong RX12 298 (71 : Int64) ∈ lw_tbl := List.mem_append_right _ (List.mem_append_right _ (List.mem_append_right _ (List.mem_append_right _ (List.mem_append_right _ (List.mem_append_right _ (List.mem_of_getElem? (i := 88) rfl))))))
set_option maxRecDepth 20000 in
theorem kc_md_300 : Cond.constantLong RX12 300 (31 : Int64) ∈ lw_tbl := List.mem_append_right _ (List.mem_append_right _ (List.mem_append_right _ (List.mem_append_right _ (List.mem_append_right _ (List.mem_append_right _ (List.mem_of_getElem? (i := 89) rfl))))))
set_option maxRecDepth 20000 in
theorem wo_arrayOver_0 : Jvm.Cond.arrayOver (Jvm.ClassFile.FieldType.object "FieldEditor$Shape") ∈ lw_tbl := List.mem_append_right _ (List.mem_append_left _ (List.mem_of_getElem? (i := 32) rfl))
set_option maxRecDepth 20000 in
theorem wo_arrayOver_1 : Jvm.Cond.arrayOver (Jvm.ClassFile.FieldType.object "FieldEditor$Thing") ∈ lw_tbl := List.mem_append_right _ (List.mem_append_left _ (List.mem_of_getElem? (i := 34) rfl))
set_option maxRecDepth 20000 in
theorem wo_arrayOver_2 : Jvm.Cond.arrayOver (Jvm.ClassFile.FieldType.object "FieldEditor$Path") ∈ lw_tbl := List.mem_append_right _ (List.mem_append_left _ (List.mem_of_getElem? (i := 36) rfl))
set_option maxRecDepth 20000 in
theorem wo_arrayOver_3 : Jvm.Cond.arrayOver (Jvm.ClassFile.FieldType.object "FieldEditor$Watch") ∈ lw_tbl := List.mem_append_right _ (List.mem_append_left _ (List.mem_of_getElem? (i := 38) rfl))
set_option maxRecDepth 20000 in
theorem wo_arrayOver_4 : Jvm.Cond.arrayOver (Jvm.ClassFile.FieldType.object "FieldEditor$Field") ∈ lw_tbl := List.mem_append_right _ (List.mem_append_left _ (List.mem_of_getElem? (i := 202) rfl))
set_option maxRecDepth 20000 in
theorem wo_arrayOver_5 : Jvm.Cond.arrayOver (Jvm.ClassFile.FieldType.array Jvm.ClassFile.FieldType.int) ∈ lw_tbl := List.mem_append_right _ (List.mem_append_right _ (List.mem_append_left _ (List.mem_of_getElem? (i := 60) rfl)))
set_option maxRecDepth 20000 in
theorem wo_arrayOver_6 : Jvm.Cond.arrayOver (Jvm.ClassFile.FieldType.object "java/lang/Object") ∈ lw_tbl := List.mem_append_right _ (List.mem_append_right _ (List.mem_append_right _ (List.mem_append_left _ (List.mem_of_getElem? (i := 35) rfl))))
set_option maxRecDepth 20000 in
theorem wo_arrayClass_0 : Jvm.Cond.arrayClass Jvm.ClassFile.FieldType.int ∈ lw_tbl := List.mem_append_right _ (List.mem_append_left _ (List.mem_of_getElem? (i := 103) rfl))
set_option maxRecDepth 20000 in
theorem wo_arrayClass_1 : Jvm.Cond.arrayClass Jvm.ClassFile.FieldType.boolean ∈ lw_tbl := List.mem_append_right _ (List.mem_append_right _ (List.mem_append_right _ (List.mem_append_right _ (List.mem_append_right _ (List.mem_append_left _ (List.mem_of_getElem? (i := 21) rfl))))))
set_option maxRecDepth 20000 in
theorem wo_native_0 : Jvm.Cond.native ({ cls := "java/lang/Object", name := "getClass", desc := "()Ljava/lang/Class;" } : Jvm.MethodName) ∈ lw_tbl := List.mem_append_right _ (List.mem_append_right _ (List.mem_append_right _ (List.mem_append_left _ (List.mem_of_getElem? (i := 30) rfl))))
set_option maxRecDepth 20000 in
theorem wo_native_1 : Jvm.Cond.native ({ cls := "java/lang/System", name := "arraycopy", desc := "(Ljava/lang/Object;ILjava/lang/Object;II)V" } : Jvm.MethodName) ∈ lw_tbl := List.mem_append_right _ (List.mem_append_right _ (List.mem_append_right _ (List.mem_append_left _ (List.mem_of_getElem? (i := 42) rfl))))
set_option maxRecDepth 20000 in
theorem wo_native_2 : Jvm.Cond.native ({ cls := "java/lang/Object", name := "clone", desc := "()Ljava/lang/Object;" } : Jvm.MethodName) ∈ lw_tbl := List.mem_append_right _ (List.mem_append_right _ (List.mem_append_right _ (List.mem_append_left _ (List.mem_of_getElem? (i := 123) rfl))))
set_option maxRecDepth 20000 in
theorem wo_sameMethod_0 : Jvm.Cond.sameMethod "java/lang/Object" "java/lang/Object" "getClass" "()Ljava/lang/Class;" ∈ lw_tbl := List.mem_append_right _ (List.mem_append_right _ (List.mem_append_right _ (List.mem_append_left _ (List.mem_of_getElem? (i := 15) rfl))))
set_option maxRecDepth 20000 in
theorem wo_sameMethod_1 : Jvm.Cond.sameMethod "[I" "java/lang/Object" "clone" "()Ljava/lang/Object;" ∈ lw_tbl := List.mem_append_right _ (List.mem_append_right _ (List.mem_append_right _ (List.mem_append_left _ (List.mem_of_getElem? (i := 122) rfl))))
set_option maxRecDepth 20000 in
theorem wo_sameMethod_2 : Jvm.Cond.sameMethod "[Ljava/lang/Object;" "java/lang/Object" "getClass" "()Ljava/lang/Class;" ∈ lw_tbl := List.mem_append_right _ (List.mem_append_right _ (List.mem_append_right _ (List.mem_append_right _ (List.mem_append_right _ (List.mem_append_right _ (List.mem_of_getElem? (i := 93) rfl))))))
set_option maxRecDepth 20000 in
theorem wo_castable_0 : Jvm.Cond.castable "[I" "java/lang/Cloneable" ∈ lw_tbl := List.mem_append_right _ (List.mem_append_right _ (List.mem_append_right _ (List.mem_append_left _ (List.mem_of_getElem? (i := 126) rfl))))
set_option maxRecDepth 20000 in
theorem wo_castable_1 : Jvm.Cond.castable "FieldEditor$Edit" "FieldEditor$Edit" ∈ lw_tbl := List.mem_append_right _ (List.mem_append_right _ (List.mem_append_right _ (List.mem_append_right _ (List.mem_append_right _ (List.mem_append_right _ (List.mem_of_getElem? (i := 91) rfl))))))
set_option maxRecDepth 20000 in
theorem wo_castable_2 : Jvm.Cond.castable "FieldEditor$Group" "FieldEditor$Group" ∈ lw_tbl := List.mem_append_right _ (List.mem_append_right _ (List.mem_append_right _ (List.mem_append_right _ (List.mem_append_right _ (List.mem_append_right _ (List.mem_of_getElem? (i := 92) rfl))))))
set_option maxRecDepth 20000 in
theorem wo_castable_3 : Jvm.Cond.castable "FieldEditor" "java/lang/Object" ∈ lw_tbl := List.mem_append_right _ (List.mem_append_right _ (List.mem_append_right _ (List.mem_append_right _ (List.mem_append_right _ (List.mem_append_right _ (List.mem_of_getElem? (i := 96) rfl))))))
set_option maxRecDepth 20000 in
theorem wo_castable_4 : Jvm.Cond.castable "FieldEditor$History" "java/lang/Object" ∈ lw_tbl := List.mem_append_right _ (List.mem_append_right _ (List.mem_append_right _ (List.mem_append_right _ (List.mem_append_right _ (List.mem_append_right _ (List.mem_of_getElem? (i := 97) rfl))))))
set_option maxRecDepth 20000 in
theorem wo_castable_5 : Jvm.Cond.castable "FieldEditor$Reach" "java/lang/Object" ∈ lw_tbl := List.mem_append_right _ (List.mem_append_right _ (List.mem_append_right _ (List.mem_append_right _ (List.mem_append_right _ (List.mem_append_right _ (List.mem_of_getElem? (i := 98) rfl))))))
set_option maxRecDepth 20000 in
theorem wo_castable_6 : Jvm.Cond.castable "FieldEditor$Pairs" "java/lang/Object" ∈ lw_tbl := List.mem_append_right _ (List.mem_append_right _ (List.mem_append_right _ (List.mem_append_right _ (List.mem_append_right _ (List.mem_append_right _ (List.mem_of_getElem? (i := 99) rfl))))))
set_option maxRecDepth 20000 in
theorem wo_castable_7 : Jvm.Cond.castable "FieldEditor$Spots" "java/lang/Object" ∈ lw_tbl := List.mem_append_right _ (List.mem_append_right _ (List.mem_append_right _ (List.mem_append_right _ (List.mem_append_right _ (List.mem_append_right _ (List.mem_of_getElem? (i := 100) rfl))))))
set_option maxRecDepth 20000 in
theorem wo_castable_8 : Jvm.Cond.castable "FieldEditorModel" "java/lang/Object" ∈ lw_tbl := List.mem_append_right _ (List.mem_append_right _ (List.mem_append_right _ (List.mem_append_right _ (List.mem_append_right _ (List.mem_append_right _ (List.mem_of_getElem? (i := 101) rfl))))))
set_option maxRecDepth 20000 in
theorem wo_castable_9 : Jvm.Cond.castable "FieldEditor$Shape" "java/lang/Object" ∈ lw_tbl := List.mem_append_right _ (List.mem_append_right _ (List.mem_append_right _ (List.mem_append_right _ (List.mem_append_right _ (List.mem_append_right _ (List.mem_of_getElem? (i := 102) rfl))))))
set_option maxRecDepth 20000 in
theorem wo_castable_10 : Jvm.Cond.castable "FieldEditor$Field" "java/lang/Object" ∈ lw_tbl := List.mem_append_right _ (List.mem_append_right _ (List.mem_append_right _ (List.mem_append_right _ (List.mem_append_right _ (List.mem_append_right _ (List.mem_of_getElem? (i := 103) rfl))))))
set_option maxRecDepth 20000 in
theorem wo_castable_11 : Jvm.Cond.castable "FieldEditor$Thing" "java/lang/Object" ∈ lw_tbl := List.mem_append_right _ (List.mem_append_right _ (List.mem_append_right _ (List.mem_append_right _ (List.mem_append_right _ (List.mem_append_right _ (List.mem_of_getElem? (i := 104) rfl))))))
set_option maxRecDepth 20000 in
theorem wo_castable_12 : Jvm.Cond.castable "FieldEditor$Edit" "java/lang/Object" ∈ lw_tbl := List.mem_append_right _ (List.mem_append_right _ (List.mem_append_right _ (List.mem_append_right _ (List.mem_append_right _ (List.mem_append_right _ (List.mem_of_getElem? (i := 105) rfl))))))
set_option maxRecDepth 20000 in
theorem wo_castable_13 : Jvm.Cond.castable "FieldEditor$Group" "java/lang/Object" ∈ lw_tbl := List.mem_append_right _ (List.mem_append_right _ (List.mem_append_right _ (List.mem_append_right _ (List.mem_append_right _ (List.mem_append_right _ (List.mem_of_getElem? (i := 106) rfl))))))
set_option maxRecDepth 20000 in
theorem wo_castable_14 : Jvm.Cond.castable "FieldEditor$Path" "java/lang/Object" ∈ lw_tbl := List.mem_append_right _ (List.mem_append_right _ (List.mem_append_right _ (List.mem_append_right _ (List.mem_append_right _ (List.mem_append_right _ (List.mem_of_getElem? (i := 107) rfl))))))
set_option maxRecDepth 20000 in
theorem wo_castable_15 : Jvm.Cond.castable "FieldEditor$Watch" "java/lang/Object" ∈ lw_tbl := List.mem_append_right _ (List.mem_append_right _ (List.mem_append_right _ (List.mem_append_right _ (List.mem_append_right _ (List.mem_append_right _ (List.mem_of_getElem? (i := 108) rfl))))))
set_option maxRecDepth 20000 in
theorem wo_declares_0 : Jvm.Cond.declares ({ cls := "java/lang/Object", name := "getClass", desc := "()Ljava/lang/Class;" } : Jvm.MethodName) ∈ lw_tbl := List.mem_append_right _ (List.mem_append_right _ (List.mem_append_right _ (List.mem_append_right _ (List.mem_append_right _ (List.mem_append_right _ (List.mem_of_getElem? (i := 95) rfl))))))
set_option maxRecDepth 20000 in
theorem wo_laysStatic_0 : Jvm.Cond.laysStatic "java/util/ArrayList" "DEFAULTCAPACITY_EMPTY_ELEMENTDATA" "[Ljava/lang/Object;" ∈ lw_tbl := List.mem_append_right _ (List.mem_append_left _ (List.mem_of_getElem? (i := 58) rfl))
set_option maxRecDepth 20000 in
theorem wi_objinit : Cond.instanceMethod ⟨"java/lang/Object", "<init>", "()V"⟩ ∈ lw_tbl := List.mem_append_right _ (List.mem_append_left _ (List.mem_of_getElem? (i := 29) rfl))
set_option maxRecDepth 20000 in
theorem wc_objinit : Cond.code objectInit ⟨#[0xb1]⟩ 1 none ∈ lw_tbl := List.mem_append_right _ (List.mem_append_left _ (List.mem_of_getElem? (i := 30) rfl))
set_option maxRecDepth 20000 in
theorem ws_arraycopy : Cond.static ⟨"java/lang/System", "arraycopy", "(Ljava/lang/Object;ILjava/lang/Object;II)V"⟩ ∈ lw_tbl := List.mem_append_right _ (List.mem_append_right _ (List.mem_append_right _ (List.mem_append_left _ (List.mem_of_getElem? (i := 41) rfl))))
set_option maxRecDepth 20000 in
theorem wi_clone : Cond.instanceMethod ⟨"java/lang/Object", "clone", "()Ljava/lang/Object;"⟩ ∈ lw_tbl := List.mem_append_right _ (List.mem_append_right _ (List.mem_append_right _ (List.mem_append_left _ (List.mem_of_getElem? (i := 124) rfl))))
set_option maxRecDepth 20000 in
theorem wi_getClass : Cond.instanceMethod ⟨"java/lang/Object", "getClass", "()Ljava/lang/Class;"⟩ ∈ lw_tbl := List.mem_append_right _ (List.mem_append_right _ (List.mem_append_right _ (List.mem_append_left _ (List.mem_of_getElem? (i := 14) rfl))))
set_option maxRecDepth 20000 in
theorem wzo_28 : Cond.selects "FieldEditor" ⟨"java/lang/Object", "getClass", "()Ljava/lang/Class;"⟩ ⟨"java/lang/Object", "getClass", "()Ljava/lang/Class;"⟩ ∈ lw_tbl := List.mem_append_right _ (List.mem_append_right _ (List.mem_append_right _ (List.mem_append_left _ (List.mem_of_getElem? (i := 16) rfl))))
set_option maxRecDepth 20000 in
theorem wzo_29 : Cond.selects "FieldEditor$Edit" ⟨"java/lang/Object", "getClass", "()Ljava/lang/Class;"⟩ ⟨"java/lang/Object", "getClass", "()Ljava/lang/Class;"⟩ ∈ lw_tbl := List.mem_append_right _ (List.mem_append_right _ (List.mem_append_right _ (List.mem_append_left _ (List.mem_of_getElem? (i := 17) rfl))))
set_option maxRecDepth 20000 in
theorem wzo_30 : Cond.selects "FieldEditor$Field" ⟨"java/lang/Object", "getClass", "()Ljava/lang/Class;"⟩ ⟨"java/lang/Object", "getClass", "()Ljava/lang/Class;"⟩ ∈ lw_tbl := List.mem_append_right _ (List.mem_append_right _ (List.mem_append_right _ (List.mem_append_left _ (List.mem_of_getElem? (i := 18) rfl))))
set_option maxRecDepth 20000 in
theorem wzo_31 : Cond.selects "FieldEditor$Group" ⟨"java/lang/Object", "getClass", "()Ljava/lang/Class;"⟩ ⟨"java/lang/Object", "getClass", "()Ljava/lang/Class;"⟩ ∈ lw_tbl := List.mem_append_right _ (List.mem_append_right _ (List.mem_append_right _ (List.mem_append_left _ (List.mem_of_getElem? (i := 19) rfl))))
set_option maxRecDepth 20000 in
theorem wzo_32 : Cond.selects "FieldEditor$History" ⟨"java/lang/Object", "getClass", "()Ljava/lang/Class;"⟩ ⟨"java/lang/Object", "getClass", "()Ljava/lang/Class;"⟩ ∈ lw_tbl := List.mem_append_right _ (List.mem_append_right _ (List.mem_append_right _ (List.mem_append_left _ (List.mem_of_getElem? (i := 20) rfl))))
set_option maxRecDepth 20000 in
theorem wzo_33 : Cond.selects "FieldEditor$Pairs" ⟨"java/lang/Object", "getClass", "()Ljava/lang/Class;"⟩ ⟨"java/lang/Object", "getClass", "()Ljava/lang/Class;"⟩ ∈ lw_tbl := List.mem_append_right _ (List.mem_append_right _ (List.mem_append_right _ (List.mem_append_left _ (List.mem_of_getElem? (i := 21) rfl))))
set_option maxRecDepth 20000 in
theorem wzo_34 : Cond.selects "FieldEditor$Path" ⟨"java/lang/Object", "getClass", "()Ljava/lang/Class;"⟩ ⟨"java/lang/Object", "getClass", "()Ljava/lang/Class;"⟩ ∈ lw_tbl := List.mem_append_right _ (List.mem_append_right _ (List.mem_append_right _ (List.mem_append_left _ (List.mem_of_getElem? (i := 22) rfl))))
set_option maxRecDepth 20000 in
theorem wzo_35 : Cond.selects "FieldEditor$Reach" ⟨"java/lang/Object", "getClass", "()Ljava/lang/Class;"⟩ ⟨"java/lang/Object", "getClass", "()Ljava/lang/Class;"⟩ ∈ lw_tbl := List.mem_append_right _ (List.mem_append_right _ (List.mem_append_right _ (List.mem_append_left _ (List.mem_of_getElem? (i := 23) rfl))))
set_option maxRecDepth 20000 in
theorem wzo_36 : Cond.selects "FieldEditor$Shape" ⟨"java/lang/Object", "getClass", "()Ljava/lang/Class;"⟩ ⟨"java/lang/Object", "getClass", "()Ljava/lang/Class;"⟩ ∈ lw_tbl := List.mem_append_right _ (List.mem_append_right _ (List.mem_append_right _ (List.mem_append_left _ (List.mem_of_getElem? (i := 24) rfl))))
set_option maxRecDepth 20000 in
theorem wzo_37 : Cond.selects "FieldEditor$Spots" ⟨"java/lang/Object", "getClass", "()Ljava/lang/Class;"⟩ ⟨"java/lang/Object", "getClass", "()Ljava/lang/Class;"⟩ ∈ lw_tbl := List.mem_append_right _ (List.mem_append_right _ (List.mem_append_right _ (List.mem_append_left _ (List.mem_of_getElem? (i := 25) rfl))))
set_option maxRecDepth 20000 in
theorem wzo_38 : Cond.selects "FieldEditor$Thing" ⟨"java/lang/Object", "getClass", "()Ljava/lang/Class;"⟩ ⟨"java/lang/Object", "getClass", "()Ljava/lang/Class;"⟩ ∈ lw_tbl := List.mem_append_right _ (List.mem_append_right _ (List.mem_append_right _ (List.mem_append_left _ (List.mem_of_getElem? (i := 26) rfl))))
set_option maxRecDepth 20000 in
theorem wzo_39 : Cond.selects "FieldEditor$Watch" ⟨"java/lang/Object", "getClass", "()Ljava/lang/Class;"⟩ ⟨"java/lang/Object", "getClass", "()Ljava/lang/Class;"⟩ ∈ lw_tbl := List.mem_append_right _ (List.mem_append_right _ (List.mem_append_right _ (List.mem_append_left _ (List.mem_of_getElem? (i := 27) rfl))))
set_option maxRecDepth 20000 in
theorem wzo_40 : Cond.selects "FieldEditorModel" ⟨"java/lang/Object", "getClass", "()Ljava/lang/Class;"⟩ ⟨"java/lang/Object", "getClass", "()Ljava/lang/Class;"⟩ ∈ lw_tbl := List.mem_append_right _ (List.mem_append_right _ (List.mem_append_right _ (List.mem_append_left _ (List.mem_of_getElem? (i := 28) rfl))))
set_option maxRecDepth 20000 in
theorem wzo_41 : Cond.selects "java/util/ArrayList" ⟨"java/lang/Object", "getClass", "()Ljava/lang/Class;"⟩ ⟨"java/lang/Object", "getClass", "()Ljava/lang/Class;"⟩ ∈ lw_tbl := List.mem_append_right _ (List.mem_append_right _ (List.mem_append_right _ (List.mem_append_left _ (List.mem_of_getElem? (i := 29) rfl))))
set_option maxRecDepth 20000 in
theorem wzo_50 : Cond.selects "[I" ⟨"[I", "clone", "()Ljava/lang/Object;"⟩ ⟨"java/lang/Object", "clone", "()Ljava/lang/Object;"⟩ ∈ lw_tbl := List.mem_append_right _ (List.mem_append_right _ (List.mem_append_right _ (List.mem_append_left _ (List.mem_of_getElem? (i := 125) rfl))))
set_option maxRecDepth 20000 in
theorem wzo_109 : Cond.selects "[Ljava/lang/Object;" ⟨"java/lang/Object", "getClass", "()Ljava/lang/Class;"⟩ ⟨"java/lang/Object", "getClass", "()Ljava/lang/Class;"⟩ ∈ lw_tbl := List.mem_append_right _ (List.mem_append_right _ (List.mem_append_right _ (List.mem_append_right _ (List.mem_append_right _ (List.mem_append_right _ (List.mem_of_getElem? (i := 94) rfl))))))
def tb : List Cond := lw_tbl.filter goodWord
set_option maxRecDepth 20000 in
theorem tb_in {w : Cond} (h : w ∈ lw_tbl) (hg : goodWord w = true) : w ∈ tb := List.mem_filter.mpr ⟨h, hg⟩
set_option maxRecDepth 20000 in
theorem tb_good : ∀ w ∈ tb, (w.onTables && w.keeps) = true ∨ ∃ ty, w = .arrayClass ty := fun w h => good_of_word (List.mem_filter.mp h).2
set_option maxRecDepth 20000 in
theorem tb_sub : ∀ w ∈ tb, w ∈ lw_tbl := fun w h => (List.mem_filter.mp h).1
set_option maxRecDepth 20000 in
theorem tb_lay_0 : ∀ w ∈ u_ws RJx4a65c TJx4a65c 3, w ∈ lw_tbl := by decide +kernel
set_option maxRecDepth 20000 in
theorem tb_lay_1 : ∀ w ∈ u_ws RX0 TX0 4, w ∈ lw_tbl := by decide +kernel
set_option maxRecDepth 20000 in
theorem tb_lay_2 : ∀ w ∈ u_ws RX1 TX1 5, w ∈ lw_tbl := by decide +kernel
set_option maxRecDepth 20000 in
theorem tb_lay_3 : ∀ w ∈ u_ws RX2 TX2 1, w ∈ lw_tbl := by decide +kernel
set_option maxRecDepth 20000 in
theorem tb_lay_4 : ∀ w ∈ u_ws RX3 TX3 3, w ∈ lw_tbl := by decide +kernel
set_option maxRecDepth 20000 in
theorem tb_lay_5 : ∀ w ∈ u_ws RX4 TX4 4, w ∈ lw_tbl := by decide +kernel
set_option maxRecDepth 20000 in
theorem tb_lay_6 : ∀ w ∈ u_ws RX5 TX5 3, w ∈ lw_tbl := by decide +kernel
set_option maxRecDepth 20000 in
theorem tb_lay_7 : ∀ w ∈ u_ws RX6 TX6 3, w ∈ lw_tbl := by decide +kernel
set_option maxRecDepth 20000 in
theorem tb_lay_8 : ∀ w ∈ u_ws RX7 TX7 4, w ∈ lw_tbl := by decide +kernel
set_option maxRecDepth 20000 in
theorem tb_lay_9 : ∀ w ∈ u_ws RX8 TX8 3, w ∈ lw_tbl := by decide +kernel
set_option maxRecDepth 20000 in
theorem tb_lay_10 : ∀ w ∈ u_ws RX9 TX9 2, w ∈ lw_tbl := by decide +kernel
set_option maxRecDepth 20000 in
theorem tb_lay_11 : ∀ w ∈ u_ws RX10 TX10 8, w ∈ lw_tbl := by decide +kernel
set_option maxRecDepth 20000 in
theorem tb_lay_12 : ∀ w ∈ u_ws RX11 TX11 14, w ∈ lw_tbl := by decide +kernel
set_option maxRecDepth 20000 in
theorem tb_lay_13 : ∀ w ∈ u_ws RX12 TX12 46, w ∈ lw_tbl := by decide +kernel
