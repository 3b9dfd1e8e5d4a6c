/-! the tables of the interpreter: values, memory, layout, classes, methods, code; printed by wip/whole/emit_tab.py -/
abbrev z_V : Type := Int32 ⊕ Int64 ⊕ (Nat × Nat) ⊕ Unit
abbrev z_i (x : Int32) : z_V := Sum.inl x
abbrev z_j (x : Int64) : z_V := Sum.inr (Sum.inl x)
abbrev z_r (t i : Nat) : z_V := Sum.inr (Sum.inr (Sum.inl (t, i)))
abbrev z_n : z_V := Sum.inr (Sum.inr (Sum.inr ()))
/-- phase (true: all made), (cells, slots, kinds of shares, references), ints, longs -/
abbrev z_X : Type := Nat × Nat × (Nat → Nat) × (Nat → Nat → Nat → Option (Nat × Nat))
abbrev z_M : Type := Bool × z_X × (Nat → Nat → Nat → Int32) × (Nat → Nat → Nat → Int64)
abbrev z_C : Type := Nat × Nat × List (Option z_V) × List z_V × z_M
abbrev z_E : Type := Instr × Nat × (Nat × Nat × Nat × Nat) × Int32 × Int64
def z_T0 : u_T := fun k => match k with
  | 0 => ("ShareNets$Share", "kind", "I", true)
  | 1 => ("ShareNets$Share", "number", "I", true)
  | 2 => ("ShareNets$Share", "a", "I", true)
  | _ => ("ShareNets$Share", "b", "I", true)
def z_y0 : Nat → FieldType := fun k => match k with
  | 0 => .int
  | 1 => .int
  | 2 => .int
  | _ => .int
def z_T1 : u_T := fun k => match k with
  | 0 => ("ShareNets$Limit", "weights", "[I", true)
  | 1 => ("ShareNets$Limit", "chances", "[I", true)
  | 2 => ("ShareNets$Limit", "parts", "I", false)
  | 3 => ("ShareNets$Limit", "above", "[J", true)
  | 4 => ("ShareNets$Limit", "partOf", "[I", true)
  | 5 => ("ShareNets$Limit", "dealt", "[I", true)
  | _ => ("ShareNets$Limit", "rests", "[I", true)
def z_y1 : Nat → FieldType := fun k => match k with
  | 0 => (.array .int)
  | 1 => (.array .int)
  | 2 => .int
  | 3 => (.array .long)
  | 4 => (.array .int)
  | 5 => (.array .int)
  | _ => (.array .int)
def z_T2 : u_T := fun k => match k with
  | 0 => ("ShareNets$Net", "roads", "[I", true)
  | _ => ("ShareNets$Net", "size", "I", false)
def z_y2 : Nat → FieldType := fun k => match k with
  | 0 => (.array .int)
  | _ => .int
def z_T3 : u_T := fun k => match k with
  | 0 => ("ShareNets$Share", "kind", "I", true)
  | 1 => ("ShareNets$Share", "number", "I", true)
  | 2 => ("ShareNets$Share", "a", "I", true)
  | _ => ("ShareNets$Share", "b", "I", true)
def z_y3 : Nat → FieldType := fun k => match k with
  | 0 => .int
  | 1 => .int
  | 2 => .int
  | _ => .int
def z_T4 : u_T := fun k => match k with
  | 0 => ("ShareNets$Sheet", "items", "[J", true)
  | 1 => ("ShareNets$Sheet", "sort", "I", false)
  | _ => ("ShareNets$Sheet", "length", "I", false)
def z_y4 : Nat → FieldType := fun k => match k with
  | 0 => (.array .long)
  | 1 => .int
  | _ => .int
def z_T5 : u_T := fun k => match k with
  | 0 => ("ShareNets$Share", "kind", "I", true)
  | 1 => ("ShareNets$Share", "number", "I", true)
  | 2 => ("ShareNets$Share", "a", "I", true)
  | _ => ("ShareNets$Share", "b", "I", true)
def z_y5 : Nat → FieldType := fun k => match k with
  | 0 => .int
  | 1 => .int
  | 2 => .int
  | _ => .int
def z_T6 : u_T := fun k => match k with
  | 0 => ("ShareNets$Share", "kind", "I", true)
  | 1 => ("ShareNets$Share", "number", "I", true)
  | 2 => ("ShareNets$Share", "a", "I", true)
  | _ => ("ShareNets$Share", "b", "I", true)
def z_y6 : Nat → FieldType := fun k => match k with
  | 0 => .int
  | 1 => .int
  | 2 => .int
  | _ => .int
def z_T7 : u_T := fun k => match k with
  | 0 => ("ShareNets$Tally", "counts", "[I", true)
  | _ => ("ShareNets$Tally", "chosen", "[I", true)
def z_y7 : Nat → FieldType := fun k => match k with
  | 0 => (.array .int)
  | _ => (.array .int)
def z_T8 : u_T := fun k => match k with
  | 0 => ("ShareNets$Tape", "told", "LShareNets$Net;", true)
  | 1 => ("ShareNets$Tape", "size", "I", false)
  | 2 => ("ShareNets$Tape", "bytes", "[I", true)
  | 3 => ("ShareNets$Tape", "start", "I", false)
  | _ => ("ShareNets$Tape", "end", "I", false)
def z_y8 : Nat → FieldType := fun k => match k with
  | 0 => (.object "ShareNets$Net")
  | 1 => .int
  | 2 => (.array .int)
  | 3 => .int
  | _ => .int
def z_T9 : u_T := fun k => match k with
  | 0 => ("ShareNets$Trace", "bodies", "[I", true)
  | 1 => ("ShareNets$Trace", "size", "I", false)
  | _ => ("ShareNets$Trace", "partedBy0", "Z", false)
def z_y9 : Nat → FieldType := fun k => match k with
  | 0 => (.array .int)
  | 1 => .int
  | _ => .boolean
def z_T10 : u_T := fun k => match k with
  | 0 => ("ShareNets$World", "nets", "[LShareNets$Net;", true)
  | 1 => ("ShareNets$World", "outs", "[I", true)
  | 2 => ("ShareNets$World", "limit", "LShareNets$Limit;", true)
  | 3 => ("ShareNets$World", "shares", "[LShareNets$Share;", true)
  | 4 => ("ShareNets$World", "weights", "[I", true)
  | 5 => ("ShareNets$World", "sharesHeld", "I", false)
  | _ => ("ShareNets$World", "z", "I", false)
def z_y10 : Nat → FieldType := fun k => match k with
  | 0 => (.array (.object "ShareNets$Net"))
  | 1 => (.array .int)
  | 2 => (.object "ShareNets$Limit")
  | 3 => (.array (.object "ShareNets$Share"))
  | 4 => (.array .int)
  | 5 => .int
  | _ => .int
def z_T11 : u_T := fun k => match k with
  | 0 => ("ShareNets", "now", "LShareNets$World;", true)
  | 1 => ("ShareNets", "kept", "LShareNets$World;", true)
  | 2 => ("ShareNets", "isKept", "Z", false)
  | 3 => ("ShareNets", "tape", "LShareNets$Tape;", true)
  | 4 => ("ShareNets", "latest", "LShareNets$Trace;", true)
  | 5 => ("ShareNets", "rowForms", "[I", true)
  | 6 => ("ShareNets", "rowCounts", "[I", true)
  | 7 => ("ShareNets", "rowsHeld", "I", false)
  | 8 => ("ShareNets", "sheets", "[LShareNets$Sheet;", true)
  | 9 => ("ShareNets", "shelfHolds", "[I", true)
  | 10 => ("ShareNets", "shelfNumbers", "[I", true)
  | 11 => ("ShareNets", "tally", "LShareNets$Tally;", true)
  | 12 => ("ShareNets", "smallTally", "LShareNets$Tally;", true)
  | 13 => ("ShareNets", "small", "LShareNets$Net;", true)
  | 14 => ("ShareNets", "lifted", "[I", true)
  | 15 => ("ShareNets", "order", "[I", true)
  | _ => ("ShareNets", "image", "[I", true)
def z_y11 : Nat → FieldType := fun k => match k with
  | 0 => (.object "ShareNets$World")
  | 1 => (.object "ShareNets$World")
  | 2 => .boolean
  | 3 => (.object "ShareNets$Tape")
  | 4 => (.object "ShareNets$Trace")
  | 5 => (.array .int)
  | 6 => (.array .int)
  | 7 => .int
  | 8 => (.array (.object "ShareNets$Sheet"))
  | 9 => (.array .int)
  | 10 => (.array .int)
  | 11 => (.object "ShareNets$Tally")
  | 12 => (.object "ShareNets$Tally")
  | 13 => (.object "ShareNets$Net")
  | 14 => (.array .int)
  | 15 => (.array .int)
  | _ => (.array .int)
def z_T12 : u_T := fun k => match k with
  | 0 => ("ShareNetsModel", "postsOf", "[I", true)
  | 1 => ("ShareNetsModel", "roads", "[I", true)
  | 2 => ("ShareNetsModel", "outs", "I", false)
  | 3 => ("ShareNetsModel", "out", "[I", true)
  | 4 => ("ShareNetsModel", "parts", "I", false)
  | 5 => ("ShareNetsModel", "weights", "[I", true)
  | 6 => ("ShareNetsModel", "chances", "[I", true)
  | 7 => ("ShareNetsModel", "z", "I", false)
  | 8 => ("ShareNetsModel", "shares", "I", false)
  | 9 => ("ShareNetsModel", "share", "[I", true)
  | 10 => ("ShareNetsModel", "formOf", "[I", true)
  | 11 => ("ShareNetsModel", "forms", "[I", true)
  | 12 => ("ShareNetsModel", "formMany", "[I", true)
  | 13 => ("ShareNetsModel", "tape", "[I", true)
  | 14 => ("ShareNetsModel", "tapeMany", "I", false)
  | 15 => ("ShareNetsModel", "sort", "I", false)
  | 16 => ("ShareNetsModel", "begins", "I", false)
  | 17 => ("ShareNetsModel", "tokenEnds", "I", false)
  | 18 => ("ShareNetsModel", "word", "J", false)
  | 19 => ("ShareNetsModel", "value", "I", false)
  | 20 => ("ShareNetsModel", "good", "Z", false)
  | 21 => ("ShareNetsModel", "freshPosts", "I", false)
  | 22 => ("ShareNetsModel", "fresh", "[I", true)
  | 23 => ("ShareNetsModel", "told", "[I", true)
  | 24 => ("ShareNetsModel", "toldMany", "I", false)
  | 25 => ("ShareNetsModel", "placed", "[I", true)
  | 26 => ("ShareNetsModel", "above", "J", false)
  | 27 => ("ShareNetsModel", "below", "J", false)
  | 28 => ("ShareNetsModel", "little", "[I", true)
  | 29 => ("ShareNetsModel", "drawnParts", "[I", true)
  | 30 => ("ShareNetsModel", "many", "[I", true)
  | 31 => ("ShareNetsModel", "rest", "[I", true)
  | 32 => ("ShareNetsModel", "partOf", "[I", true)
  | 33 => ("ShareNetsModel", "bounds", "[I", true)
  | 34 => ("ShareNetsModel", "bound", "I", false)
  | 35 => ("ShareNetsModel", "heap3", "I", false)
  | 36 => ("ShareNetsModel", "counted", "[I", true)
  | 37 => ("ShareNetsModel", "rowMany", "I", false)
  | 38 => ("ShareNetsModel", "must", "[I", true)
  | 39 => ("ShareNetsModel", "mustMany", "I", false)
  | 40 => ("ShareNetsModel", "sorts", "[I", true)
  | 41 => ("ShareNetsModel", "sizes", "[I", true)
  | 42 => ("ShareNetsModel", "sheets", "[J", true)
  | 43 => ("ShareNetsModel", "held", "[I", true)
  | 44 => ("ShareNetsModel", "heldNumber", "[I", true)
  | 45 => ("ShareNetsModel", "heldSize", "[I", true)
  | 46 => ("ShareNetsModel", "kind", "I", false)
  | 47 => ("ShareNetsModel", "number", "I", false)
  | 48 => ("ShareNetsModel", "own", "I", false)
  | 49 => ("ShareNetsModel", "traced", "[I", true)
  | 50 => ("ShareNetsModel", "bodies", "I", false)
  | 51 => ("ShareNetsModel", "isParted", "Z", false)
  | 52 => ("ShareNetsModel", "isKept", "Z", false)
  | 53 => ("ShareNetsModel", "kept", "[I", true)
  | 54 => ("ShareNetsModel", "movedTo", "I", false)
  | _ => ("ShareNetsModel", "single", "[I", true)
def z_y12 : Nat → FieldType := fun k => match k with
  | 0 => (.array .int)
  | 1 => (.array .int)
  | 2 => .int
  | 3 => (.array .int)
  | 4 => .int
  | 5 => (.array .int)
  | 6 => (.array .int)
  | 7 => .int
  | 8 => .int
  | 9 => (.array .int)
  | 10 => (.array .int)
  | 11 => (.array .int)
  | 12 => (.array .int)
  | 13 => (.array .int)
  | 14 => .int
  | 15 => .int
  | 16 => .int
  | 17 => .int
  | 18 => .long
  | 19 => .int
  | 20 => .boolean
  | 21 => .int
  | 22 => (.array .int)
  | 23 => (.array .int)
  | 24 => .int
  | 25 => (.array .int)
  | 26 => .long
  | 27 => .long
  | 28 => (.array .int)
  | 29 => (.array .int)
  | 30 => (.array .int)
  | 31 => (.array .int)
  | 32 => (.array .int)
  | 33 => (.array .int)
  | 34 => .int
  | 35 => .int
  | 36 => (.array .int)
  | 37 => .int
  | 38 => (.array .int)
  | 39 => .int
  | 40 => (.array .int)
  | 41 => (.array .int)
  | 42 => (.array .long)
  | 43 => (.array .int)
  | 44 => (.array .int)
  | 45 => (.array .int)
  | 46 => .int
  | 47 => .int
  | 48 => .int
  | 49 => (.array .int)
  | 50 => .int
  | 51 => .boolean
  | 52 => .boolean
  | 53 => (.array .int)
  | 54 => .int
  | _ => (.array .int)
def z_cl : List vw_C := [("ShareNets$Law", z_T0, 4), ("ShareNets$Limit", z_T1, 7), ("ShareNets$Net", z_T2, 2), ("ShareNets$Share", z_T3, 4), ("ShareNets$Sheet", z_T4, 3), ("ShareNets$Square", z_T5, 4), ("ShareNets$Sum", z_T6, 4), ("ShareNets$Tally", z_T7, 2), ("ShareNets$Tape", z_T8, 5), ("ShareNets$Trace", z_T9, 3), ("ShareNets$World", z_T10, 7), ("ShareNets", z_T11, 17), ("ShareNetsModel", z_T12, 56)]
def z_tyl : List (Nat → FieldType) := [z_y0, z_y1, z_y2, z_y3, z_y4, z_y5, z_y6, z_y7, z_y8, z_y9, z_y10, z_y11, z_y12]
/-- type codes of the fields: 0 int, 1 long, 2 reference, 3 boolean -/
def z_ftl : List (List Nat) := [[0, 0, 0, 0], [2, 2, 0, 2, 2, 2, 2], [2, 0], [0, 0, 0, 0], [2, 0, 0], [0, 0, 0, 0], [0, 0, 0, 0], [2, 2], [2, 0, 2, 0, 0], [2, 0, 3], [2, 2, 2, 2, 2, 0, 0], [2, 2, 3, 2, 2, 2, 2, 0, 2, 2, 2, 2, 2, 2, 2, 2, 2], [2, 2, 0, 2, 0, 2, 2, 0, 0, 2, 2, 2, 2, 2, 0, 0, 0, 0, 1, 0, 3, 0, 2, 2, 0, 2, 1, 1, 2, 2, 2, 2, 2, 2, 0, 0, 2, 0, 2, 0, 2, 2, 2, 2, 2, 2, 0, 0, 0, 2, 0, 3, 3, 2, 0, 2]]
def z_cn (c : Nat) : String := (["ShareNets$Law", "ShareNets$Limit", "ShareNets$Net", "ShareNets$Share", "ShareNets$Sheet", "ShareNets$Square", "ShareNets$Sum", "ShareNets$Tally", "ShareNets$Tape", "ShareNets$Trace", "ShareNets$World", "ShareNets", "ShareNetsModel"] : List String).getD c ""
def z_stn (k : Nat) : String × String × String := ([("ShareNets", "FORMS", "[I"), ("ShareNets", "FORM_INDEX", "[I"), ("ShareNets", "PAIR_LOW", "[I"), ("ShareNets", "PAIR_HIGH", "[I"), ("java/lang/String", "COMPACT_STRINGS", "Z"), ("jdk/internal/util/Preconditions", "SIOOBE_FORMATTER", "Ljava/util/function/BiFunction;")] : List (String × String × String)).getD k ("", "", "")
def z_stx (k : Nat) : String := (["posts", "all", "ring", "road"] : List String).getD k ""
def z_vt (v c : Nat) : Option Nat := (([[some 1, none, none, some 28, none, some 36, some 28], [some 39, none, none, some 29, none, some 37, some 39], [some 40, none, none, some 30, none, some 40, some 40], [some 2, none, none, some 31, none, some 31, some 31], [none, none, none, none, none, some 40, none]] : List (List (Option Nat))).getD v []).getD c none
def z_vx (v : Nat) : MethodName := ([⟨"ShareNets$Share", "counts", "(ILShareNets$Trace;)I"⟩, ⟨"ShareNets$Share", "joins", "(ILShareNets$Trace;)I"⟩, ⟨"ShareNets$Share", "parts", "(ILShareNets$Trace;)I"⟩, ⟨"ShareNets$Share", "tells", "(ILShareNets$Trace;)I"⟩, ⟨"ShareNets$Square", "parts", "(ILShareNets$Trace;)I"⟩] : List MethodName).getD v ⟨"", "", ""⟩
def z_vo (v : Nat) : Nat := ([28, 29, 30, 31, 40] : List Nat).getD v 0
/-- instanceof: is class c one of class d -/
def z_sub (c d : Nat) : Bool := (([[0, 6, 3], [1], [2], [3], [4], [5, 6, 3], [6, 3], [7], [8], [9], [10], [11], [12]] : List (List Nat)).getD c []).contains d
/-- name, bytes, locals, answer -/
noncomputable def z_mi (y : Nat) : MethodName × ByteArray × Nat × Option FieldType := ((([[(⟨"ShareNets$Law", "<init>", "(III)V"⟩, prog_2_method_1_code, 4, none), (⟨"ShareNets$Law", "counts", "(ILShareNets$Trace;)I"⟩, prog_2_method_2_code, 3, (some .int)), (⟨"ShareNets$Law", "tells", "(ILShareNets$Trace;)I"⟩, prog_2_method_3_code, 3, (some .int)), (⟨"ShareNets$Limit", "<init>", "()V"⟩, prog_3_method_1_code, 1, none), (⟨"ShareNets$Limit", "become", "(LShareNets$Limit;)V"⟩, prog_3_method_2_code, 3, none), (⟨"ShareNets$Limit", "hasPart", "(I)Z"⟩, prog_3_method_3_code, 2, (some .boolean)), (⟨"ShareNets$Limit", "addPart", "(I)I"⟩, prog_3_method_4_code, 4, (some .int)), (⟨"ShareNets$Limit", "chanceOf", "(II)I"⟩, prog_3_method_5_code, 3, (some .int)), (⟨"ShareNets$Limit", "setChance", "(III)V"⟩, prog_3_method_6_code, 4, none), (⟨"ShareNets$Limit", "blowFrom", "(LShareNets$Net;)V"⟩, prog_3_method_7_code, 4, none), (⟨"ShareNets$Limit", "allWeights", "()I"⟩, prog_3_method_8_code, 3, (some .int)), (⟨"ShareNets$Limit", "below", "(I)J"⟩, prog_3_method_9_code, 5, (some .long)), (⟨"ShareNets$Limit", "spread", "(I)V"⟩, prog_3_method_10_code, 3, none), (⟨"ShareNets$Limit", "drawParts", "(IIIIJ)V"⟩, prog_3_method_11_code, 9, none), (⟨"ShareNets$Limit", "drawRoads", "(IIIJ)V"⟩, prog_3_method_12_code, 7, none), (⟨"ShareNets$Limit", "deal", "(I)V"⟩, prog_3_method_13_code, 6, none)], [(⟨"ShareNets$Limit", "dealCut", "(I)I"⟩, prog_3_method_14_code, 5, (some .int)), (⟨"ShareNets$Limit", "greatestRest", "()I"⟩, prog_3_method_15_code, 3, (some .int)), (⟨"ShareNets$Net", "<init>", "()V"⟩, prog_4_method_1_code, 1, none), (⟨"ShareNets$Net", "clear", "(I)V"⟩, prog_4_method_2_code, 3, none), (⟨"ShareNets$Net", "become", "(LShareNets$Net;)V"⟩, prog_4_method_3_code, 3, none), (⟨"ShareNets$Net", "becomeCode", "(II)V"⟩, prog_4_method_4_code, 4, none), (⟨"ShareNets$Net", "hasRoad", "(II)Z"⟩, prog_4_method_5_code, 3, (some .boolean)), (⟨"ShareNets$Net", "setRoad", "(IIZ)V"⟩, prog_4_method_6_code, 4, none), (⟨"ShareNets$Net", "setLesserRoads", "(II)V"⟩, prog_4_method_7_code, 4, none), (⟨"ShareNets$Net", "turnRoads", "()V"⟩, prog_4_method_8_code, 3, none), (⟨"ShareNets$Net", "countRoads", "()I"⟩, prog_4_method_9_code, 3, (some .int)), (⟨"ShareNets$Share", "<init>", "(IIII)V"⟩, prog_5_method_1_code, 5, none), (⟨"ShareNets$Share", "counts", "(ILShareNets$Trace;)I"⟩, prog_5_method_2_code, 3, (some .int)), (⟨"ShareNets$Share", "joins", "(ILShareNets$Trace;)I"⟩, prog_5_method_3_code, 3, (some .int)), (⟨"ShareNets$Share", "parts", "(ILShareNets$Trace;)I"⟩, prog_5_method_4_code, 4, (some .int)), (⟨"ShareNets$Share", "tells", "(ILShareNets$Trace;)I"⟩, prog_5_method_5_code, 3, (some .int))], [(⟨"ShareNets$Sheet", "<init>", "()V"⟩, prog_6_method_1_code, 1, none), (⟨"ShareNets$Sheet", "become", "(II)V"⟩, prog_6_method_2_code, 4, none), (⟨"ShareNets$Sheet", "narrow", "(I)J"⟩, prog_6_method_3_code, 2, (some .long)), (⟨"ShareNets$Square", "<init>", "(III)V"⟩, prog_7_method_1_code, 4, none), (⟨"ShareNets$Square", "counts", "(ILShareNets$Trace;)I"⟩, prog_7_method_2_code, 3, (some .int)), (⟨"ShareNets$Square", "joins", "(ILShareNets$Trace;)I"⟩, prog_7_method_3_code, 3, (some .int)), (⟨"ShareNets$Sum", "<init>", "(IIII)V"⟩, prog_8_method_1_code, 5, none), (⟨"ShareNets$Sum", "joins", "(ILShareNets$Trace;)I"⟩, prog_8_method_2_code, 3, (some .int)), (⟨"ShareNets$Sum", "parts", "(ILShareNets$Trace;)I"⟩, prog_8_method_3_code, 3, (some .int)), (⟨"ShareNets$Tally", "<init>", "()V"⟩, prog_9_method_1_code, 1, none), (⟨"ShareNets$Tally", "take", "(LShareNets$Net;I)V"⟩, prog_9_method_2_code, 4, none), (⟨"ShareNets$Tally", "choose", "(LShareNets$Net;IIII)V"⟩, prog_9_method_3_code, 8, none), (⟨"ShareNets$Tally", "roadBits", "(LShareNets$Net;II)I"⟩, prog_9_method_4_code, 6, (some .int)), (⟨"ShareNets$Tape", "<init>", "()V"⟩, prog_10_method_1_code, 1, none), (⟨"ShareNets$Tape", "takeBytes", "(JI)I"⟩, prog_10_method_2_code, 5, (some .int)), (⟨"ShareNets$Tape", "useUp", "()I"⟩, prog_10_method_3_code, 2, (some .int))], [(⟨"ShareNets$Tape", "isText", "()Z"⟩, prog_10_method_4_code, 3, (some .boolean)), (⟨"ShareNets$Tape", "isPhrase", "()Z"⟩, prog_10_method_5_code, 9, (some .boolean)), (⟨"ShareNets$Tape", "joinPost", "(II)V"⟩, prog_10_method_6_code, 4, none), (⟨"ShareNets$Tape", "goOn", "()V"⟩, prog_10_method_7_code, 2, none), (⟨"ShareNets$Tape", "goesOnAt", "(I)Z"⟩, prog_10_method_8_code, 4, (some .boolean)), (⟨"ShareNets$Tape", "byteAt", "(I)I"⟩, prog_10_method_9_code, 2, (some .int)), (⟨"ShareNets$Tape", "isLetter", "(I)Z"⟩, prog_10_method_10_code, 1, (some .boolean)), (⟨"ShareNets$Tape", "isDigit", "(I)Z"⟩, prog_10_method_11_code, 1, (some .boolean)), (⟨"ShareNets$Tape", "isByte", "(I)Z"⟩, prog_10_method_12_code, 2, (some .boolean)), (⟨"ShareNets$Tape", "isName", "(Ljava/lang/String;)Z"⟩, prog_10_method_13_code, 3, (some .boolean)), (⟨"ShareNets$Tape", "numberAtHand", "()I"⟩, prog_10_method_14_code, 3, (some .int)), (⟨"ShareNets$Trace", "<init>", "()V"⟩, prog_11_method_1_code, 1, none), (⟨"ShareNets$Trace", "clear", "()V"⟩, prog_11_method_2_code, 1, none), (⟨"ShareNets$Trace", "begin", "(I)V"⟩, prog_11_method_3_code, 2, none), (⟨"ShareNets$World", "<init>", "()V"⟩, prog_12_method_1_code, 2, none), (⟨"ShareNets$World", "become", "(LShareNets$World;)V"⟩, prog_12_method_2_code, 3, none)], [(⟨"ShareNets$World", "countOuts", "()I"⟩, prog_12_method_3_code, 3, (some .int)), (⟨"ShareNets$World", "nextNumber", "()I"⟩, prog_12_method_4_code, 1, (some .int)), (⟨"ShareNets", "<init>", "()V"⟩, prog_1_method_1_code, 2, none), (⟨"ShareNets", "feed", "(JI)I"⟩, prog_1_method_2_code, 4, (some .int)), (⟨"ShareNets", "read", "(I)I"⟩, prog_1_method_3_code, 3, (some .int)), (⟨"ShareNets", "posts", "(II)I"⟩, prog_1_method_4_code, 3, (some .int)), (⟨"ShareNets", "road", "(IIIZ)I"⟩, prog_1_method_5_code, 5, (some .int)), (⟨"ShareNets", "netOf", "(II)I"⟩, prog_1_method_6_code, 4, (some .int)), (⟨"ShareNets", "rows", "(II)I"⟩, prog_1_method_7_code, 6, (some .int)), (⟨"ShareNets", "turn", "(I)I"⟩, prog_1_method_8_code, 2, (some .int)), (⟨"ShareNets", "same", "(II)I"⟩, prog_1_method_9_code, 5, (some .int)), (⟨"ShareNets", "form", "(II)I"⟩, prog_1_method_10_code, 3, (some .int)), (⟨"ShareNets", "formAt", "(II)I"⟩, prog_1_method_11_code, 3, (some .int)), (⟨"ShareNets", "count", "(III)I"⟩, prog_1_method_12_code, 5, (some .int)), (⟨"ShareNets", "share", "(IIII)I"⟩, prog_1_method_13_code, 7, (some .int)), (⟨"ShareNets", "lift", "(IIIII)I"⟩, prog_1_method_14_code, 8, (some .int))], [(⟨"ShareNets", "out", "(IIZ)I"⟩, prog_1_method_15_code, 6, (some .int)), (⟨"ShareNets", "free", "(I)I"⟩, prog_1_method_16_code, 2, (some .int)), (⟨"ShareNets", "heap", "(I)I"⟩, prog_1_method_17_code, 2, (some .int)), (⟨"ShareNets", "most", "(III)I"⟩, prog_1_method_18_code, 7, (some .int)), (⟨"ShareNets", "part", "(I)I"⟩, prog_1_method_19_code, 2, (some .int)), (⟨"ShareNets", "chance", "(III)I"⟩, prog_1_method_20_code, 6, (some .int)), (⟨"ShareNets", "bare", "()I"⟩, prog_1_method_21_code, 2, (some .int)), (⟨"ShareNets", "at", "(III)J"⟩, prog_1_method_22_code, 5, (some .long)), (⟨"ShareNets", "freeAt", "()I"⟩, prog_1_method_23_code, 1, (some .int)), (⟨"ShareNets", "blow", "(I)I"⟩, prog_1_method_24_code, 2, (some .int)), (⟨"ShareNets", "near", "(II)I"⟩, prog_1_method_25_code, 7, (some .int)), (⟨"ShareNets", "mixed", "(II)I"⟩, prog_1_method_26_code, 6, (some .int)), (⟨"ShareNets", "draw", "(II)I"⟩, prog_1_method_27_code, 8, (some .int)), (⟨"ShareNets", "seed", "(I)I"⟩, prog_1_method_28_code, 3, (some .int)), (⟨"ShareNets", "add", "(III)I"⟩, prog_1_method_29_code, 5, (some .int)), (⟨"ShareNets", "shareOf", "(II)I"⟩, prog_1_method_30_code, 4, (some .int))], [(⟨"ShareNets", "weight", "(II)I"⟩, prog_1_method_31_code, 4, (some .int)), (⟨"ShareNets", "gives", "(II)J"⟩, prog_1_method_32_code, 3, (some .long)), (⟨"ShareNets", "value", "(III)J"⟩, prog_1_method_33_code, 7, (some .long)), (⟨"ShareNets", "valueAt", "(II)J"⟩, prog_1_method_34_code, 6, (some .long)), (⟨"ShareNets", "bound", "(III)J"⟩, prog_1_method_35_code, 5, (some .long)), (⟨"ShareNets", "slack", "(IIII)J"⟩, prog_1_method_36_code, 6, (some .long)), (⟨"ShareNets", "tight", "(II)I"⟩, prog_1_method_37_code, 7, (some .int)), (⟨"ShareNets", "met", "(II)I"⟩, prog_1_method_38_code, 7, (some .int)), (⟨"ShareNets", "prove", "(II)I"⟩, prog_1_method_39_code, 4, (some .int)), (⟨"ShareNets", "row", "(II)I"⟩, prog_1_method_40_code, 3, (some .int)), (⟨"ShareNets", "alterRow", "(III)I"⟩, prog_1_method_41_code, 6, (some .int)), (⟨"ShareNets", "judge", "(II)I"⟩, prog_1_method_42_code, 5, (some .int)), (⟨"ShareNets", "sheet", "(III)I"⟩, prog_1_method_43_code, 4, (some .int)), (⟨"ShareNets", "put", "(III)I"⟩, prog_1_method_44_code, 5, (some .int)), (⟨"ShareNets", "item", "(III)I"⟩, prog_1_method_45_code, 5, (some .int)), (⟨"ShareNets", "shelf", "(III)I"⟩, prog_1_method_46_code, 5, (some .int))], [(⟨"ShareNets", "taken", "(II)I"⟩, prog_1_method_47_code, 5, (some .int)), (⟨"ShareNets", "act", "(III)I"⟩, prog_1_method_48_code, 6, (some .int)), (⟨"ShareNets", "trace", "(I)I"⟩, prog_1_method_49_code, 2, (some .int)), (⟨"ShareNets", "many", "(I)I"⟩, prog_1_method_50_code, 2, (some .int)), (⟨"ShareNets", "keep", "()I"⟩, prog_1_method_51_code, 1, (some .int)), (⟨"ShareNets", "again", "()I"⟩, prog_1_method_52_code, 1, (some .int)), (⟨"ShareNets", "isNet", "(I)Z"⟩, prog_1_method_53_code, 1, (some .boolean)), (⟨"ShareNets", "isPost", "(II)Z"⟩, prog_1_method_54_code, 3, (some .boolean)), (⟨"ShareNets", "isShare", "(I)Z"⟩, prog_1_method_55_code, 2, (some .boolean)), (⟨"ShareNets", "isFractionPart", "(I)Z"⟩, prog_1_method_56_code, 1, (some .boolean)), (⟨"ShareNets", "isSheet", "(I)Z"⟩, prog_1_method_57_code, 1, (some .boolean)), (⟨"ShareNets", "isSort", "(I)Z"⟩, prog_1_method_58_code, 1, (some .boolean)), (⟨"ShareNets", "isShelf", "(I)Z"⟩, prog_1_method_59_code, 1, (some .boolean)), (⟨"ShareNets", "isInRow", "(II)Z"⟩, prog_1_method_60_code, 3, (some .boolean)), (⟨"ShareNets", "pairsOf", "(I)I"⟩, prog_1_method_61_code, 1, (some .int)), (⟨"ShareNets", "formsOf", "(I)I"⟩, prog_1_method_62_code, 1, (some .int))], [(⟨"ShareNets", "indexOfForm", "(II)I"⟩, prog_1_method_63_code, 3, (some .int)), (⟨"ShareNets", "isBoundForm", "(II)Z"⟩, prog_1_method_64_code, 2, (some .boolean)), (⟨"ShareNets", "setsOf", "(II)I"⟩, prog_1_method_65_code, 4, (some .int)), (⟨"ShareNets", "partOfFraction", "(JJI)J"⟩, prog_1_method_66_code, 7, (some .long)), (⟨"ShareNets", "commonDivisor", "(JJ)J"⟩, prog_1_method_67_code, 11, (some .long)), (⟨"ShareNets", "bitAtPlace", "(II)I"⟩, prog_1_method_68_code, 4, (some .int)), (⟨"ShareNets", "orderPosts", "(LShareNets$Net;)V"⟩, prog_1_method_69_code, 9, none), (⟨"ShareNets", "canMatch", "(LShareNets$Net;LShareNets$Net;II)Z"⟩, prog_1_method_70_code, 8, (some .boolean)), (⟨"ShareNets", "imageOfRoads", "(II)I"⟩, prog_1_method_71_code, 5, (some .int)), (⟨"ShareNets", "isFreeNet", "(LShareNets$Net;)Z"⟩, prog_1_method_72_code, 3, (some .boolean)), (⟨"ShareNets", "holdsOut", "(I)Z"⟩, prog_1_method_73_code, 3, (some .boolean)), (⟨"ShareNets", "freeForms", "(I)I"⟩, prog_1_method_74_code, 4, (some .int)), (⟨"ShareNets", "countInForm", "(IIII)I"⟩, prog_1_method_75_code, 5, (some .int)), (⟨"ShareNets", "mostInForms", "(IIII)I"⟩, prog_1_method_76_code, 7, (some .int)), (⟨"ShareNets", "mostInFive", "(III)I"⟩, prog_1_method_77_code, 7, (some .int)), (⟨"ShareNets", "countInFive", "(II)I"⟩, prog_1_method_78_code, 5, (some .int))], [(⟨"ShareNets", "isFreeLimit", "()Z"⟩, prog_1_method_79_code, 3, (some .boolean)), (⟨"ShareNets", "happens", "(I)Z"⟩, prog_1_method_80_code, 2, (some .boolean)), (⟨"ShareNets", "isShareTold", "(III)Z"⟩, prog_1_method_81_code, 3, (some .boolean)), (⟨"ShareNets", "makeShare", "(IIII)LShareNets$Share;"⟩, prog_1_method_82_code, 4, (some (.object "ShareNets$Share"))), (⟨"ShareNets", "thirdsGiven", "(LShareNets$Share;I)I"⟩, prog_1_method_83_code, 2, (some .int)), (⟨"ShareNets", "thirdsOfLift", "(III)I"⟩, prog_1_method_84_code, 3, (some .int)), (⟨"ShareNets", "thirdsOfSquare", "(III)I"⟩, prog_1_method_85_code, 6, (some .int)), (⟨"ShareNets", "digitAt", "(II)I"⟩, prog_1_method_86_code, 4, (some .int)), (⟨"ShareNets", "height", "(III)I"⟩, prog_1_method_87_code, 6, (some .int)), (⟨"ShareNets", "greatestHeight", "(III)I"⟩, prog_1_method_88_code, 6, (some .int)), (⟨"ShareNets", "fillShelf", "(III)I"⟩, prog_1_method_89_code, 4, (some .int)), (⟨"ShareNets", "shareOn", "(I)LShareNets$Share;"⟩, prog_1_method_90_code, 2, (some (.object "ShareNets$Share"))), (⟨"ShareNets", "isOfKind", "(LShareNets$Share;I)Z"⟩, prog_1_method_91_code, 2, (some .boolean)), (⟨"ShareNetsModel", "<init>", "()V"⟩, prog_14_method_1_code, 6, none), (⟨"ShareNetsModel", "in", "(III)Z"⟩, prog_14_method_2_code, 3, (some .boolean)), (⟨"ShareNetsModel", "pairsOf", "(I)I"⟩, prog_14_method_3_code, 1, (some .int))], [(⟨"ShareNetsModel", "bitOf", "(II)I"⟩, prog_14_method_4_code, 2, (some .int)), (⟨"ShareNetsModel", "ordered", "(III)I"⟩, prog_14_method_5_code, 7, (some .int)), (⟨"ShareNetsModel", "isNet", "(I)Z"⟩, prog_14_method_6_code, 1, (some .boolean)), (⟨"ShareNetsModel", "isSide", "(I)Z"⟩, prog_14_method_7_code, 1, (some .boolean)), (⟨"ShareNetsModel", "isPost", "(II)Z"⟩, prog_14_method_8_code, 3, (some .boolean)), (⟨"ShareNetsModel", "isCode", "(II)Z"⟩, prog_14_method_9_code, 2, (some .boolean)), (⟨"ShareNetsModel", "isForm", "(II)Z"⟩, prog_14_method_10_code, 3, (some .boolean)), (⟨"ShareNetsModel", "isRoad", "(III)Z"⟩, prog_14_method_11_code, 4, (some .boolean)), (⟨"ShareNetsModel", "setRoad", "(IIIZ)V"⟩, prog_14_method_12_code, 5, none), (⟨"ShareNetsModel", "clear", "(II)V"⟩, prog_14_method_13_code, 4, none), (⟨"ShareNetsModel", "ones", "(I)I"⟩, prog_14_method_14_code, 3, (some .int)), (⟨"ShareNetsModel", "roadsOf", "(I)I"⟩, prog_14_method_15_code, 4, (some .int)), (⟨"ShareNetsModel", "feed", "(JI)I"⟩, prog_14_method_16_code, 5, (some .int)), (⟨"ShareNetsModel", "byteAt", "(I)I"⟩, prog_14_method_17_code, 2, (some .int)), (⟨"ShareNetsModel", "isLetter", "(I)Z"⟩, prog_14_method_18_code, 1, (some .boolean)), (⟨"ShareNetsModel", "isDigit", "(I)Z"⟩, prog_14_method_19_code, 1, (some .boolean))], [(⟨"ShareNetsModel", "advance", "()V"⟩, prog_14_method_20_code, 2, none), (⟨"ShareNetsModel", "isWord", "(J)Z"⟩, prog_14_method_21_code, 3, (some .boolean)), (⟨"ShareNetsModel", "wantNumber", "(II)I"⟩, prog_14_method_22_code, 4, (some .int)), (⟨"ShareNetsModel", "wantEnd", "()V"⟩, prog_14_method_23_code, 1, none), (⟨"ShareNetsModel", "freshRoad", "(II)V"⟩, prog_14_method_24_code, 3, none), (⟨"ShareNetsModel", "wantPost", "()V"⟩, prog_14_method_25_code, 3, none), (⟨"ShareNetsModel", "wantClause", "(I)V"⟩, prog_14_method_26_code, 6, none), (⟨"ShareNetsModel", "read", "(I)I"⟩, prog_14_method_27_code, 3, (some .int)), (⟨"ShareNetsModel", "posts", "(II)I"⟩, prog_14_method_28_code, 3, (some .int)), (⟨"ShareNetsModel", "road", "(IIIZ)I"⟩, prog_14_method_29_code, 6, (some .int)), (⟨"ShareNetsModel", "netOf", "(II)I"⟩, prog_14_method_30_code, 3, (some .int)), (⟨"ShareNetsModel", "rows", "(II)I"⟩, prog_14_method_31_code, 6, (some .int)), (⟨"ShareNetsModel", "turn", "(I)I"⟩, prog_14_method_32_code, 3, (some .int)), (⟨"ShareNetsModel", "mayBe", "(III)Z"⟩, prog_14_method_33_code, 5, (some .boolean)), (⟨"ShareNetsModel", "same", "(II)I"⟩, prog_14_method_34_code, 5, (some .int)), (⟨"ShareNetsModel", "form", "(II)I"⟩, prog_14_method_35_code, 3, (some .int))], [(⟨"ShareNetsModel", "formAt", "(II)I"⟩, prog_14_method_36_code, 3, (some .int)), (⟨"ShareNetsModel", "formIn", "([III)I"⟩, prog_14_method_37_code, 9, (some .int)), (⟨"ShareNetsModel", "countIn", "([IIIII)I"⟩, prog_14_method_38_code, 8, (some .int)), (⟨"ShareNetsModel", "waysOf", "(II)I"⟩, prog_14_method_39_code, 4, (some .int)), (⟨"ShareNetsModel", "countOf", "(III)I"⟩, prog_14_method_40_code, 4, (some .int)), (⟨"ShareNetsModel", "count", "(III)I"⟩, prog_14_method_41_code, 4, (some .int)), (⟨"ShareNetsModel", "lowest", "(JJ)V"⟩, prog_14_method_42_code, 11, none), (⟨"ShareNetsModel", "told", "(I)J"⟩, prog_14_method_43_code, 2, (some .long)), (⟨"ShareNetsModel", "share", "(IIII)I"⟩, prog_14_method_44_code, 5, (some .int)), (⟨"ShareNetsModel", "layLittle", "(II)V"⟩, prog_14_method_45_code, 5, none), (⟨"ShareNetsModel", "countLittle", "(IIII)I"⟩, prog_14_method_46_code, 5, (some .int)), (⟨"ShareNetsModel", "lift", "(IIIII)I"⟩, prog_14_method_47_code, 6, (some .int)), (⟨"ShareNetsModel", "outAt", "(II)I"⟩, prog_14_method_48_code, 4, (some .int)), (⟨"ShareNetsModel", "out", "(IIZ)I"⟩, prog_14_method_49_code, 5, (some .int)), (⟨"ShareNetsModel", "isFreeIn", "([III)Z"⟩, prog_14_method_50_code, 5, (some .boolean)), (⟨"ShareNetsModel", "free", "(I)I"⟩, prog_14_method_51_code, 2, (some .int))], [(⟨"ShareNetsModel", "heapOf", "(I)I"⟩, prog_14_method_52_code, 4, (some .int)), (⟨"ShareNetsModel", "heap", "(I)I"⟩, prog_14_method_53_code, 2, (some .int)), (⟨"ShareNetsModel", "most", "(III)I"⟩, prog_14_method_54_code, 7, (some .int)), (⟨"ShareNetsModel", "part", "(I)I"⟩, prog_14_method_55_code, 3, (some .int)), (⟨"ShareNetsModel", "chance", "(III)I"⟩, prog_14_method_56_code, 5, (some .int)), (⟨"ShareNetsModel", "bare", "()I"⟩, prog_14_method_57_code, 2, (some .int)), (⟨"ShareNetsModel", "weightsInAll", "()I"⟩, prog_14_method_58_code, 3, (some .int)), (⟨"ShareNetsModel", "oftenOf", "(II)J"⟩, prog_14_method_59_code, 8, (some .long)), (⟨"ShareNetsModel", "atOf", "(II)J"⟩, prog_14_method_60_code, 11, (some .long)), (⟨"ShareNetsModel", "allOf", "(I)J"⟩, prog_14_method_61_code, 5, (some .long)), (⟨"ShareNetsModel", "at", "(III)J"⟩, prog_14_method_62_code, 4, (some .long)), (⟨"ShareNetsModel", "isFreeLimit", "()Z"⟩, prog_14_method_63_code, 2, (some .boolean)), (⟨"ShareNetsModel", "freeAt", "()I"⟩, prog_14_method_64_code, 1, (some .int)), (⟨"ShareNetsModel", "blow", "(I)I"⟩, prog_14_method_65_code, 4, (some .int)), (⟨"ShareNetsModel", "lot", "()I"⟩, prog_14_method_66_code, 1, (some .int)), (⟨"ShareNetsModel", "shareOut", "(I)V"⟩, prog_14_method_67_code, 6, none)], [(⟨"ShareNetsModel", "near", "(II)I"⟩, prog_14_method_68_code, 8, (some .int)), (⟨"ShareNetsModel", "mixed", "(II)I"⟩, prog_14_method_69_code, 5, (some .int)), (⟨"ShareNetsModel", "draw", "(II)I"⟩, prog_14_method_70_code, 7, (some .int)), (⟨"ShareNetsModel", "seed", "(I)I"⟩, prog_14_method_71_code, 3, (some .int)), (⟨"ShareNetsModel", "isShare", "(I)Z"⟩, prog_14_method_72_code, 2, (some .boolean)), (⟨"ShareNetsModel", "its", "(II)I"⟩, prog_14_method_73_code, 3, (some .int)), (⟨"ShareNetsModel", "add", "(III)I"⟩, prog_14_method_74_code, 5, (some .int)), (⟨"ShareNetsModel", "shareOf", "(II)I"⟩, prog_14_method_75_code, 3, (some .int)), (⟨"ShareNetsModel", "weight", "(II)I"⟩, prog_14_method_76_code, 4, (some .int)), (⟨"ShareNetsModel", "givesOf", "(II)I"⟩, prog_14_method_77_code, 11, (some .int)), (⟨"ShareNetsModel", "gives", "(II)J"⟩, prog_14_method_78_code, 3, (some .long)), (⟨"ShareNetsModel", "value", "(III)J"⟩, prog_14_method_79_code, 7, (some .long)), (⟨"ShareNetsModel", "valueAt", "(II)J"⟩, prog_14_method_80_code, 6, (some .long)), (⟨"ShareNetsModel", "findBound", "(II)Z"⟩, prog_14_method_81_code, 5, (some .boolean)), (⟨"ShareNetsModel", "isBound", "(II)Z"⟩, prog_14_method_82_code, 3, (some .boolean)), (⟨"ShareNetsModel", "bound", "(III)J"⟩, prog_14_method_83_code, 4, (some .long))], [(⟨"ShareNetsModel", "slack", "(IIII)J"⟩, prog_14_method_84_code, 5, (some .long)), (⟨"ShareNetsModel", "tight", "(II)I"⟩, prog_14_method_85_code, 5, (some .int)), (⟨"ShareNetsModel", "met", "(II)I"⟩, prog_14_method_86_code, 3, (some .int)), (⟨"ShareNetsModel", "findRows", "(II)V"⟩, prog_14_method_87_code, 5, none), (⟨"ShareNetsModel", "prove", "(II)I"⟩, prog_14_method_88_code, 4, (some .int)), (⟨"ShareNetsModel", "isRow", "(II)Z"⟩, prog_14_method_89_code, 3, (some .boolean)), (⟨"ShareNetsModel", "row", "(II)I"⟩, prog_14_method_90_code, 3, (some .int)), (⟨"ShareNetsModel", "alterRow", "(III)I"⟩, prog_14_method_91_code, 5, (some .int)), (⟨"ShareNetsModel", "judge", "(II)I"⟩, prog_14_method_92_code, 4, (some .int)), (⟨"ShareNetsModel", "isShelf", "(I)Z"⟩, prog_14_method_93_code, 1, (some .boolean)), (⟨"ShareNetsModel", "sheet", "(III)I"⟩, prog_14_method_94_code, 5, (some .int)), (⟨"ShareNetsModel", "put", "(III)I"⟩, prog_14_method_95_code, 4, (some .int)), (⟨"ShareNetsModel", "lacksSort", "(II)I"⟩, prog_14_method_96_code, 3, (some .int)), (⟨"ShareNetsModel", "item", "(III)I"⟩, prog_14_method_97_code, 5, (some .int)), (⟨"ShareNetsModel", "isHeld", "(II)Z"⟩, prog_14_method_98_code, 3, (some .boolean)), (⟨"ShareNetsModel", "shelf", "(III)I"⟩, prog_14_method_99_code, 4, (some .int))], [(⟨"ShareNetsModel", "kindOn", "(I)I"⟩, prog_14_method_100_code, 2, (some .int)), (⟨"ShareNetsModel", "isUnder", "(II)Z"⟩, prog_14_method_101_code, 2, (some .boolean)), (⟨"ShareNetsModel", "taken", "(II)I"⟩, prog_14_method_102_code, 4, (some .int)), (⟨"ShareNetsModel", "ran", "(I)V"⟩, prog_14_method_103_code, 2, none), (⟨"ShareNetsModel", "countsIt", "(I)I"⟩, prog_14_method_104_code, 4, (some .int)), (⟨"ShareNetsModel", "plainJoins", "(I)I"⟩, prog_14_method_105_code, 2, (some .int)), (⟨"ShareNetsModel", "sumJoins", "(I)I"⟩, prog_14_method_106_code, 2, (some .int)), (⟨"ShareNetsModel", "joinsIt", "(I)I"⟩, prog_14_method_107_code, 3, (some .int)), (⟨"ShareNetsModel", "plainParts", "(I)I"⟩, prog_14_method_108_code, 2, (some .int)), (⟨"ShareNetsModel", "partsIt", "(I)I"⟩, prog_14_method_109_code, 2, (some .int)), (⟨"ShareNetsModel", "plainTells", "(I)I"⟩, prog_14_method_110_code, 2, (some .int)), (⟨"ShareNetsModel", "tellsIt", "(I)I"⟩, prog_14_method_111_code, 2, (some .int)), (⟨"ShareNetsModel", "act", "(III)I"⟩, prog_14_method_112_code, 6, (some .int)), (⟨"ShareNetsModel", "trace", "(I)I"⟩, prog_14_method_113_code, 2, (some .int)), (⟨"ShareNetsModel", "many", "(I)I"⟩, prog_14_method_114_code, 2, (some .int)), (⟨"ShareNetsModel", "move", "([IIZ)V"⟩, prog_14_method_115_code, 5, none)], [(⟨"ShareNetsModel", "moveAll", "(Z)V"⟩, prog_14_method_116_code, 2, none), (⟨"ShareNetsModel", "keep", "()I"⟩, prog_14_method_117_code, 1, (some .int)), (⟨"ShareNetsModel", "again", "()I"⟩, prog_14_method_118_code, 1, (some .int)), (⟨"java/lang/Integer", "bitCount", "(I)I"⟩, prog_15_method_49_code, 1, (some .int)), (⟨"java/lang/Math", "abs", "(J)J"⟩, prog_16_method_61_code, 2, (some .long)), (⟨"java/lang/Math", "max", "(II)I"⟩, prog_16_method_65_code, 2, (some .int)), (⟨"java/lang/String", "length", "()I"⟩, prog_17_method_54_code, 1, (some .int)), (⟨"java/lang/String", "charAt", "(I)C"⟩, prog_17_method_56_code, 2, (some .char)), (⟨"java/lang/String", "coder", "()B"⟩, prog_17_method_152_code, 1, (some .byte)), (⟨"java/lang/String", "isLatin1", "()Z"⟩, prog_17_method_154_code, 1, (some .boolean)), (⟨"java/lang/String", "checkIndex", "(II)V"⟩, prog_17_method_155_code, 2, none), (⟨"java/lang/StringLatin1", "charAt", "([BI)C"⟩, prog_18_method_2_code, 2, (some .char)), (⟨"jdk/internal/util/Preconditions", "checkIndex", "(IILjava/util/function/BiFunction;)I"⟩, prog_20_method_11_code, 3, (some .int)), (⟨"ShareNetsLaw", "law", "([I)Z"⟩, code, 4, (some .boolean))]] : List (List (MethodName × ByteArray × Nat × Option FieldType))).getD (y / 16) []).getD (y % 16) (⟨"", "", ""⟩, ⟨#[]⟩, 0, none))
def z_ml (y : Nat) : Nat := ((([[4, 3, 3, 1, 3, 2, 4, 3, 4, 4, 3, 5, 3, 9, 7, 6], [5, 3, 1, 3, 3, 4, 3, 4, 4, 3, 3, 5, 3, 3, 4, 3], [1, 4, 2, 4, 3, 3, 5, 3, 3, 1, 4, 8, 6, 1, 5, 2], [3, 9, 4, 2, 4, 2, 1, 1, 2, 3, 3, 1, 1, 2, 2, 3], [3, 1, 2, 4, 3, 3, 5, 4, 6, 2, 5, 3, 3, 5, 7, 8], [6, 2, 2, 7, 2, 6, 2, 5, 1, 2, 7, 6, 8, 3, 5, 4], [4, 3, 7, 6, 5, 6, 7, 7, 4, 3, 6, 5, 4, 5, 5, 5], [5, 6, 2, 2, 1, 1, 1, 3, 2, 1, 1, 1, 1, 3, 1, 1], [3, 2, 4, 7, 11, 4, 9, 8, 5, 3, 3, 4, 5, 7, 7, 5], [3, 2, 3, 4, 2, 3, 6, 4, 6, 6, 4, 2, 2, 6, 3, 1], [2, 7, 1, 1, 3, 2, 3, 4, 5, 4, 3, 4, 5, 2, 1, 1], [2, 3, 4, 1, 3, 3, 6, 3, 3, 6, 3, 6, 3, 5, 5, 3], [3, 9, 8, 4, 4, 4, 11, 2, 5, 5, 5, 6, 4, 5, 5, 2], [4, 2, 7, 3, 5, 2, 3, 8, 11, 5, 4, 2, 1, 4, 1, 6], [8, 5, 7, 3, 2, 3, 5, 3, 4, 11, 3, 7, 6, 5, 3, 4], [5, 5, 3, 5, 4, 3, 3, 5, 4, 1, 5, 4, 3, 5, 3, 4], [2, 2, 4, 2, 4, 2, 2, 3, 2, 2, 2, 2, 6, 2, 2, 5], [2, 1, 1, 1, 2, 2, 1, 2, 1, 1, 2, 2, 3, 4]] : List (List Nat)).getD (y / 16) []).getD (y % 16) 0)
