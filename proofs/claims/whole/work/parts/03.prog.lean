/-! the program as data: classes (fields in order), methods (class, name, code, locals, answer), blocks (where each starts, what is in it), the tables' words in use -/
def mj_T0 : u_T := fun k => match k with
  | 0 => ("FarSide$Asker", "known", "[I", true)
  | 1 => ("FarSide$Asker", "stack", "[I", true)
  | _ => ("FarSide$Asker", "top", "I", false)
def mj_y0 : Nat → FieldType := fun k => match k with
  | 0 => .array .int
  | 1 => .array .int
  | _ => .int
def mj_T1 : u_T := fun k => match k with
  | 0 => ("FarSide$Day", "hoursOf", "[I", true)
  | 1 => ("FarSide$Day", "counts", "[I", true)
  | _ => ("FarSide$Day", "fewest", "[I", true)
def mj_y1 : Nat → FieldType := fun k => match k with
  | 0 => .array .int
  | 1 => .array .int
  | _ => .array .int
def mj_T2 : u_T := fun k => match k with
  | _ => ("FarSide$Folk", "row", "[I", true)
def mj_y2 : Nat → FieldType := fun k => match k with
  | _ => .array .int
def mj_T3 : u_T := fun k => match k with
  | 0 => ("FarSide$Land", "next", "[I", true)
  | 1 => ("FarSide$Land", "joys", "[I", true)
  | _ => ("FarSide$Land", "verdicts", "[I", true)
def mj_y3 : Nat → FieldType := fun k => match k with
  | 0 => .array .int
  | 1 => .array .int
  | _ => .array .int
def mj_T4 : u_T := fun k => match k with
  | 0 => ("FarSide$Ledger", "entries", "[I", true)
  | 1 => ("FarSide$Ledger", "rows", "[I", true)
  | 2 => ("FarSide$Ledger", "factors", "[I", true)
  | 3 => ("FarSide$Ledger", "count", "I", false)
  | _ => ("FarSide$Ledger", "rowCount", "I", false)
def mj_y4 : Nat → FieldType := fun k => match k with
  | 0 => .array .int
  | 1 => .array .int
  | 2 => .array .int
  | 3 => .int
  | _ => .int
def mj_T5 : u_T := fun k => match k with
  | 0 => ("FarSide$Outlook", "joys", "[I", true)
  | 1 => ("FarSide$Outlook", "worths", "[I", true)
  | 2 => ("FarSide$Outlook", "worthsBehind", "[I", true)
  | 3 => ("FarSide$Outlook", "chances", "[J", true)
  | 4 => ("FarSide$Outlook", "depth", "I", false)
  | _ => ("FarSide$Outlook", "stock", "I", false)
def mj_y5 : Nat → FieldType := fun k => match k with
  | 0 => .array .int
  | 1 => .array .int
  | 2 => .array .int
  | 3 => .array .long
  | 4 => .int
  | _ => .int
def mj_T6 : u_T := fun k => match k with
  | 0 => ("FarSide$Reader", "tape", "LFarSide$Tape;", true)
  | 1 => ("FarSide$Reader", "code", "[I", true)
  | 2 => ("FarSide$Reader", "clauses", "[I", true)
  | 3 => ("FarSide$Reader", "bites", "[I", false)
  | 4 => ("FarSide$Reader", "returns", "[I", false)
  | 5 => ("FarSide$Reader", "size", "I", false)
  | 6 => ("FarSide$Reader", "clauseCount", "I", false)
  | 7 => ("FarSide$Reader", "clauseKind", "I", false)
  | 8 => ("FarSide$Reader", "fault", "I", false)
  | _ => ("FarSide$Reader", "faultPlace", "I", false)
def mj_y6 : Nat → FieldType := fun k => match k with
  | 0 => .object "FarSide$Tape"
  | 1 => .array .int
  | 2 => .array .int
  | 3 => .array .int
  | 4 => .array .int
  | 5 => .int
  | 6 => .int
  | 7 => .int
  | 8 => .int
  | _ => .int
def mj_T7 : u_T := fun k => match k with
  | 0 => ("FarSide$Steps", "rows", "[I", true)
  | 1 => ("FarSide$Steps", "next", "I", false)
  | _ => ("FarSide$Steps", "count", "I", false)
def mj_y7 : Nat → FieldType := fun k => match k with
  | 0 => .array .int
  | 1 => .int
  | _ => .int
def mj_T8 : u_T := fun k => match k with
  | 0 => ("FarSide$Tape", "bytes", "[C", true)
  | 1 => ("FarSide$Tape", "kinds", "[I", true)
  | 2 => ("FarSide$Tape", "values", "[I", true)
  | 3 => ("FarSide$Tape", "starts", "[I", true)
  | 4 => ("FarSide$Tape", "length", "I", false)
  | 5 => ("FarSide$Tape", "tokens", "I", false)
  | _ => ("FarSide$Tape", "token", "I", false)
def mj_y8 : Nat → FieldType := fun k => match k with
  | 0 => .array .char
  | 1 => .array .int
  | 2 => .array .int
  | 3 => .array .int
  | 4 => .int
  | 5 => .int
  | _ => .int
def mj_T9 : u_T := fun k => match k with
  | 0 => ("FarSide$Text", "bites", "[I", true)
  | 1 => ("FarSide$Text", "returns", "[I", true)
  | _ => ("FarSide$Text", "clauses", "[I", true)
def mj_y9 : Nat → FieldType := fun k => match k with
  | 0 => .array .int
  | 1 => .array .int
  | _ => .array .int
def mj_T10 : u_T := fun k => match k with
  | 0 => ("FarSide$World", "land", "LFarSide$Land;", true)
  | 1 => ("FarSide$World", "folk", "LFarSide$Folk;", true)
  | 2 => ("FarSide$World", "day", "LFarSide$Day;", true)
  | 3 => ("FarSide$World", "ledger", "LFarSide$Ledger;", true)
  | 4 => ("FarSide$World", "steps", "LFarSide$Steps;", true)
  | 5 => ("FarSide$World", "texts", "[LFarSide$Text;", true)
  | 6 => ("FarSide$World", "saidWho", "[I", true)
  | 7 => ("FarSide$World", "saidReturns", "[I", true)
  | 8 => ("FarSide$World", "asker", "LFarSide$Asker;", true)
  | 9 => ("FarSide$World", "textCount", "I", false)
  | 10 => ("FarSide$World", "ruling", "I", false)
  | _ => ("FarSide$World", "saidCount", "I", false)
def mj_y10 : Nat → FieldType := fun k => match k with
  | 0 => .object "FarSide$Land"
  | 1 => .object "FarSide$Folk"
  | 2 => .object "FarSide$Day"
  | 3 => .object "FarSide$Ledger"
  | 4 => .object "FarSide$Steps"
  | 5 => .array (.object "FarSide$Text")
  | 6 => .array .int
  | 7 => .array .int
  | 8 => .object "FarSide$Asker"
  | 9 => .int
  | 10 => .int
  | _ => .int
def mj_T11 : u_T := fun k => match k with
  | 0 => ("FarSide", "now", "LFarSide$World;", true)
  | 1 => ("FarSide", "kept", "LFarSide$World;", true)
  | 2 => ("FarSide", "foreseen", "LFarSide$Folk;", true)
  | 3 => ("FarSide", "tape", "LFarSide$Tape;", true)
  | 4 => ("FarSide", "reader", "LFarSide$Reader;", true)
  | _ => ("FarSide", "outlook", "LFarSide$Outlook;", true)
def mj_y11 : Nat → FieldType := fun k => match k with
  | 0 => .object "FarSide$World"
  | 1 => .object "FarSide$World"
  | 2 => .object "FarSide$Folk"
  | 3 => .object "FarSide$Tape"
  | 4 => .object "FarSide$Reader"
  | _ => .object "FarSide$Outlook"
def mj_T12 : u_T := fun k => match k with
  | 0 => ("FarSideModel", "a", "[I", true)
  | 1 => ("FarSideModel", "image", "[I", true)
  | 2 => ("FarSideModel", "texts", "[I", true)
  | 3 => ("FarSideModel", "tape", "[I", true)
  | 4 => ("FarSideModel", "taped", "I", false)
  | 5 => ("FarSideModel", "fault", "I", false)
  | 6 => ("FarSideModel", "faultPlace", "I", false)
  | 7 => ("FarSideModel", "at", "I", false)
  | 8 => ("FarSideModel", "spotRead", "I", false)
  | 9 => ("FarSideModel", "token", "I", false)
  | 10 => ("FarSideModel", "number", "I", false)
  | 11 => ("FarSideModel", "word", "J", false)
  | 12 => ("FarSideModel", "text0", "I", false)
  | 13 => ("FarSideModel", "written", "I", false)
  | 14 => ("FarSideModel", "sort0", "I", false)
  | 15 => ("FarSideModel", "pile", "[I", true)
  | 16 => ("FarSideModel", "piled", "I", false)
  | 17 => ("FarSideModel", "opens", "I", false)
  | 18 => ("FarSideModel", "isWhole", "Z", false)
  | 19 => ("FarSideModel", "once", "I", false)
  | 20 => ("FarSideModel", "named", "[I", true)
  | 21 => ("FarSideModel", "values", "[J", true)
  | 22 => ("FarSideModel", "truth", "[Z", true)
  | 23 => ("FarSideModel", "isWritten", "Z", false)
  | 24 => ("FarSideModel", "cameBack", "I", false)
  | 25 => ("FarSideModel", "aside", "[I", true)
  | 26 => ("FarSideModel", "games", "[I", true)
  | 27 => ("FarSideModel", "fewest", "[I", true)
  | 28 => ("FarSideModel", "rows", "[I", true)
  | 29 => ("FarSideModel", "pivots", "[I", true)
  | 30 => ("FarSideModel", "factors", "[I", true)
  | 31 => ("FarSideModel", "worths", "[I", true)
  | _ => ("FarSideModel", "ways", "[J", true)
def mj_y12 : Nat → FieldType := fun k => match k with
  | 0 => .array .int
  | 1 => .array .int
  | 2 => .array .int
  | 3 => .array .int
  | 4 => .int
  | 5 => .int
  | 6 => .int
  | 7 => .int
  | 8 => .int
  | 9 => .int
  | 10 => .int
  | 11 => .long
  | 12 => .int
  | 13 => .int
  | 14 => .int
  | 15 => .array .int
  | 16 => .int
  | 17 => .int
  | 18 => .boolean
  | 19 => .int
  | 20 => .array .int
  | 21 => .array .long
  | 22 => .array .boolean
  | 23 => .boolean
  | 24 => .int
  | 25 => .array .int
  | 26 => .array .int
  | 27 => .array .int
  | 28 => .array .int
  | 29 => .array .int
  | 30 => .array .int
  | 31 => .array .int
  | _ => .array .long
def mj_cl : List vw_C := [("FarSide$Asker", mj_T0, 3), ("FarSide$Day", mj_T1, 3), ("FarSide$Folk", mj_T2, 1), ("FarSide$Land", mj_T3, 3), ("FarSide$Ledger", mj_T4, 5), ("FarSide$Outlook", mj_T5, 6), ("FarSide$Reader", mj_T6, 10), ("FarSide$Steps", mj_T7, 3), ("FarSide$Tape", mj_T8, 7), ("FarSide$Text", mj_T9, 3), ("FarSide$World", mj_T10, 12), ("FarSide", mj_T11, 6), ("FarSideModel", mj_T12, 33)]
/-- a class by its number (13: the law's) -/
def mj_cc (k : Nat) : vw_C := match k with
  | 0 => ("FarSide$Asker", mj_T0, 3)
  | 1 => ("FarSide$Day", mj_T1, 3)
  | 2 => ("FarSide$Folk", mj_T2, 1)
  | 3 => ("FarSide$Land", mj_T3, 3)
  | 4 => ("FarSide$Ledger", mj_T4, 5)
  | 5 => ("FarSide$Outlook", mj_T5, 6)
  | 6 => ("FarSide$Reader", mj_T6, 10)
  | 7 => ("FarSide$Steps", mj_T7, 3)
  | 8 => ("FarSide$Tape", mj_T8, 7)
  | 9 => ("FarSide$Text", mj_T9, 3)
  | 10 => ("FarSide$World", mj_T10, 12)
  | 11 => ("FarSide", mj_T11, 6)
  | 12 => ("FarSideModel", mj_T12, 33)
  | 14 => ("java/lang/Integer", mj_T0, 0)
  | 15 => ("java/util/Arrays", mj_T0, 0)
  | 16 => ("java/lang/String", mj_T0, 0)
  | 17 => ("java/lang/StringLatin1", mj_T0, 0)
  | 18 => ("jdk/internal/util/Preconditions", mj_T0, 0)
  | _ => ("FarSideLaw", mj_T0, 0)
def mj_cn (k : Nat) : String := (mj_cc k).1
def mj_yt (c : Nat) : Nat → FieldType := match c with
  | 0 => mj_y0
  | 1 => mj_y1
  | 2 => mj_y2
  | 3 => mj_y3
  | 4 => mj_y4
  | 5 => mj_y5
  | 6 => mj_y6
  | 7 => mj_y7
  | 8 => mj_y8
  | 9 => mj_y9
  | 10 => mj_y10
  | 11 => mj_y11
  | _ => mj_y12
/-- the fields of a new object -/
def mj_df (c : Nat) : List Value := match c with
  | 0 => [.null, .null, .int 0]
  | 1 => [.null, .null, .null]
  | 2 => [.null]
  | 3 => [.null, .null, .null]
  | 4 => [.null, .null, .null, .int 0, .int 0]
  | 5 => [.null, .null, .null, .null, .int 0, .int 0]
  | 6 => [.null, .null, .null, .null, .null, .int 0, .int 0, .int 0, .int 0, .int 0]
  | 7 => [.null, .int 0, .int 0]
  | 8 => [.null, .null, .null, .null, .int 0, .int 0, .int 0]
  | 9 => [.null, .null, .null]
  | 10 => [.null, .null, .null, .null, .null, .null, .null, .null, .null, .int 0, .int 0, .int 0]
  | 11 => [.null, .null, .null, .null, .null, .null]
  | _ => [.null, .null, .null, .null, .int 0, .int 0, .int 0, .int 0, .int 0, .int 0, .int 0, .long 0, .int 0, .int 0, .int 0, .null, .int 0, .int 0, .int 0, .int 0, .null, .null, .null, .int 0, .int 0, .null, .null, .null, .null, .null, .null, .null, .null]
def mj_fk (c : Nat) : List (Bool × Nat) := match c with
  | 0 => [(true, 3), (true, 3), (false, 0)]
  | 1 => [(true, 3), (true, 3), (true, 3)]
  | 2 => [(true, 3)]
  | 3 => [(true, 3), (true, 3), (true, 3)]
  | 4 => [(true, 3), (true, 3), (true, 3), (false, 0), (false, 0)]
  | 5 => [(true, 3), (true, 3), (true, 3), (true, 3), (false, 0), (false, 0)]
  | 6 => [(true, 3), (true, 3), (true, 3), (false, 3), (false, 3), (false, 0), (false, 0), (false, 0), (false, 0), (false, 0)]
  | 7 => [(true, 3), (false, 0), (false, 0)]
  | 8 => [(true, 3), (true, 3), (true, 3), (true, 3), (false, 0), (false, 0), (false, 0)]
  | 9 => [(true, 3), (true, 3), (true, 3)]
  | 10 => [(true, 3), (true, 3), (true, 3), (true, 3), (true, 3), (true, 3), (true, 3), (true, 3), (true, 3), (false, 0), (false, 0), (false, 0)]
  | 11 => [(true, 3), (true, 3), (true, 3), (true, 3), (true, 3), (true, 3)]
  | 12 => [(true, 3), (true, 3), (true, 3), (true, 3), (false, 0), (false, 0), (false, 0), (false, 0), (false, 0), (false, 0), (false, 0), (false, 2), (false, 0), (false, 0), (false, 0), (true, 3), (false, 0), (false, 0), (false, 1), (false, 0), (true, 3), (true, 3), (true, 3), (false, 1), (false, 0), (true, 3), (true, 3), (true, 3), (true, 3), (true, 3), (true, 3), (true, 3), (true, 3)]
  | _ => []
/-- a descriptor by its number, and how many parameters it has -/
def mj_ds : List (String × Nat) := [
  ("()B", 0),
  ("()I", 0),
  ("()LFarSide$Text;", 0),
  ("()V", 0),
  ("()Z", 0),
  ("(C)Z", 1),
  ("(I)C", 1),
  ("(I)I", 1),
  ("(I)LFarSide$Text;", 1),
  ("(I)V", 1),
  ("(I)Z", 1),
  ("(II)I", 2),
  ("(II)J", 2),
  ("(II)V", 2),
  ("(II)Z", 2),
  ("(III)I", 3),
  ("(III)J", 3),
  ("(III)V", 3),
  ("(III)Z", 3),
  ("(IIII)I", 4),
  ("(IIII)J", 4),
  ("(IIII)V", 4),
  ("(IIIII)I", 5),
  ("(IIIII)J", 5),
  ("(IIIIII)J", 6),
  ("(IIIIZ)J", 5),
  ("(IIIZ)J", 4),
  ("(IIJI)I", 4),
  ("(IILFarSide$Folk;LFarSide$Land;)I", 4),
  ("(IILFarSide$Land;)I", 3),
  ("(IILFarSide$Land;)V", 3),
  ("(IILjava/util/function/BiFunction;)I", 3),
  ("(IIZ)I", 3),
  ("(IIZ)Z", 3),
  ("(IJ)J", 2),
  ("(IJJ)J", 3),
  ("(IJJ)Z", 3),
  ("(ILFarSide$Land;)I", 2),
  ("(IZ)I", 2),
  ("(IZZ)Z", 3),
  ("(J)J", 1),
  ("(J)Z", 1),
  ("(JII)I", 3),
  ("(JJ)J", 2),
  ("(LFarSide$Asker;)V", 1),
  ("(LFarSide$Day;)V", 1),
  ("(LFarSide$Folk;)I", 1),
  ("(LFarSide$Folk;)V", 1),
  ("(LFarSide$Folk;LFarSide$Land;I)V", 3),
  ("(LFarSide$Folk;LFarSide$Land;II)V", 4),
  ("(LFarSide$Folk;Z)I", 2),
  ("(LFarSide$Land;)I", 1),
  ("(LFarSide$Land;)V", 1),
  ("(LFarSide$Ledger;)V", 1),
  ("(LFarSide$Steps;)V", 1),
  ("(LFarSide$Tape;)V", 1),
  ("(LFarSide$Text;)I", 1),
  ("(LFarSide$Text;)Z", 1),
  ("(LFarSide$Text;I)Z", 2),
  ("(LFarSide$Text;LFarSide$Folk;LFarSide$Land;I)I", 4),
  ("(LFarSide$World;)V", 1),
  ("(Z)I", 1),
  ("(Z)V", 1),
  ("([BI)C", 2),
  ("([BIII)I", 4),
  ("([I)Z", 1),
  ("([II)V", 2),
  ("([II)[I", 2),
  ("([ILFarSide$Folk;LFarSide$Land;)I", 3),
  ("([I[I)V", 2),
  ("([I[I[I)V", 3),
  ("([JJ)V", 2)]
/-- a method: its class, its name ("": it is a constructor), its descriptor, whether it is static; its code, its locals, what it answers -/
abbrev mj_M : Type := (Nat × String × Nat × Bool) × ByteArray × Nat × Option FieldType
def mj_ms0 : List mj_M := [
  ((0, "", 3, false), prog_2_method_1_code, 1, none),
  ((0, "bitesOf", 59, false), prog_2_method_2_code, 5, some .int),
  ((0, "returnsOf", 59, false), prog_2_method_3_code, 5, some .int),
  ((0, "learn", 48, false), prog_2_method_4_code, 5, none),
  ((0, "know", 13, false), prog_2_method_5_code, 3, none),
  ((0, "work", 68, false), prog_2_method_6_code, 9, some .int),
  ((0, "push", 9, false), prog_2_method_7_code, 2, none),
  ((0, "pop", 1, false), prog_2_method_8_code, 1, some .int),
  ((0, "isOfOne", 10, true), prog_2_method_9_code, 1, some .boolean),
  ((0, "ofOne", 28, true), prog_2_method_10_code, 4, some .int),
  ((0, "ofTwo", 15, true), prog_2_method_11_code, 3, some .int),
  ((0, "truth", 61, true), prog_2_method_12_code, 1, some .int)]
def mj_ms1 : List mj_M := [
  ((1, "", 3, false), prog_3_method_1_code, 1, none),
  ((1, "copy", 45, false), prog_3_method_2_code, 2, none),
  ((1, "countOf", 7, false), prog_3_method_3_code, 2, some .int),
  ((1, "tell", 15, false), prog_3_method_4_code, 4, some .int),
  ((1, "isSpan", 14, true), prog_3_method_5_code, 2, some .boolean),
  ((1, "span", 11, true), prog_3_method_6_code, 2, some .int),
  ((1, "planPart", 11, false), prog_3_method_7_code, 4, some .int),
  ((1, "fewestNeeded", 1, false), prog_3_method_8_code, 2, some .int),
  ((1, "mostNeeded", 1, false), prog_3_method_9_code, 2, some .int),
  ((1, "count", 9, false), prog_3_method_10_code, 6, none),
  ((1, "withBite", 11, false), prog_3_method_11_code, 4, some .int),
  ((1, "hourOfBite", 11, false), prog_3_method_12_code, 5, some .int)]
def mj_ms2 : List mj_M := [
  ((2, "", 3, false), prog_4_method_1_code, 1, none),
  ((2, "copy", 47, false), prog_4_method_2_code, 2, none),
  ((2, "writeTo", 66, false), prog_4_method_3_code, 3, none),
  ((2, "readFrom", 66, false), prog_4_method_4_code, 5, none),
  ((2, "get", 7, false), prog_4_method_5_code, 2, some .int),
  ((2, "has", 10, false), prog_4_method_6_code, 2, some .boolean),
  ((2, "part", 11, false), prog_4_method_7_code, 3, some .int),
  ((2, "at", 11, false), prog_4_method_8_code, 3, some .int),
  ((2, "tell", 11, false), prog_4_method_9_code, 4, some .int),
  ((2, "placeOf", 37, false), prog_4_method_10_code, 3, some .int),
  ((2, "peopleAt", 37, false), prog_4_method_11_code, 5, some .int),
  ((2, "total", 7, false), prog_4_method_12_code, 4, some .int),
  ((2, "draw", 1, false), prog_4_method_13_code, 2, some .int),
  ((2, "startLuck", 9, false), prog_4_method_14_code, 2, none),
  ((2, "goDeeper", 37, false), prog_4_method_15_code, 3, some .int),
  ((2, "comeUp", 37, false), prog_4_method_16_code, 3, some .int),
  ((2, "goOver", 30, false), prog_4_method_17_code, 4, none),
  ((2, "addCloves", 13, false), prog_4_method_18_code, 3, none),
  ((2, "stay", 9, false), prog_4_method_19_code, 2, none),
  ((2, "endHour", 3, false), prog_4_method_20_code, 1, none),
  ((2, "arrive", 29, false), prog_4_method_21_code, 5, some .int),
  ((2, "write", 9, false), prog_4_method_22_code, 2, none),
  ((2, "linePart", 11, false), prog_4_method_23_code, 4, some .int),
  ((2, "linesOf", 7, false), prog_4_method_24_code, 4, some .int),
  ((2, "deepestPerson", 1, false), prog_4_method_25_code, 4, some .int),
  ((2, "peopleAway", 1, false), prog_4_method_26_code, 3, some .int),
  ((2, "peopleAlone", 51, false), prog_4_method_27_code, 4, some .int),
  ((2, "gladdestPerson", 51, false), prog_4_method_28_code, 6, some .int)]
def mj_ms3 : List mj_M := [
  ((3, "", 3, false), prog_5_method_1_code, 2, none),
  ((3, "copy", 52, false), prog_5_method_2_code, 2, none),
  ((3, "tellNext", 13, false), prog_5_method_3_code, 3, none),
  ((3, "tellJoy", 13, false), prog_5_method_4_code, 3, none),
  ((3, "nextOf", 7, false), prog_5_method_5_code, 2, some .int),
  ((3, "joyOf", 7, false), prog_5_method_6_code, 2, some .int),
  ((3, "further", 11, false), prog_5_method_7_code, 6, some .int),
  ((3, "ringLength", 7, false), prog_5_method_8_code, 3, some .int),
  ((3, "wayToRing", 7, false), prog_5_method_9_code, 3, some .int),
  ((3, "countRings", 1, false), prog_5_method_10_code, 3, some .int),
  ((3, "isLowestOfRing", 10, false), prog_5_method_11_code, 4, some .boolean),
  ((3, "placesLeft", 7, false), prog_5_method_12_code, 4, some .int),
  ((3, "placesInto", 7, false), prog_5_method_13_code, 4, some .int),
  ((3, "meetingPart", 15, false), prog_5_method_14_code, 6, some .int),
  ((3, "verdict", 7, false), prog_5_method_15_code, 2, some .int),
  ((3, "winningMove", 7, false), prog_5_method_16_code, 2, some .int),
  ((3, "judge", 3, false), prog_5_method_17_code, 3, none),
  ((3, "judged", 7, false), prog_5_method_18_code, 3, some .int),
  ((3, "moveThatWins", 7, false), prog_5_method_19_code, 4, some .int)]
def mj_ms4 : List mj_M := [
  ((4, "", 3, false), prog_6_method_1_code, 1, none),
  ((4, "copy", 53, false), prog_6_method_2_code, 2, none),
  ((4, "count", 1, false), prog_6_method_3_code, 1, some .int),
  ((4, "tell", 7, false), prog_6_method_4_code, 2, some .int),
  ((4, "lawPart", 7, false), prog_6_method_5_code, 3, some .int),
  ((4, "lawsOf", 7, false), prog_6_method_6_code, 5, some .int),
  ((4, "leastLength", 1, false), prog_6_method_7_code, 2, some .int),
  ((4, "nextEntry", 7, false), prog_6_method_8_code, 4, some .int),
  ((4, "solve", 7, false), prog_6_method_9_code, 4, some .int),
  ((4, "fillRows", 9, false), prog_6_method_10_code, 4, none),
  ((4, "clearColumn", 18, false), prog_6_method_11_code, 7, some .boolean),
  ((4, "swap", 17, false), prog_6_method_12_code, 6, none),
  ((4, "subtract", 21, false), prog_6_method_13_code, 7, none),
  ((4, "readFactors", 13, false), prog_6_method_14_code, 5, none)]
def mj_ms5 : List mj_M := [
  ((5, "", 3, false), prog_7_method_1_code, 1, none),
  ((5, "weigh", 49, false), prog_7_method_2_code, 7, none),
  ((5, "worthHere", 1, false), prog_7_method_3_code, 1, some .int),
  ((5, "firstChoice", 1, false), prog_7_method_4_code, 3, some .int),
  ((5, "bestWorth", 11, false), prog_7_method_5_code, 4, some .int),
  ((5, "worthOf", 15, false), prog_7_method_6_code, 7, some .int),
  ((5, "chancePart", 25, false), prog_7_method_7_code, 10, some .long),
  ((5, "spread", 9, false), prog_7_method_8_code, 5, none),
  ((5, "hoursPart", 32, false), prog_7_method_9_code, 6, some .int),
  ((5, "commonFactor", 43, true), prog_7_method_10_code, 11, some .long)]
def mj_ms6 : List mj_M := [
  ((6, "", 55, false), prog_8_method_1_code, 2, none),
  ((6, "faultPart", 7, false), prog_8_method_2_code, 2, some .int),
  ((6, "reads", 4, false), prog_8_method_3_code, 2, some .boolean),
  ((6, "result", 2, false), prog_8_method_4_code, 1, some (.object "FarSide$Text")),
  ((6, "fail", 9, false), prog_8_method_5_code, 2, none),
  ((6, "expect", 9, false), prog_8_method_6_code, 2, none),
  ((6, "readNumber", 11, false), prog_8_method_7_code, 4, some .int),
  ((6, "emit", 11, false), prog_8_method_8_code, 3, some .int),
  ((6, "leadHere", 9, false), prog_8_method_9_code, 2, none),
  ((6, "readClause", 3, false), prog_8_method_10_code, 2, none),
  ((6, "startsClause", 4, false), prog_8_method_11_code, 1, some .boolean),
  ((6, "readLaw", 3, false), prog_8_method_12_code, 2, none),
  ((6, "readDeed", 3, false), prog_8_method_13_code, 3, none),
  ((6, "keepClause", 13, false), prog_8_method_14_code, 4, none),
  ((6, "readSum", 9, false), prog_8_method_15_code, 4, none),
  ((6, "readProduct", 9, false), prog_8_method_16_code, 4, none),
  ((6, "readOne", 9, false), prog_8_method_17_code, 3, none),
  ((6, "opensOne", 10, true), prog_8_method_18_code, 1, some .boolean),
  ((6, "readName", 9, false), prog_8_method_19_code, 2, none),
  ((6, "readOpened", 13, false), prog_8_method_20_code, 3, none),
  ((6, "readChoice", 9, false), prog_8_method_21_code, 4, none),
  ((6, "readEither", 9, false), prog_8_method_22_code, 3, none),
  ((6, "readBoth", 9, false), prog_8_method_23_code, 3, none),
  ((6, "readAsk", 9, false), prog_8_method_24_code, 2, none),
  ((6, "readComparison", 9, false), prog_8_method_25_code, 3, none),
  ((6, "compares", 10, true), prog_8_method_26_code, 1, some .boolean)]
def mj_ms7 : List mj_M := [
  ((7, "", 3, false), prog_9_method_1_code, 1, none),
  ((7, "copy", 54, false), prog_9_method_2_code, 2, none),
  ((7, "size", 1, false), prog_9_method_3_code, 1, some .int),
  ((7, "remember", 47, false), prog_9_method_4_code, 2, none),
  ((7, "takeBackFrom", 46, false), prog_9_method_5_code, 2, some .int)]
def mj_ms8 : List mj_M := [
  ((8, "", 3, false), prog_10_method_1_code, 1, none),
  ((8, "length", 1, false), prog_10_method_2_code, 1, some .int),
  ((8, "hasRoom", 4, false), prog_10_method_3_code, 1, some .boolean),
  ((8, "append", 9, false), prog_10_method_4_code, 3, none),
  ((8, "cut", 9, false), prog_10_method_5_code, 2, none),
  ((8, "kind", 1, false), prog_10_method_6_code, 1, some .int),
  ((8, "value", 1, false), prog_10_method_7_code, 1, some .int),
  ((8, "start", 1, false), prog_10_method_8_code, 1, some .int),
  ((8, "advance", 3, false), prog_10_method_9_code, 1, none),
  ((8, "scan", 3, false), prog_10_method_10_code, 3, none),
  ((8, "scanToken", 7, false), prog_10_method_11_code, 4, some .int),
  ((8, "keep", 17, false), prog_10_method_12_code, 4, none),
  ((8, "numberFrom", 11, false), prog_10_method_13_code, 5, some .int),
  ((8, "wordKind", 11, false), prog_10_method_14_code, 6, some .int),
  ((8, "isWord", 18, false), prog_10_method_15_code, 5, some .boolean),
  ((8, "isBlank", 5, true), prog_10_method_16_code, 1, some .boolean),
  ((8, "isLetter", 5, true), prog_10_method_17_code, 1, some .boolean),
  ((8, "isDigit", 5, true), prog_10_method_18_code, 1, some .boolean)]
def mj_ms9 : List mj_M := [
  ((9, "", 70, false), prog_11_method_1_code, 4, none),
  ((9, "clauseCount", 1, false), prog_11_method_2_code, 1, some .int),
  ((9, "clausePart", 11, false), prog_11_method_3_code, 4, some .int)]
def mj_ms10 : List mj_M := [
  ((10, "", 44, false), prog_12_method_1_code, 2, none),
  ((10, "copy", 60, false), prog_12_method_2_code, 3, none),
  ((10, "textCount", 1, false), prog_12_method_3_code, 1, some .int),
  ((10, "ruling", 1, false), prog_12_method_4_code, 1, some .int),
  ((10, "saidCount", 1, false), prog_12_method_5_code, 1, some .int),
  ((10, "stepCount", 1, false), prog_12_method_6_code, 1, some .int),
  ((10, "hasText", 10, false), prog_12_method_7_code, 2, some .boolean),
  ((10, "keepText", 56, false), prog_12_method_8_code, 2, some .int),
  ((10, "rule", 9, false), prog_12_method_9_code, 2, none),
  ((10, "textOf", 8, false), prog_12_method_10_code, 2, some (.object "FarSide$Text")),
  ((10, "bitesNow", 7, false), prog_12_method_11_code, 2, some .int),
  ((10, "returnsNow", 7, false), prog_12_method_12_code, 2, some .int),
  ((10, "takeBack", 1, false), prog_12_method_13_code, 1, some .int),
  ((10, "beginStep", 62, false), prog_12_method_14_code, 2, none),
  ((10, "bitten", 38, false), prog_12_method_15_code, 3, some .int),
  ((10, "comeBack", 38, false), prog_12_method_16_code, 3, some .int),
  ((10, "walked", 33, false), prog_12_method_17_code, 4, some .boolean),
  ((10, "bought", 14, false), prog_12_method_18_code, 3, some .boolean),
  ((10, "passHour", 50, false), prog_12_method_19_code, 6, some .int),
  ((10, "beginYears", 9, false), prog_12_method_20_code, 2, none),
  ((10, "liveOn", 3, false), prog_12_method_21_code, 5, none),
  ((10, "runClause", 58, false), prog_12_method_22_code, 6, some .boolean),
  ((10, "say", 11, false), prog_12_method_23_code, 3, some .int),
  ((10, "textsAsSaid", 1, false), prog_12_method_24_code, 3, some .int),
  ((10, "isAsSaid", 57, false), prog_12_method_25_code, 3, some .boolean)]
def mj_ms11 : List mj_M := [
  ((11, "", 3, false), prog_1_method_1_code, 2, none),
  ((11, "person", 11, false), prog_1_method_2_code, 3, some .int),
  ((11, "behind", 14, false), prog_1_method_3_code, 3, some .boolean),
  ((11, "joy", 14, false), prog_1_method_4_code, 3, some .boolean),
  ((11, "feed", 22, false), prog_1_method_5_code, 6, some .int),
  ((11, "end", 7, false), prog_1_method_6_code, 2, some .int),
  ((11, "text", 1, false), prog_1_method_7_code, 2, some .int),
  ((11, "fault", 7, false), prog_1_method_8_code, 2, some .int),
  ((11, "by", 10, false), prog_1_method_9_code, 2, some .boolean),
  ((11, "bite", 7, false), prog_1_method_10_code, 2, some .int),
  ((11, "come", 7, false), prog_1_method_11_code, 2, some .int),
  ((11, "walk", 14, false), prog_1_method_12_code, 3, some .boolean),
  ((11, "buy", 14, false), prog_1_method_13_code, 3, some .boolean),
  ((11, "hour", 7, false), prog_1_method_14_code, 4, some .int),
  ((11, "played", 7, false), prog_1_method_15_code, 4, some .int),
  ((11, "years", 11, false), prog_1_method_16_code, 4, some .int),
  ((11, "undo", 1, false), prog_1_method_17_code, 1, some .int),
  ((11, "of", 11, false), prog_1_method_18_code, 3, some .int),
  ((11, "place", 11, false), prog_1_method_19_code, 3, some .int),
  ((11, "is", 7, false), prog_1_method_20_code, 2, some .int),
  ((11, "book", 11, false), prog_1_method_21_code, 3, some .int),
  ((11, "foretold", 11, false), prog_1_method_22_code, 4, some .int),
  ((11, "after", 11, false), prog_1_method_23_code, 3, some .int),
  ((11, "ring", 38, false), prog_1_method_24_code, 3, some .int),
  ((11, "rings", 1, false), prog_1_method_25_code, 1, some .int),
  ((11, "left", 7, false), prog_1_method_26_code, 2, some .int),
  ((11, "into", 7, false), prog_1_method_27_code, 2, some .int),
  ((11, "meet", 15, false), prog_1_method_28_code, 4, some .int),
  ((11, "game", 7, false), prog_1_method_29_code, 2, some .int),
  ((11, "move", 7, false), prog_1_method_30_code, 2, some .int),
  ((11, "miss", 11, false), prog_1_method_31_code, 3, some .int),
  ((11, "meeting", 11, false), prog_1_method_32_code, 3, some .int),
  ((11, "plan", 11, false), prog_1_method_33_code, 3, some .int),
  ((11, "need", 7, false), prog_1_method_34_code, 2, some .int),
  ((11, "entry", 7, false), prog_1_method_35_code, 2, some .int),
  ((11, "law", 7, false), prog_1_method_36_code, 2, some .int),
  ((11, "fits", 7, false), prog_1_method_37_code, 2, some .int),
  ((11, "worth", 11, false), prog_1_method_38_code, 3, some .int),
  ((11, "best", 11, false), prog_1_method_39_code, 3, some .int),
  ((11, "likely", 26, false), prog_1_method_40_code, 6, some .long),
  ((11, "longing", 38, false), prog_1_method_41_code, 4, some .int),
  ((11, "said", 11, false), prog_1_method_42_code, 3, some .int),
  ((11, "whose", 1, false), prog_1_method_43_code, 1, some .int),
  ((11, "deepest", 1, false), prog_1_method_44_code, 1, some .int),
  ((11, "away", 1, false), prog_1_method_45_code, 1, some .int),
  ((11, "alone", 1, false), prog_1_method_46_code, 1, some .int),
  ((11, "gladdest", 1, false), prog_1_method_47_code, 1, some .int),
  ((11, "ledger", 7, false), prog_1_method_48_code, 2, some .int),
  ((11, "image", 1, false), prog_1_method_49_code, 1, some .int),
  ((11, "back", 1, false), prog_1_method_50_code, 1, some .int),
  ((11, "about", 7, false), prog_1_method_51_code, 2, some .int),
  ((11, "isPlace", 10, true), prog_1_method_52_code, 1, some .boolean),
  ((11, "areHours", 10, true), prog_1_method_53_code, 1, some .boolean),
  ((11, "within", 42, true), prog_1_method_54_code, 4, some .int)]
def mj_ms12 : List mj_M := [
  ((12, "", 3, false), prog_14_method_1_code, 2, none),
  ((12, "copy", 69, true), prog_14_method_2_code, 3, none),
  ((12, "isIn", 18, true), prog_14_method_3_code, 3, some .boolean),
  ((12, "held", 42, true), prog_14_method_4_code, 4, some .int),
  ((12, "has", 14, true), prog_14_method_5_code, 2, some .boolean),
  ((12, "bits", 7, true), prog_14_method_6_code, 3, some .int),
  ((12, "isPerson", 10, false), prog_14_method_7_code, 2, some .boolean),
  ((12, "isPlace", 10, true), prog_14_method_8_code, 1, some .boolean),
  ((12, "get", 11, false), prog_14_method_9_code, 3, some .int),
  ((12, "lay", 17, false), prog_14_method_10_code, 4, none),
  ((12, "afterOf", 11, false), prog_14_method_11_code, 5, some .int),
  ((12, "placeOf", 7, false), prog_14_method_12_code, 2, some .int),
  ((12, "peopleIn", 7, false), prog_14_method_13_code, 4, some .int),
  ((12, "person", 11, false), prog_14_method_14_code, 4, some .int),
  ((12, "begin", 9, false), prog_14_method_15_code, 2, none),
  ((12, "behind", 14, false), prog_14_method_16_code, 3, some .boolean),
  ((12, "joy", 14, false), prog_14_method_17_code, 3, some .boolean),
  ((12, "four", 9, false), prog_14_method_18_code, 3, none),
  ((12, "feed", 22, false), prog_14_method_19_code, 6, some .int),
  ((12, "end", 7, false), prog_14_method_20_code, 2, some .int),
  ((12, "byteAt", 7, false), prog_14_method_21_code, 2, some .int),
  ((12, "isLetterByte", 10, true), prog_14_method_22_code, 1, some .boolean),
  ((12, "isFigure", 10, true), prog_14_method_23_code, 1, some .boolean),
  ((12, "isSign", 10, true), prog_14_method_24_code, 1, some .boolean),
  ((12, "nextToken", 3, false), prog_14_method_25_code, 2, none),
  ((12, "w2", 12, true), prog_14_method_26_code, 2, some .long),
  ((12, "w3", 16, true), prog_14_method_27_code, 3, some .long),
  ((12, "w4", 20, true), prog_14_method_28_code, 4, some .long),
  ((12, "w5", 23, true), prog_14_method_29_code, 5, some .long),
  ((12, "w6", 24, true), prog_14_method_30_code, 6, some .long),
  ((12, "isWord", 41, false), prog_14_method_31_code, 3, some .boolean),
  ((12, "emit", 13, false), prog_14_method_32_code, 3, none),
  ((12, "isReturns", 4, false), prog_14_method_33_code, 1, some .boolean),
  ((12, "nameOf", 1, false), prog_14_method_34_code, 1, some .int),
  ((12, "isOf", 10, false), prog_14_method_35_code, 2, some .boolean),
  ((12, "rank", 7, true), prog_14_method_36_code, 1, some .int),
  ((12, "settle", 9, false), prog_14_method_37_code, 2, none),
  ((12, "openAt", 1, false), prog_14_method_38_code, 2, some .int),
  ((12, "openNow", 1, false), prog_14_method_39_code, 1, some .int),
  ((12, "isCompared", 4, false), prog_14_method_40_code, 2, some .boolean),
  ((12, "isAskAhead", 4, false), prog_14_method_41_code, 1, some .boolean),
  ((12, "opened", 7, false), prog_14_method_42_code, 2, some .int),
  ((12, "beginOne", 1, false), prog_14_method_43_code, 2, some .int),
  ((12, "compareOf", 1, false), prog_14_method_44_code, 1, some .int),
  ((12, "betweenOf", 1, false), prog_14_method_45_code, 1, some .int),
  ((12, "partOf", 7, false), prog_14_method_46_code, 2, some .int),
  ((12, "behindOne", 4, false), prog_14_method_47_code, 4, some .boolean),
  ((12, "summed", 1, false), prog_14_method_48_code, 2, some .int),
  ((12, "figure", 15, false), prog_14_method_49_code, 4, some .int),
  ((12, "lawClause", 7, false), prog_14_method_50_code, 3, some .int),
  ((12, "pair", 27, false), prog_14_method_51_code, 7, some .int),
  ((12, "body", 11, false), prog_14_method_52_code, 3, some .int),
  ((12, "sortOf", 1, false), prog_14_method_53_code, 1, some .int),
  ((12, "clause", 1, false), prog_14_method_54_code, 5, some .int),
  ((12, "readText", 1, false), prog_14_method_55_code, 2, some .int),
  ((12, "text", 1, false), prog_14_method_56_code, 1, some .int),
  ((12, "fault", 7, false), prog_14_method_57_code, 2, some .int),
  ((12, "by", 10, false), prog_14_method_58_code, 2, some .boolean),
  ((12, "clip", 40, true), prog_14_method_59_code, 2, some .long),
  ((12, "two", 35, true), prog_14_method_60_code, 5, some .long),
  ((12, "isAsked", 36, true), prog_14_method_61_code, 5, some .boolean),
  ((12, "behindOf", 40, false), prog_14_method_62_code, 3, some .long),
  ((12, "deepOf", 40, false), prog_14_method_63_code, 3, some .long),
  ((12, "ofOne", 34, false), prog_14_method_64_code, 4, some .long),
  ((12, "joined", 39, true), prog_14_method_65_code, 3, some .boolean),
  ((12, "summedUp", 12, false), prog_14_method_66_code, 10, some .long),
  ((12, "says", 22, false), prog_14_method_67_code, 7, some .int),
  ((12, "name", 9, false), prog_14_method_68_code, 2, none),
  ((12, "bitesOf", 7, false), prog_14_method_69_code, 2, some .int),
  ((12, "returnsOf", 11, false), prog_14_method_70_code, 3, some .int),
  ((12, "write", 13, false), prog_14_method_71_code, 4, none),
  ((12, "drawnBy", 7, false), prog_14_method_72_code, 3, some .int),
  ((12, "anew", 3, false), prog_14_method_73_code, 1, none),
  ((12, "canBite", 10, false), prog_14_method_74_code, 2, some .boolean),
  ((12, "biteNow", 9, false), prog_14_method_75_code, 2, none),
  ((12, "canCome", 10, false), prog_14_method_76_code, 2, some .boolean),
  ((12, "comeNow", 9, false), prog_14_method_77_code, 2, none),
  ((12, "canWalk", 14, false), prog_14_method_78_code, 3, some .boolean),
  ((12, "walkNow", 13, false), prog_14_method_79_code, 3, none),
  ((12, "pass", 3, false), prog_14_method_80_code, 2, none),
  ((12, "keep", 3, false), prog_14_method_81_code, 3, none),
  ((12, "undo", 1, false), prog_14_method_82_code, 3, some .int),
  ((12, "bite", 7, false), prog_14_method_83_code, 2, some .int),
  ((12, "come", 7, false), prog_14_method_84_code, 2, some .int),
  ((12, "walk", 14, false), prog_14_method_85_code, 3, some .boolean),
  ((12, "buy", 14, false), prog_14_method_86_code, 3, some .boolean),
  ((12, "arePassed", 10, false), prog_14_method_87_code, 3, some .boolean),
  ((12, "hour", 7, false), prog_14_method_88_code, 2, some .int),
  ((12, "isPlayed", 10, false), prog_14_method_89_code, 4, some .boolean),
  ((12, "played", 7, false), prog_14_method_90_code, 3, some .int),
  ((12, "happens", 9, false), prog_14_method_91_code, 3, none),
  ((12, "years", 11, false), prog_14_method_92_code, 5, some .int),
  ((12, "of", 11, false), prog_14_method_93_code, 3, some .int),
  ((12, "place", 11, false), prog_14_method_94_code, 3, some .int),
  ((12, "sumOf", 7, false), prog_14_method_95_code, 4, some .int),
  ((12, "is", 7, false), prog_14_method_96_code, 2, some .int),
  ((12, "lineOf", 11, false), prog_14_method_97_code, 4, some .int),
  ((12, "book", 11, false), prog_14_method_98_code, 3, some .int),
  ((12, "ledger", 7, false), prog_14_method_99_code, 4, some .int),
  ((12, "deepest", 1, false), prog_14_method_100_code, 3, some .int),
  ((12, "away", 1, false), prog_14_method_101_code, 3, some .int),
  ((12, "alone", 1, false), prog_14_method_102_code, 3, some .int),
  ((12, "joyOf", 7, false), prog_14_method_103_code, 2, some .int),
  ((12, "gladdest", 1, false), prog_14_method_104_code, 3, some .int),
  ((12, "foretold", 11, false), prog_14_method_105_code, 5, some .int),
  ((12, "after", 11, false), prog_14_method_106_code, 3, some .int),
  ((12, "isInRing", 10, false), prog_14_method_107_code, 3, some .boolean),
  ((12, "aheadOf", 7, false), prog_14_method_108_code, 3, some .int),
  ((12, "ringOf", 7, false), prog_14_method_109_code, 4, some .int),
  ((12, "ring", 38, false), prog_14_method_110_code, 3, some .int),
  ((12, "rings", 1, false), prog_14_method_111_code, 5, some .int),
  ((12, "left", 7, false), prog_14_method_112_code, 4, some .int),
  ((12, "into", 7, false), prog_14_method_113_code, 4, some .int),
  ((12, "meet", 15, false), prog_14_method_114_code, 6, some .int),
  ((12, "gameBy", 7, false), prog_14_method_115_code, 5, some .int),
  ((12, "layGames", 3, false), prog_14_method_116_code, 3, none),
  ((12, "game", 7, false), prog_14_method_117_code, 2, some .int),
  ((12, "move", 7, false), prog_14_method_118_code, 3, some .int),
  ((12, "told", 19, false), prog_14_method_119_code, 5, some .int),
  ((12, "miss", 11, false), prog_14_method_120_code, 3, some .int),
  ((12, "meeting", 11, false), prog_14_method_121_code, 3, some .int),
  ((12, "hoursOf", 11, false), prog_14_method_122_code, 6, some .int),
  ((12, "awayFrom", 11, true), prog_14_method_123_code, 4, some .int),
  ((12, "layPlans", 9, false), prog_14_method_124_code, 7, none),
  ((12, "isBitten", 18, false), prog_14_method_125_code, 4, some .boolean),
  ((12, "plan", 11, false), prog_14_method_126_code, 6, some .int),
  ((12, "need", 7, false), prog_14_method_127_code, 4, some .int),
  ((12, "entry", 7, false), prog_14_method_128_code, 2, some .int),
  ((12, "inverse", 7, true), prog_14_method_129_code, 2, some .int),
  ((12, "free", 17, false), prog_14_method_130_code, 5, none),
  ((12, "swapRows", 13, false), prog_14_method_131_code, 5, none),
  ((12, "layLaws", 7, false), prog_14_method_132_code, 8, some .int),
  ((12, "isLaw", 10, false), prog_14_method_133_code, 2, some .boolean),
  ((12, "lawOf", 1, false), prog_14_method_134_code, 3, some .int),
  ((12, "law", 7, false), prog_14_method_135_code, 5, some .int),
  ((12, "fits", 7, false), prog_14_method_136_code, 5, some .int),
  ((12, "worthAt", 15, true), prog_14_method_137_code, 3, some .int),
  ((12, "doing", 22, false), prog_14_method_138_code, 8, some .int),
  ((12, "layWorths", 13, false), prog_14_method_139_code, 8, none),
  ((12, "clovesIn", 7, false), prog_14_method_140_code, 2, some .int),
  ((12, "worth", 11, false), prog_14_method_141_code, 3, some .int),
  ((12, "best", 11, false), prog_14_method_142_code, 5, some .int),
  ((12, "divisor", 43, true), prog_14_method_143_code, 10, some .long),
  ((12, "likely", 26, false), prog_14_method_144_code, 10, some .long),
  ((12, "longing", 38, false), prog_14_method_145_code, 5, some .int),
  ((12, "said", 11, false), prog_14_method_146_code, 3, some .int),
  ((12, "whose", 1, false), prog_14_method_147_code, 5, some .int),
  ((12, "image", 1, false), prog_14_method_148_code, 1, some .int),
  ((12, "back", 1, false), prog_14_method_149_code, 1, some .int),
  ((12, "about", 7, false), prog_14_method_150_code, 2, some .int)]
def mj_ms13 : List mj_M := [
  ((14, "bitCount", 7, true), prog_17_method_49_code, 1, some .int)]
def mj_ms14 : List mj_M := [
  ((15, "copyOf", 67, true), prog_23_method_123_code, 3, some (.array .int)),
  ((15, "fill", 66, true), prog_23_method_103_code, 4, none),
  ((15, "fill", 71, true), prog_23_method_101_code, 5, none)]
def mj_ms15 : List mj_M := [
  ((16, "charAt", 6, false), prog_19_method_56_code, 2, some .char),
  ((16, "checkIndex", 13, true), prog_19_method_155_code, 2, none),
  ((16, "coder", 0, false), prog_19_method_152_code, 1, some .byte),
  ((16, "indexOf", 7, false), prog_19_method_79_code, 2, some .int),
  ((16, "indexOf", 11, false), prog_19_method_80_code, 3, some .int),
  ((16, "isLatin1", 4, false), prog_19_method_154_code, 1, some .boolean),
  ((16, "length", 1, false), prog_19_method_54_code, 1, some .int)]
def mj_ms16 : List mj_M := [
  ((17, "canEncode", 10, true), prog_20_method_4_code, 1, some .boolean),
  ((17, "charAt", 63, true), prog_20_method_2_code, 2, some .char),
  ((17, "indexOf", 64, true), prog_20_method_22_code, 4, some .int),
  ((17, "indexOfChar", 64, true), prog_20_method_23_code, 6, some .int)]
def mj_ms17 : List mj_M := [
  ((18, "checkIndex", 31, true), prog_24_method_11_code, 3, some .int)]
def mj_ms18 : List mj_M := [
  ((13, "law", 65, true), code, 4, some .boolean)]
def mj_ms : List mj_M := mj_ms0 ++ (mj_ms1 ++ (mj_ms2 ++ (mj_ms3 ++ (mj_ms4 ++ (mj_ms5 ++ (mj_ms6 ++ (mj_ms7 ++ (mj_ms8 ++ (mj_ms9 ++ (mj_ms10 ++ (mj_ms11 ++ (mj_ms12 ++ (mj_ms13 ++ (mj_ms14 ++ (mj_ms15 ++ (mj_ms16 ++ (mj_ms17 ++ (mj_ms18))))))))))))))))))
def mj_b0 : List (Nat × List mj_I) := [
  (0, [(.aload 0, [], .null), (.athrow, [3, 0], .null), (.aload 0, [], .null), (.ldc 0, [], .int 8), (.newarray .int, [0, 1], .null), (.putfield 11, [0, 0, 3, 2], .null), (.aload 0, [], .null), (.ldc 0, [], .int 300), (.newarray .int, [0, 1], .null), (.putfield 17, [0, 1, 3, 3], .null), (.return_, [], .null)])]
def mj_b1 : List (Nat × List mj_I) := [
  (0, [(.aload 1, [], .null), (.ifnull 0, [2, 1], .null)]),
  (4, [(.aload 1, [], .null), (.getfield 20, [9, 0, 4], .null), (.ifnonnull 0, [3, 2], .null)]),
  (11, [(.nop, [0, 1, 2, 3, 4], .null), (.ldc 0, [], .int 1), (.ireturn, [], .null)]),
  (13, [(.aload 0, [], .null), (.aload 2, [], .null), (.aload 3, [], .null), (.iload 4, [], .null), (.invokevirtual 25, [3, 4, 0, 5], .null), (.aload 0, [], .null), (.aload 1, [], .null), (.getfield 20, [9, 0, 4], .null), (.aload 2, [], .null), (.aload 3, [], .null), (.invokevirtual 29, [5, 4, 0, 6], .null), (.i2l, [], .null), (.ldc 0, [], .int (-99)), (.ldc 0, [], .int 99), (.invokestatic 33, [225, 3, 11, 7], .null), (.ireturn, [], .null)])]
def mj_b2 : List (Nat × List mj_I) := [
  (0, [(.aload 1, [], .null), (.ifnull 0, [2, 1], .null)]),
  (4, [(.aload 1, [], .null), (.getfield 37, [9, 1, 8], .null), (.ifnonnull 0, [3, 2], .null)]),
  (11, [(.nop, [0, 1, 3], .null), (.ldc 0, [], .int 2), (.aload 2, [], .null), (.iload 4, [], .null), (.ldc 0, [], .int 1), (.invokevirtual 42, [30, 3, 2, 9], .null), (.iadd, [], .null), (.i2l, [], .null), (.ldc 0, [], .int 0), (.ldc 0, [], .int 10), (.invokestatic 33, [225, 3, 11, 7], .null), (.ireturn, [], .null)]),
  (28, [(.aload 0, [], .null), (.aload 2, [], .null), (.aload 3, [], .null), (.iload 4, [], .null), (.invokevirtual 25, [3, 4, 0, 5], .null), (.aload 0, [], .null), (.aload 1, [], .null), (.getfield 37, [9, 1, 8], .null), (.aload 2, [], .null), (.aload 3, [], .null), (.invokevirtual 29, [5, 4, 0, 6], .null), (.i2l, [], .null), (.ldc 0, [], .int 0), (.ldc 0, [], .int 10), (.invokestatic 33, [225, 3, 11, 7], .null), (.ireturn, [], .null)])]
def mj_b3 : List (Nat × List mj_I) := [
  (0, [(.aload 1, [], .null), (.iload 3, [], .null), (.aload 2, [], .null), (.invokevirtual 46, [33, 3, 2, 10], .null), (.istore 4, [], .null), (.aload 0, [], .null), (.ldc 0, [], .int 144), (.aload 1, [], .null), (.ldc 0, [], .int 1), (.invokevirtual 50, [28, 2, 2, 11], .null), (.invokevirtual 54, [4, 3, 0, 12], .null), (.aload 0, [], .null), (.ldc 0, [], .int 145), (.iload 4, [], .null), (.invokevirtual 54, [4, 3, 0, 12], .null), (.aload 0, [], .null), (.ldc 0, [], .int 146), (.aload 1, [], .null), (.iload 3, [], .null), (.ldc 0, [], .int 2), (.invokevirtual 42, [30, 3, 2, 9], .null), (.invokevirtual 54, [4, 3, 0, 12], .null), (.aload 0, [], .null), (.ldc 0, [], .int 147), (.iload 3, [], .null), (.invokevirtual 54, [4, 3, 0, 12], .null), (.aload 0, [], .null), (.ldc 0, [], .int 148), (.aload 1, [], .null), (.iload 3, [], .null), (.ldc 0, [], .int 1), (.invokevirtual 42, [30, 3, 2, 9], .null), (.invokevirtual 54, [4, 3, 0, 12], .null), (.aload 0, [], .null), (.ldc 0, [], .int 149), (.aload 1, [], .null), (.iload 4, [], .null), (.aload 2, [], .null), (.invokevirtual 58, [34, 3, 2, 13], .null), (.invokestatic 61, [376, 1, 14, 14], .null), (.ldc 0, [], .int 1), (.isub, [], .null), (.invokevirtual 54, [4, 3, 0, 12], .null), (.aload 0, [], .null), (.ldc 0, [], .int 150), (.aload 1, [], .null), (.iload 3, [], .null), (.ldc 0, [], .int 3), (.invokevirtual 42, [30, 3, 2, 9], .null), (.invokevirtual 54, [4, 3, 0, 12], .null), (.aload 0, [], .null), (.ldc 0, [], .int 151), (.aload 2, [], .null), (.aload 2, [], .null), (.iload 4, [], .null), (.invokevirtual 66, [56, 2, 3, 15], .null), (.invokevirtual 71, [57, 2, 3, 16], .null), (.invokevirtual 54, [4, 3, 0, 12], .null), (.return_, [], .null)])]
def mj_b4 : List (Nat × List mj_I) := [
  (0, [(.aload 0, [], .null), (.getfield 11, [0, 0, 2], .null), (.iload 1, [], .null), (.ldc 0, [], .int 144), (.isub, [], .null), (.iload 2, [], .null), (.iastore, [], .null), (.return_, [], .null)])]
def mj_b5 : List (Nat × List mj_I) := [
  (0, [(.aload 0, [], .null), (.ldc 0, [], .int 0), (.putfield 74, [0, 2, 0, 17], .null), (.ldc 0, [], .int 0), (.istore 4, [], .null), (.jsr 0, [1], .null)]),
  (8, [(.iload 4, [], .null), (.aload 1, [], .null), (.arraylength, [], .null), (.if_icmp .ge 0, [18, 2], .null)]),
  (15, [(.aload 1, [], .null), (.iload 4, [], .null), (.iaload, [], .null), (.ldc 0, [], .int 256), (.irem, [], .null), (.istore 5, [], .null), (.aload 1, [], .null), (.iload 4, [], .null), (.iaload, [], .null), (.ldc 0, [], .int 256), (.idiv, [], .null), (.istore 6, [], .null), (.iload 5, [], .null), (.ldc 0, [], .int 2), (.if_icmp .ne 0, [4, 3], .null)]),
  (41, [(.nop, [5], .null), (.aload 0, [], .null), (.iload 6, [], .null), (.invokevirtual 80, [6, 2, 0, 18], .null), (.nop, [6], .null), (.goto 0, [17], .null)]),
  (50, [(.iload 5, [], .null), (.ldc 0, [], .int 144), (.if_icmp .lt 0, [7, 5], .null)]),
  (58, [(.iload 5, [], .null), (.ldc 0, [], .int 152), (.if_icmp .ge 0, [7, 6], .null)]),
  (66, [(.nop, [6], .null), (.aload 0, [], .null), (.aload 0, [], .null), (.getfield 11, [0, 0, 2], .null), (.iload 5, [], .null), (.ldc 0, [], .int 144), (.isub, [], .null), (.iaload, [], .null), (.invokevirtual 80, [6, 2, 0, 18], .null), (.nop, [5], .null), (.goto 0, [17], .null)]),
  (84, [(.iload 5, [], .null), (.ldc 0, [], .int 7), (.if_icmp .ne 0, [9, 8], .null)]),
  (91, [(.nop, [5], .null), (.iload 4, [], .null), (.iload 6, [], .null), (.ldc 0, [], .int 1), (.isub, [], .null), (.invokedynamic 84, [0, 2, 19], .null), (.istore 4, [], .null), (.nop, [6], .null), (.goto 0, [17], .null)]),
  (105, [(.iload 5, [], .null), (.ldc 0, [], .int 6), (.if_icmp .ne 0, [14, 10], .null)]),
  (112, [(.nop, [5], .null), (.aload 0, [], .null), (.invokevirtual 89, [7, 1, 0, 20], .null), (.ifCond .ne 0, [12, 11], .null)]),
  (119, [(.iload 4, [], .null), (.iload 6, [], .null), (.ldc 0, [], .int 1), (.isub, [], .null), (.invokedynamic 84, [0, 2, 19], .null), (.nop, [4, 6], .null), (.goto 0, [13], .null)]),
  (131, [(.nop, [6], .null), (.iload 4, [], .null), (.nop, [4], .null), (.jsr 0, [13], .null)]),
  (133, [(.istore 4, [], .null), (.goto 0, [17], .null)]),
  (138, [(.nop, [6], .null), (.iload 5, [], .null), (.invokestatic 93, [8, 1, 0, 21], .null), (.ifCond .eq 0, [16, 15], .null)]),
  (146, [(.aload 0, [], .null), (.iload 5, [], .null), (.aload 0, [], .null), (.invokevirtual 89, [7, 1, 0, 20], .null), (.aload 2, [], .null), (.aload 3, [], .null), (.invokestatic 97, [9, 4, 0, 22], .null), (.invokevirtual 80, [6, 2, 0, 18], .null), (.nop, [5], .null), (.goto 0, [17], .null)]),
  (164, [(.aload 0, [], .null), (.invokevirtual 89, [7, 1, 0, 20], .null), (.istore 7, [], .null), (.aload 0, [], .null), (.invokevirtual 89, [7, 1, 0, 20], .null), (.istore 8, [], .null), (.aload 0, [], .null), (.iload 5, [], .null), (.iload 8, [], .null), (.iload 7, [], .null), (.invokestatic 101, [10, 3, 0, 23], .null), (.invokevirtual 80, [6, 2, 0, 18], .null), (.nop, [5, 7, 8], .null), (.jsr 0, [17], .null)]),
  (189, [(.iinc 4 0, [], .int 1), (.goto 0, [1], .null)]),
  (195, [(.nop, [1, 2, 3, 4], .null), (.aload 0, [], .null), (.invokevirtual 89, [7, 1, 0, 20], .null), (.ireturn, [], .null)])]
def mj_b6 : List (Nat × List mj_I) := [
  (0, [(.aload 0, [], .null), (.getfield 74, [0, 2, 17], .null), (.ldc 0, [], .int 300), (.if_icmp .ge 0, [2, 1], .null)]),
  (10, [(.aload 0, [], .null), (.getfield 17, [0, 1, 3], .null), (.aload 0, [], .null), (.getfield 74, [0, 2, 17], .null), (.iload 1, [], .null), (.iastore, [], .null), (.aload 0, [], .null), (.dup, [], .null), (.getfield 74, [0, 2, 17], .null), (.ldc 0, [], .int 1), (.iadd, [], .null), (.putfield 74, [0, 2, 0, 17], .null), (.nop, [0, 1], .null), (.jsr 0, [2], .null)]),
  (30, [(.nop, [0, 1], .null), (.return_, [], .null)])]
def mj_b7 : List (Nat × List mj_I) := [
  (0, [(.aload 0, [], .null), (.getfield 74, [0, 2, 17], .null), (.ifCond .ne 0, [2, 1], .null)]),
  (7, [(.nop, [0], .null), (.ldc 0, [], .int 0), (.ireturn, [], .null)]),
  (9, [(.aload 0, [], .null), (.dup, [], .null), (.getfield 74, [0, 2, 17], .null), (.ldc 0, [], .int 1), (.isub, [], .null), (.putfield 74, [0, 2, 0, 17], .null), (.aload 0, [], .null), (.getfield 17, [0, 1, 3], .null), (.aload 0, [], .null), (.getfield 74, [0, 2, 17], .null), (.iaload, [], .null), (.ireturn, [], .null)])]
def mj_b8 : List (Nat × List mj_I) := [
  (0, [(.iload 0, [], .null), (.ldc 0, [], .int 5), (.if_icmp .eq 0, [4, 1], .null)]),
  (5, [(.iload 0, [], .null), (.ldc 0, [], .int 143), (.if_icmp .eq 0, [4, 2], .null)]),
  (12, [(.iload 0, [], .null), (.ldc 0, [], .int 135), (.if_icmp .eq 0, [4, 3], .null)]),
  (19, [(.iload 0, [], .null), (.ldc 0, [], .int 136), (.nop, [0], .null), (.if_icmp .ne 0, [5, 4], .null)]),
  (26, [(.nop, [0], .null), (.ldc 0, [], .int 1), (.goto 0, [6], .null)]),
  (30, [(.ldc 0, [], .int 0), (.jsr 0, [6], .null)]),
  (31, [(.ireturn, [1], .null)])]
def mj_b9 : List (Nat × List mj_I) := [
  (0, [(.iload 0, [], .null), (.nop, [0], .null), (.lookupswitch 0 #[(5, 0), (135, 0), (143, 0)], [7, 1, 6, 2], .null)]),
  (36, [(.nop, [2, 3], .null), (.iload 1, [], .null), (.ineg, [], .null), (.ireturn, [], .null)]),
  (39, [(.nop, [2, 3], .null), (.iload 1, [], .null), (.nop, [1], .null), (.ifCond .ne 0, [4, 3], .null)]),
  (43, [(.ldc 0, [], .int 1), (.goto 0, [5], .null)]),
  (47, [(.ldc 0, [], .int 0), (.jsr 0, [5], .null)]),
  (48, [(.invokestatic 105, [11, 1, 0, 24], .null), (.ireturn, [], .null)]),
  (52, [(.nop, [2], .null), (.aload 3, [], .null), (.iload 1, [], .null), (.invokevirtual 66, [56, 2, 3, 15], .null), (.ireturn, [], .null)]),
  (58, [(.nop, [3], .null), (.aload 2, [], .null), (.iload 1, [], .null), (.ldc 0, [], .int 1), (.invokevirtual 42, [30, 3, 2, 9], .null), (.ireturn, [], .null)])]
def mj_b10 : List (Nat × List mj_I) := [
  (0, [(.iload 0, [], .null), (.nop, [0], .null), (.lookupswitch 0 #[(3, 0), (4, 0), (35, 0), (42, 0), (43, 0), (45, 0), (47, 0), (60, 0), (61, 0), (62, 0), (141, 0)], [33, 24, 28, 20, 3, 1, 2, 4, 8, 16, 12, 32], .null)]),
  (100, [(.iload 1, [], .null), (.i2l, [], .null), (.iload 2, [], .null), (.i2l, [], .null), (.ladd, [], .null), (.ldc 109, [25], .int (-1000000)), (.ldc 110, [26], .int 1000000), (.invokestatic 33, [225, 3, 11, 7], .null), (.ireturn, [], .null)]),
  (113, [(.iload 1, [], .null), (.i2l, [], .null), (.iload 2, [], .null), (.i2l, [], .null), (.lsub, [], .null), (.ldc 109, [25], .int (-1000000)), (.ldc 110, [26], .int 1000000), (.invokestatic 33, [225, 3, 11, 7], .null), (.ireturn, [], .null)]),
  (126, [(.iload 1, [], .null), (.i2l, [], .null), (.iload 2, [], .null), (.i2l, [], .null), (.lmul, [], .null), (.ldc 109, [25], .int (-1000000)), (.ldc 110, [26], .int 1000000), (.invokestatic 33, [225, 3, 11, 7], .null), (.ireturn, [], .null)]),
  (139, [(.iload 2, [], .null), (.ifCond .ne 0, [6, 5], .null)]),
  (143, [(.nop, [1, 2], .null), (.ldc 0, [], .int 0), (.goto 0, [7], .null)]),
  (147, [(.iload 1, [], .null), (.iload 2, [], .null), (.idiv, [], .null), (.nop, [1, 2], .null), (.jsr 0, [7], .null)]),
  (150, [(.ireturn, [], .null)]),
  (151, [(.iload 1, [], .null), (.iload 2, [], .null), (.nop, [1, 2], .null), (.if_icmp .ge 0, [10, 9], .null)]),
  (156, [(.ldc 0, [], .int 1), (.goto 0, [11], .null)]),
  (160, [(.ldc 0, [], .int 0), (.jsr 0, [11], .null)]),
  (161, [(.invokestatic 105, [11, 1, 0, 24], .null), (.ireturn, [], .null)]),
  (165, [(.iload 1, [], .null), (.iload 2, [], .null), (.nop, [1, 2], .null), (.if_icmp .le 0, [14, 13], .null)]),
  (170, [(.ldc 0, [], .int 1), (.goto 0, [15], .null)]),
  (174, [(.ldc 0, [], .int 0), (.jsr 0, [15], .null)]),
  (175, [(.invokestatic 105, [11, 1, 0, 24], .null), (.ireturn, [], .null)]),
  (179, [(.iload 1, [], .null), (.iload 2, [], .null), (.nop, [1, 2], .null), (.if_icmp .ne 0, [18, 17], .null)]),
  (184, [(.ldc 0, [], .int 1), (.goto 0, [19], .null)]),
  (188, [(.ldc 0, [], .int 0), (.jsr 0, [19], .null)]),
  (189, [(.invokestatic 105, [11, 1, 0, 24], .null), (.ireturn, [], .null)]),
  (193, [(.iload 1, [], .null), (.iload 2, [], .null), (.nop, [1, 2], .null), (.if_icmp .eq 0, [22, 21], .null)]),
  (198, [(.ldc 0, [], .int 1), (.goto 0, [23], .null)]),
  (202, [(.ldc 0, [], .int 0), (.jsr 0, [23], .null)]),
  (203, [(.invokestatic 105, [11, 1, 0, 24], .null), (.ireturn, [], .null)]),
  (207, [(.iload 1, [], .null), (.iload 2, [], .null), (.nop, [1, 2], .null), (.if_icmp .gt 0, [26, 25], .null)]),
  (212, [(.ldc 0, [], .int 1), (.goto 0, [27], .null)]),
  (216, [(.ldc 0, [], .int 0), (.jsr 0, [27], .null)]),
  (217, [(.invokestatic 105, [11, 1, 0, 24], .null), (.ireturn, [], .null)]),
  (221, [(.iload 1, [], .null), (.iload 2, [], .null), (.nop, [1, 2], .null), (.if_icmp .lt 0, [30, 29], .null)]),
  (226, [(.ldc 0, [], .int 1), (.goto 0, [31], .null)]),
  (230, [(.ldc 0, [], .int 0), (.jsr 0, [31], .null)]),
  (231, [(.invokestatic 105, [11, 1, 0, 24], .null), (.ireturn, [], .null)]),
  (235, [(.iload 1, [], .null), (.iload 2, [], .null), (.ior, [], .null), (.ireturn, [], .null)]),
  (239, [(.iload 1, [], .null), (.iload 2, [], .null), (.iand, [], .null), (.ireturn, [], .null)])]
def mj_b11 : List (Nat × List mj_I) := [
  (0, [(.iload 0, [], .null), (.nop, [0], .null), (.ifCond .eq 0, [2, 1], .null)]),
  (4, [(.ldc 0, [], .int 1), (.goto 0, [3], .null)]),
  (8, [(.ldc 0, [], .int 0), (.jsr 0, [3], .null)]),
  (9, [(.ireturn, [], .null)])]
def mj_b12 : List (Nat × List mj_I) := [
  (0, [(.aload 0, [], .null), (.athrow, [3, 27], .null), (.aload 0, [], .null), (.ldc 0, [], .int 2), (.newarray .int, [0, 1], .null), (.putfield 11, [1, 0, 3, 28], .null), (.aload 0, [], .null), (.ldc 0, [], .int 2), (.newarray .int, [0, 1], .null), (.putfield 15, [1, 1, 3, 29], .null), (.aload 0, [], .null), (.ldc 0, [], .int 25), (.newarray .int, [0, 1], .null), (.putfield 18, [1, 2, 3, 30], .null), (.return_, [], .null)])]
def mj_b13 : List (Nat × List mj_I) := [
  (0, [(.aload 1, [], .null), (.getfield 11, [1, 0, 28], .null), (.ldc 0, [], .int 0), (.aload 0, [], .null), (.getfield 11, [1, 0, 28], .null), (.ldc 0, [], .int 0), (.ldc 0, [], .int 2), (.invokedynamic 21, [5, 5, 31], .null), (.aload 1, [], .null), (.getfield 15, [1, 1, 29], .null), (.ldc 0, [], .int 0), (.aload 0, [], .null), (.getfield 15, [1, 1, 29], .null), (.ldc 0, [], .int 0), (.ldc 0, [], .int 2), (.invokedynamic 21, [5, 5, 31], .null), (.return_, [], .null)])]
def mj_b14 : List (Nat × List mj_I) := [
  (0, [(.iload 1, [], .null), (.ifCond .lt 0, [3, 1], .null)]),
  (4, [(.iload 1, [], .null), (.ldc 0, [], .int 2), (.if_icmp .ge 0, [3, 2], .null)]),
  (9, [(.aload 0, [], .null), (.getfield 15, [1, 1, 29], .null), (.iload 1, [], .null), (.iaload, [], .null), (.nop, [0, 1], .null), (.goto 0, [4], .null)]),
  (18, [(.nop, [0, 1], .null), (.ldc 0, [], .int 0), (.jsr 0, [4], .null)]),
  (19, [(.ireturn, [], .null)])]
def mj_b15 : List (Nat × List mj_I) := [
  (0, [(.iload 1, [], .null), (.ifCond .lt 0, [2, 1], .null)]),
  (4, [(.iload 1, [], .null), (.ldc 0, [], .int 2), (.if_icmp .lt 0, [3, 2], .null)]),
  (9, [(.nop, [0, 1, 2, 3], .null), (.ldc 0, [], .int (-2)), (.ireturn, [], .null)]),
  (12, [(.iload 2, [], .null), (.ldc 0, [], .int (-1)), (.if_icmp .ne 0, [5, 4], .null)]),
  (17, [(.nop, [2, 3], .null), (.aload 0, [], .null), (.getfield 11, [1, 0, 28], .null), (.iload 1, [], .null), (.ldc 0, [], .int 0), (.iastore, [], .null), (.aload 0, [], .null), (.getfield 15, [1, 1, 29], .null), (.iload 1, [], .null), (.ldc 0, [], .int 0), (.iastore, [], .null), (.ldc 0, [], .int 0), (.ireturn, [], .null)]),
  (33, [(.iload 2, [], .null), (.iload 3, [], .null), (.invokestatic 27, [16, 2, 1, 32], .null), (.ifCond .eq 0, [7, 6], .null)]),
  (41, [(.aload 0, [], .null), (.getfield 15, [1, 1, 29], .null), (.iload 1, [], .null), (.iaload, [], .null), (.ldc 0, [], .int 6), (.if_icmp .ne 0, [8, 7], .null)]),
  (52, [(.nop, [0, 1, 2, 3], .null), (.ldc 0, [], .int (-2)), (.ireturn, [], .null)]),
  (55, [(.aload 0, [], .null), (.getfield 11, [1, 0, 28], .null), (.iload 1, [], .null), (.dup2, [], .null), (.iaload, [], .null), (.iload 2, [], .null), (.iload 3, [], .null), (.invokestatic 31, [17, 2, 1, 33], .null), (.ior, [], .null), (.iastore, [], .null), (.aload 0, [], .null), (.getfield 15, [1, 1, 29], .null), (.iload 1, [], .null), (.dup2, [], .null), (.iaload, [], .null), (.ldc 0, [], .int 1), (.iadd, [], .null), (.iastore, [], .null), (.aload 0, [], .null), (.getfield 15, [1, 1, 29], .null), (.iload 1, [], .null), (.iaload, [], .null), (.ireturn, [], .null)])]
def mj_b16 : List (Nat × List mj_I) := [
  (0, [(.iload 0, [], .null), (.ifCond .lt 0, [4, 1], .null)]),
  (4, [(.iload 0, [], .null), (.iload 1, [], .null), (.nop, [0], .null), (.if_icmp .gt 0, [4, 2], .null)]),
  (9, [(.iload 1, [], .null), (.ldc 0, [], .int 24), (.nop, [1], .null), (.if_icmp .ge 0, [4, 3], .null)]),
  (15, [(.ldc 0, [], .int 1), (.goto 0, [5], .null)]),
  (19, [(.nop, [0, 1], .null), (.ldc 0, [], .int 0), (.jsr 0, [5], .null)]),
  (20, [(.ireturn, [1], .null)])]
def mj_b17 : List (Nat × List mj_I) := [
  (0, [(.ldc 0, [], .int 1), (.iload 1, [], .null), (.ldc 0, [], .int 1), (.iadd, [], .null), (.ishl, [], .null), (.ldc 0, [], .int 1), (.iload 0, [], .null), (.ishl, [], .null), (.isub, [], .null), (.ireturn, [], .null)])]
def mj_b18 : List (Nat × List mj_I) := [
  (0, [(.aload 0, [], .null), (.iload 1, [], .null), (.invokevirtual 35, [21, 2, 1, 34], .null), (.aload 0, [], .null), (.getfield 18, [1, 2, 30], .null), (.ldc 0, [], .int 0), (.iaload, [], .null), (.istore 3, [], .null), (.iload 3, [], .null), (.ldc 0, [], .int (-1)), (.if_icmp .eq 0, [3, 1], .null)]),
  (17, [(.iload 2, [], .null), (.ldc 0, [], .int (-1)), (.if_icmp .lt 0, [3, 2], .null)]),
  (22, [(.iload 2, [], .null), (.iload 3, [], .null), (.if_icmp .lt 0, [4, 3], .null)]),
  (27, [(.nop, [0, 1, 2, 3], .null), (.ldc 0, [], .int (-2)), (.ireturn, [], .null)]),
  (30, [(.iload 2, [], .null), (.ldc 0, [], .int (-1)), (.if_icmp .ne 0, [6, 5], .null)]),
  (35, [(.nop, [0, 1, 2], .null), (.iload 3, [], .null), (.nop, [3], .null), (.goto 0, [7], .null)]),
  (39, [(.nop, [3], .null), (.aload 0, [], .null), (.iload 1, [], .null), (.iload 2, [], .null), (.invokevirtual 39, [23, 3, 1, 35], .null), (.nop, [0, 1, 2], .null), (.jsr 0, [7], .null)]),
  (45, [(.ireturn, [], .null)])]
def mj_b19 : List (Nat × List mj_I) := [
  (0, [(.ldc 0, [], .int 1), (.istore 1, [], .null), (.jsr 0, [1], .null)]),
  (2, [(.iload 1, [], .null), (.ldc 0, [], .int 24), (.if_icmp .gt 0, [5, 2], .null)]),
  (8, [(.aload 0, [], .null), (.iload 1, [], .null), (.invokevirtual 35, [21, 2, 1, 34], .null), (.aload 0, [], .null), (.getfield 18, [1, 2, 30], .null), (.ldc 0, [], .int 0), (.iaload, [], .null), (.ldc 0, [], .int (-1)), (.if_icmp .eq 0, [4, 3], .null)]),
  (23, [(.nop, [0], .null), (.iload 1, [], .null), (.ireturn, [], .null)]),
  (25, [(.iinc 1 0, [], .int 1), (.goto 0, [1], .null)]),
  (31, [(.nop, [0, 1], .null), (.ldc 0, [], .int (-1)), (.ireturn, [], .null)])]
def mj_b20 : List (Nat × List mj_I) := [
  (0, [(.ldc 0, [], .int 24), (.istore 1, [], .null), (.jsr 0, [1], .null)]),
  (3, [(.iload 1, [], .null), (.ifCond .le 0, [5, 2], .null)]),
  (7, [(.aload 0, [], .null), (.iload 1, [], .null), (.invokevirtual 35, [21, 2, 1, 34], .null), (.aload 0, [], .null), (.getfield 18, [1, 2, 30], .null), (.ldc 0, [], .int 0), (.iaload, [], .null), (.ldc 0, [], .int (-1)), (.if_icmp .eq 0, [4, 3], .null)]),
  (22, [(.nop, [0], .null), (.iload 1, [], .null), (.ireturn, [], .null)]),
  (24, [(.iinc 1 0, [], .int (-1)), (.goto 0, [1], .null)]),
  (30, [(.nop, [0, 1], .null), (.ldc 0, [], .int (-1)), (.ireturn, [], .null)])]
def mj_b21 : List (Nat × List mj_I) := [
  (0, [(.aload 0, [], .null), (.getfield 18, [1, 2, 30], .null), (.ldc 0, [], .int 24), (.ldc 0, [], .int 0), (.iastore, [], .null), (.ldc 0, [], .int 23), (.istore 2, [], .null), (.jsr 0, [1], .null)]),
  (11, [(.iload 2, [], .null), (.ifCond .lt 0, [14, 2], .null)]),
  (15, [(.aload 0, [], .null), (.getfield 11, [1, 0, 28], .null), (.ldc 0, [], .int 0), (.iaload, [], .null), (.iload 2, [], .null), (.ishr, [], .null), (.ldc 0, [], .int 1), (.iand, [], .null), (.ifCond .ne 0, [4, 3], .null)]),
  (28, [(.aload 0, [], .null), (.getfield 18, [1, 2, 30], .null), (.iload 2, [], .null), (.ldc 0, [], .int 1), (.iadd, [], .null), (.iaload, [], .null), (.goto 0, [5], .null)]),
  (39, [(.ldc 0, [], .int (-1)), (.jsr 0, [5], .null)]),
  (40, [(.istore 3, [], .null), (.aload 0, [], .null), (.iload 2, [], .null), (.iload 1, [], .null), (.invokevirtual 42, [22, 3, 1, 36], .null), (.istore 4, [], .null), (.iload 4, [], .null), (.ldc 0, [], .int (-1)), (.if_icmp .eq 0, [9, 6], .null)]),
  (55, [(.iload 3, [], .null), (.ldc 0, [], .int (-1)), (.if_icmp .eq 0, [8, 7], .null)]),
  (60, [(.iload 4, [], .null), (.iload 3, [], .null), (.if_icmp .ge 0, [9, 8], .null)]),
  (66, [(.ldc 0, [], .int 1), (.goto 0, [10], .null)]),
  (70, [(.ldc 0, [], .int 0), (.jsr 0, [10], .null)]),
  (71, [(.istore 5, [], .null), (.aload 0, [], .null), (.getfield 18, [1, 2, 30], .null), (.iload 2, [], .null), (.iload 5, [], .null), (.nop, [5], .null), (.ifCond .eq 0, [12, 11], .null)]),
  (83, [(.nop, [3], .null), (.iload 4, [], .null), (.nop, [4], .null), (.goto 0, [13], .null)]),
  (88, [(.nop, [4], .null), (.iload 3, [], .null), (.nop, [3], .null), (.jsr 0, [13], .null)]),
  (89, [(.iastore, [], .null), (.iinc 2 0, [], .int (-1)), (.goto 0, [1], .null)]),
  (96, [(.nop, [0, 1, 2], .null), (.return_, [], .null)])]
def mj_b22 : List (Nat × List mj_I) := [
  (0, [(.ldc 0, [], .int 24), (.iload 1, [], .null), (.iload 2, [], .null), (.iadd, [], .null), (.invokedynamic 45, [1, 2, 37], .null), (.istore 3, [], .null), (.iload 1, [], .null), (.iload 3, [], .null), (.ldc 0, [], .int 1), (.isub, [], .null), (.invokestatic 31, [17, 2, 1, 33], .null), (.aload 0, [], .null), (.getfield 11, [1, 0, 28], .null), (.ldc 0, [], .int 1), (.iaload, [], .null), (.iand, [], .null), (.nop, [1, 2], .null), (.ifCond .ne 0, [2, 1], .null)]),
  (26, [(.aload 0, [], .null), (.getfield 18, [1, 2, 30], .null), (.iload 3, [], .null), (.iaload, [], .null), (.ldc 0, [], .int (-1)), (.if_icmp .ne 0, [3, 2], .null)]),
  (36, [(.nop, [0, 3], .null), (.ldc 0, [], .int (-1)), (.ireturn, [], .null)]),
  (38, [(.aload 0, [], .null), (.getfield 18, [1, 2, 30], .null), (.iload 3, [], .null), (.iaload, [], .null), (.ldc 0, [], .int 1), (.iadd, [], .null), (.ireturn, [], .null)])]
def mj_b23 : List (Nat × List mj_I) := [
  (0, [(.ldc 0, [], .int 0), (.istore 3, [], .null), (.ldc 0, [], .int 0), (.istore 4, [], .null), (.jsr 0, [1], .null)]),
  (5, [(.iload 3, [], .null), (.ldc 0, [], .int 24), (.if_icmp .ge 0, [7, 2], .null)]),
  (11, [(.aload 0, [], .null), (.iload 3, [], .null), (.iload 1, [], .null), (.invokevirtual 42, [22, 3, 1, 36], .null), (.aload 0, [], .null), (.getfield 18, [1, 2, 30], .null), (.iload 3, [], .null), (.iaload, [], .null), (.if_icmp .ne 0, [6, 3], .null)]),
  (26, [(.iload 4, [], .null), (.iload 2, [], .null), (.if_icmp .ne 0, [5, 4], .null)]),
  (32, [(.nop, [0, 1, 2, 4], .null), (.iload 3, [], .null), (.ireturn, [], .null)]),
  (34, [(.iinc 4 0, [], .int 1), (.ldc 0, [], .int 24), (.iload 3, [], .null), (.ldc 0, [], .int 1), (.iload 1, [], .null), (.invokedynamic 50, [0, 2, 38], .null), (.iadd, [], .null), (.invokedynamic 45, [1, 2, 37], .null), (.istore 3, [], .null), (.goto 0, [1], .null)]),
  (53, [(.iinc 3 0, [], .int 1), (.goto 0, [1], .null)]),
  (59, [(.nop, [0, 1, 2, 3, 4], .null), (.ldc 0, [], .int (-2)), (.ireturn, [], .null)])]
def mj_b24 : List (Nat × List mj_I) := [
  (0, [(.aload 0, [], .null), (.athrow, [5, 39], .null), (.aload 0, [], .null), (.ldc 0, [], .int 54), (.newarray .int, [0, 1], .null), (.putfield 11, [2, 0, 3, 40], .null), (.aload 0, [], .null), (.getfield 11, [2, 0, 40], .null), (.ldc 0, [], .int 2), (.ldc 0, [], .int 383), (.iastore, [], .null), (.return_, [], .null)])]
def mj_b25 : List (Nat × List mj_I) := [
  (0, [(.aload 1, [], .null), (.getfield 11, [2, 0, 40], .null), (.ldc 0, [], .int 0), (.aload 0, [], .null), (.getfield 11, [2, 0, 40], .null), (.ldc 0, [], .int 0), (.ldc 0, [], .int 54), (.invokedynamic 15, [5, 5, 41], .null), (.return_, [], .null)])]
def mj_b26 : List (Nat × List mj_I) := [
  (0, [(.aload 0, [], .null), (.getfield 11, [2, 0, 40], .null), (.ldc 0, [], .int 0), (.aload 1, [], .null), (.iload 2, [], .null), (.ldc 0, [], .int 54), (.invokedynamic 15, [5, 5, 41], .null), (.return_, [], .null)])]
def mj_b27 : List (Nat × List mj_I) := [
  (0, [(.aload 0, [], .null), (.getfield 11, [2, 0, 40], .null), (.ldc 0, [], .int 0), (.iaload, [], .null), (.istore 3, [], .null), (.ldc 0, [], .int 4), (.aload 1, [], .null), (.iload 2, [], .null), (.ldc 0, [], .int 0), (.iadd, [], .null), (.iaload, [], .null), (.ldc 0, [], .int 4), (.imul, [], .null), (.iadd, [], .null), (.istore 4, [], .null), (.aload 1, [], .null), (.iload 2, [], .null), (.aload 0, [], .null), (.getfield 11, [2, 0, 40], .null), (.ldc 0, [], .int 0), (.iload 4, [], .null), (.invokedynamic 15, [5, 5, 41], .null), (.aload 1, [], .null), (.iload 2, [], .null), (.ldc 0, [], .int 24), (.iadd, [], .null), (.aload 0, [], .null), (.getfield 11, [2, 0, 40], .null), (.ldc 0, [], .int 24), (.ldc 0, [], .int 30), (.invokedynamic 15, [5, 5, 41], .null), (.aload 0, [], .null), (.getfield 11, [2, 0, 40], .null), (.ldc 0, [], .int 0), (.iload 3, [], .null), (.iastore, [], .null), (.return_, [], .null)])]
def mj_b28 : List (Nat × List mj_I) := [
  (0, [(.iload 1, [], .null), (.ifCond .lt 0, [3, 1], .null)]),
  (4, [(.iload 1, [], .null), (.ldc 0, [], .int 54), (.if_icmp .ge 0, [3, 2], .null)]),
  (10, [(.aload 0, [], .null), (.getfield 11, [2, 0, 40], .null), (.iload 1, [], .null), (.iaload, [], .null), (.nop, [0, 1], .null), (.goto 0, [4], .null)]),
  (19, [(.nop, [0, 1], .null), (.ldc 0, [], .int 0), (.jsr 0, [4], .null)]),
  (20, [(.ireturn, [], .null)])]
def mj_b29 : List (Nat × List mj_I) := [
  (0, [(.iload 1, [], .null), (.ifCond .lt 0, [3, 1], .null)]),
  (4, [(.iload 1, [], .null), (.aload 0, [], .null), (.getfield 11, [2, 0, 40], .null), (.ldc 0, [], .int 0), (.iaload, [], .null), (.nop, [0, 1], .null), (.if_icmp .ge 0, [3, 2], .null)]),
  (14, [(.ldc 0, [], .int 1), (.goto 0, [4], .null)]),
  (18, [(.nop, [0, 1], .null), (.ldc 0, [], .int 0), (.jsr 0, [4], .null)]),
  (19, [(.ireturn, [1], .null)])]
def mj_b30 : List (Nat × List mj_I) := [
  (0, [(.aload 0, [], .null), (.iload 1, [], .null), (.invokevirtual 21, [29, 2, 2, 42], .null), (.ifCond .eq 0, [2, 1], .null)]),
  (8, [(.aload 0, [], .null), (.getfield 11, [2, 0, 40], .null), (.aload 0, [], .null), (.iload 1, [], .null), (.iload 2, [], .null), (.invokevirtual 25, [31, 3, 2, 43], .null), (.iaload, [], .null), (.nop, [0, 1, 2], .null), (.goto 0, [3], .null)]),
  (22, [(.nop, [0, 1, 2], .null), (.ldc 0, [], .int 0), (.jsr 0, [3], .null)]),
  (23, [(.ireturn, [], .null)])]
def mj_b31 : List (Nat × List mj_I) := [
  (0, [(.nop, [0], .null), (.ldc 0, [], .int 4), (.iload 1, [], .null), (.ldc 0, [], .int 4), (.imul, [], .null), (.iadd, [], .null), (.iload 2, [], .null), (.iadd, [], .null), (.ireturn, [], .null)])]
def mj_b32 : List (Nat × List mj_I) := [
  (0, [(.aload 0, [], .null), (.getfield 11, [2, 0, 40], .null), (.ldc 0, [], .int 0), (.iaload, [], .null), (.istore 3, [], .null), (.iload 3, [], .null), (.ldc 0, [], .int 5), (.if_icmp .lt 0, [2, 1], .null)]),
  (12, [(.nop, [0, 1, 2, 3], .null), (.ldc 0, [], .int (-1)), (.ireturn, [], .null)]),
  (14, [(.aload 0, [], .null), (.getfield 11, [2, 0, 40], .null), (.aload 0, [], .null), (.iload 3, [], .null), (.ldc 0, [], .int 0), (.invokevirtual 25, [31, 3, 2, 43], .null), (.iload 1, [], .null), (.iastore, [], .null), (.aload 0, [], .null), (.getfield 11, [2, 0, 40], .null), (.aload 0, [], .null), (.iload 3, [], .null), (.ldc 0, [], .int 2), (.invokevirtual 25, [31, 3, 2, 43], .null), (.iload 2, [], .null), (.iastore, [], .null), (.aload 0, [], .null), (.getfield 11, [2, 0, 40], .null), (.ldc 0, [], .int 0), (.iload 3, [], .null), (.ldc 0, [], .int 1), (.iadd, [], .null), (.iastore, [], .null), (.iload 3, [], .null), (.ireturn, [], .null)])]
def mj_b33 : List (Nat × List mj_I) := [
  (0, [(.aload 2, [], .null), (.aload 0, [], .null), (.iload 1, [], .null), (.ldc 0, [], .int 0), (.invokevirtual 29, [30, 3, 2, 44], .null), (.aload 0, [], .null), (.iload 1, [], .null), (.ldc 0, [], .int 1), (.invokevirtual 29, [30, 3, 2, 44], .null), (.invokevirtual 32, [58, 3, 3, 45], .null), (.ireturn, [], .null)])]
def mj_b34 : List (Nat × List mj_I) := [
  (0, [(.ldc 0, [], .int 0), (.istore 3, [], .null), (.ldc 0, [], .int 0), (.istore 4, [], .null), (.jsr 0, [1], .null)]),
  (5, [(.iload 4, [], .null), (.aload 0, [], .null), (.getfield 11, [2, 0, 40], .null), (.ldc 0, [], .int 0), (.iaload, [], .null), (.if_icmp .ge 0, [5, 2], .null)]),
  (16, [(.aload 2, [], .null), (.aload 0, [], .null), (.iload 4, [], .null), (.ldc 0, [], .int 0), (.invokevirtual 29, [30, 3, 2, 44], .null), (.aload 0, [], .null), (.iload 4, [], .null), (.ldc 0, [], .int 1), (.invokevirtual 29, [30, 3, 2, 44], .null), (.invokevirtual 32, [58, 3, 3, 45], .null), (.iload 1, [], .null), (.if_icmp .ne 0, [4, 3], .null)]),
  (38, [(.iload 3, [], .null), (.ldc 0, [], .int 1), (.iload 4, [], .null), (.ishl, [], .null), (.ior, [], .null), (.istore 3, [], .null), (.jsr 0, [4], .null)]),
  (45, [(.iinc 4 0, [], .int 1), (.goto 0, [1], .null)]),
  (51, [(.nop, [0, 1, 2, 4], .null), (.iload 3, [], .null), (.ireturn, [], .null)])]
def mj_b35 : List (Nat × List mj_I) := [
  (0, [(.ldc 0, [], .int 0), (.istore 2, [], .null), (.ldc 0, [], .int 0), (.istore 3, [], .null), (.jsr 0, [1], .null)]),
  (4, [(.iload 3, [], .null), (.aload 0, [], .null), (.getfield 11, [2, 0, 40], .null), (.ldc 0, [], .int 0), (.iaload, [], .null), (.if_icmp .ge 0, [3, 2], .null)]),
  (14, [(.iload 2, [], .null), (.aload 0, [], .null), (.iload 3, [], .null), (.iload 1, [], .null), (.invokevirtual 29, [30, 3, 2, 44], .null), (.iadd, [], .null), (.istore 2, [], .null), (.iinc 3 0, [], .int 1), (.goto 0, [1], .null)]),
  (29, [(.nop, [0, 1, 3], .null), (.iload 2, [], .null), (.ireturn, [], .null)])]
def mj_b36 : List (Nat × List mj_I) := [
  (0, [(.aload 0, [], .null), (.getfield 11, [2, 0, 40], .null), (.ldc 0, [], .int 2), (.iaload, [], .null), (.istore 1, [], .null), (.aload 0, [], .null), (.getfield 11, [2, 0, 40], .null), (.ldc 0, [], .int 2), (.iload 1, [], .null), (.ldc 0, [], .int 641), (.imul, [], .null), (.ldc 0, [], .int 499), (.iadd, [], .null), (.ldc 0, [], .int 30893), (.irem, [], .null), (.iastore, [], .null), (.iload 1, [], .null), (.ireturn, [], .null)])]
def mj_b37 : List (Nat × List mj_I) := [
  (0, [(.aload 0, [], .null), (.getfield 11, [2, 0, 40], .null), (.ldc 0, [], .int 2), (.iload 1, [], .null), (.ldc 0, [], .int 2), (.imul, [], .null), (.ldc 0, [], .int 383), (.iadd, [], .null), (.iastore, [], .null), (.return_, [], .null)])]
def mj_b38 : List (Nat × List mj_I) := [
  (0, [(.aload 0, [], .null), (.iload 1, [], .null), (.invokevirtual 21, [29, 2, 2, 42], .null), (.ifCond .ne 0, [2, 1], .null)]),
  (8, [(.nop, [0, 1, 2], .null), (.ldc 0, [], .int (-1)), (.ireturn, [], .null)]),
  (10, [(.aload 0, [], .null), (.getfield 11, [2, 0, 40], .null), (.aload 0, [], .null), (.iload 1, [], .null), (.ldc 0, [], .int 2), (.invokevirtual 25, [31, 3, 2, 43], .null), (.dup2, [], .null), (.iaload, [], .null), (.ldc 0, [], .int 1), (.isub, [], .null), (.iastore, [], .null), (.aload 0, [], .null), (.getfield 11, [2, 0, 40], .null), (.aload 0, [], .null), (.iload 1, [], .null), (.ldc 0, [], .int 1), (.invokevirtual 25, [31, 3, 2, 43], .null), (.dup2, [], .null), (.iaload, [], .null), (.ldc 0, [], .int 1), (.iadd, [], .null), (.iastore, [], .null), (.aload 0, [], .null), (.iload 1, [], .null), (.ldc 0, [], .int 0), (.aload 2, [], .null), (.invokevirtual 37, [44, 4, 2, 46], .null), (.ireturn, [], .null)])]
def mj_b39 : List (Nat × List mj_I) := [
  (0, [(.aload 0, [], .null), (.iload 1, [], .null), (.invokevirtual 21, [29, 2, 2, 42], .null), (.ifCond .ne 0, [2, 1], .null)]),
  (8, [(.nop, [0, 1, 2], .null), (.ldc 0, [], .int (-1)), (.ireturn, [], .null)]),
  (10, [(.aload 0, [], .null), (.getfield 11, [2, 0, 40], .null), (.aload 0, [], .null), (.iload 1, [], .null), (.ldc 0, [], .int 1), (.invokevirtual 25, [31, 3, 2, 43], .null), (.dup2, [], .null), (.iaload, [], .null), (.ldc 0, [], .int 1), (.isub, [], .null), (.iastore, [], .null), (.aload 0, [], .null), (.iload 1, [], .null), (.ldc 0, [], .int 1), (.aload 2, [], .null), (.invokevirtual 37, [44, 4, 2, 46], .null), (.ireturn, [], .null)])]
def mj_b40 : List (Nat × List mj_I) := [
  (0, [(.aload 0, [], .null), (.iload 1, [], .null), (.invokevirtual 21, [29, 2, 2, 42], .null), (.ifCond .eq 0, [2, 1], .null)]),
  (8, [(.aload 0, [], .null), (.getfield 11, [2, 0, 40], .null), (.aload 0, [], .null), (.iload 1, [], .null), (.ldc 0, [], .int 0), (.invokevirtual 25, [31, 3, 2, 43], .null), (.iload 2, [], .null), (.iastore, [], .null), (.aload 0, [], .null), (.iload 1, [], .null), (.ldc 0, [], .int 2), (.aload 3, [], .null), (.invokevirtual 37, [44, 4, 2, 46], .null), (.pop, [], .null), (.nop, [0, 1, 2, 3], .null), (.jsr 0, [2], .null)]),
  (28, [(.nop, [0, 1, 2, 3], .null), (.return_, [], .null)])]
def mj_b41 : List (Nat × List mj_I) := [
  (0, [(.aload 0, [], .null), (.iload 1, [], .null), (.invokevirtual 21, [29, 2, 2, 42], .null), (.ifCond .eq 0, [2, 1], .null)]),
  (8, [(.aload 0, [], .null), (.getfield 11, [2, 0, 40], .null), (.aload 0, [], .null), (.iload 1, [], .null), (.ldc 0, [], .int 2), (.invokevirtual 25, [31, 3, 2, 43], .null), (.dup2, [], .null), (.iaload, [], .null), (.iload 2, [], .null), (.iadd, [], .null), (.iastore, [], .null), (.nop, [0, 1, 2], .null), (.jsr 0, [2], .null)]),
  (23, [(.nop, [0, 1, 2], .null), (.return_, [], .null)])]
def mj_b42 : List (Nat × List mj_I) := [
  (0, [(.aload 0, [], .null), (.iload 1, [], .null), (.invokevirtual 21, [29, 2, 2, 42], .null), (.ifCond .eq 0, [2, 1], .null)]),
  (8, [(.aload 0, [], .null), (.getfield 11, [2, 0, 40], .null), (.aload 0, [], .null), (.iload 1, [], .null), (.ldc 0, [], .int 3), (.invokevirtual 25, [31, 3, 2, 43], .null), (.ldc 0, [], .int 99), (.aload 0, [], .null), (.iload 1, [], .null), (.ldc 0, [], .int 3), (.invokevirtual 29, [30, 3, 2, 44], .null), (.ldc 0, [], .int 1), (.iadd, [], .null), (.invokedynamic 41, [1, 2, 47], .null), (.iastore, [], .null), (.nop, [0, 1], .null), (.jsr 0, [2], .null)]),
  (32, [(.nop, [0, 1], .null), (.return_, [], .null)])]
def mj_b43 : List (Nat × List mj_I) := [
  (0, [(.aload 0, [], .null), (.getfield 11, [2, 0, 40], .null), (.ldc 0, [], .int 1), (.dup2, [], .null), (.iaload, [], .null), (.ldc 0, [], .int 1), (.iadd, [], .null), (.iastore, [], .null), (.return_, [], .null)])]
def mj_b44 : List (Nat × List mj_I) := [
  (0, [(.aload 0, [], .null), (.iload 1, [], .null), (.aload 3, [], .null), (.invokevirtual 46, [33, 3, 2, 48], .null), (.istore 4, [], .null), (.aload 0, [], .null), (.getfield 11, [2, 0, 40], .null), (.aload 0, [], .null), (.iload 1, [], .null), (.ldc 0, [], .int 3), (.invokevirtual 25, [31, 3, 2, 43], .null), (.ldc 0, [], .int 0), (.iastore, [], .null), (.aload 0, [], .null), (.aload 0, [], .null), (.getfield 11, [2, 0, 40], .null), (.ldc 0, [], .int 1), (.iaload, [], .null), (.ldc 0, [], .int 1000), (.imul, [], .null), (.iload 1, [], .null), (.ldc 0, [], .int 100), (.imul, [], .null), (.iadd, [], .null), (.iload 2, [], .null), (.ldc 0, [], .int 10), (.imul, [], .null), (.iadd, [], .null), (.iload 4, [], .null), (.iadd, [], .null), (.invokevirtual 50, [45, 2, 2, 49], .null), (.iload 4, [], .null), (.ireturn, [], .null)])]
def mj_b45 : List (Nat × List mj_I) := [
  (0, [(.aload 0, [], .null), (.getfield 11, [2, 0, 40], .null), (.ldc 0, [], .int 3), (.iaload, [], .null), (.ldc 0, [], .int 30), (.if_icmp .ne 0, [2, 1], .null)]),
  (11, [(.aload 0, [], .null), (.getfield 11, [2, 0, 40], .null), (.ldc 0, [], .int 25), (.aload 0, [], .null), (.getfield 11, [2, 0, 40], .null), (.ldc 0, [], .int 24), (.ldc 0, [], .int 29), (.invokedynamic 15, [5, 5, 41], .null), (.aload 0, [], .null), (.getfield 11, [2, 0, 40], .null), (.ldc 0, [], .int 3), (.dup2, [], .null), (.iaload, [], .null), (.ldc 0, [], .int 1), (.isub, [], .null), (.iastore, [], .null), (.jsr 0, [2], .null)]),
  (38, [(.aload 0, [], .null), (.getfield 11, [2, 0, 40], .null), (.ldc 0, [], .int 24), (.aload 0, [], .null), (.getfield 11, [2, 0, 40], .null), (.ldc 0, [], .int 3), (.iaload, [], .null), (.iadd, [], .null), (.iload 1, [], .null), (.iastore, [], .null), (.aload 0, [], .null), (.getfield 11, [2, 0, 40], .null), (.ldc 0, [], .int 3), (.dup2, [], .null), (.iaload, [], .null), (.ldc 0, [], .int 1), (.iadd, [], .null), (.iastore, [], .null), (.return_, [], .null)])]
def mj_b46 : List (Nat × List mj_I) := [
  (0, [(.iload 1, [], .null), (.ifCond .lt 0, [2, 1], .null)]),
  (4, [(.iload 1, [], .null), (.aload 0, [], .null), (.getfield 11, [2, 0, 40], .null), (.ldc 0, [], .int 3), (.iaload, [], .null), (.if_icmp .lt 0, [3, 2], .null)]),
  (14, [(.nop, [0, 1, 2], .null), (.ldc 0, [], .int (-2)), (.ireturn, [], .null)]),
  (17, [(.aload 0, [], .null), (.getfield 11, [2, 0, 40], .null), (.ldc 0, [], .int 24), (.iload 1, [], .null), (.iadd, [], .null), (.iaload, [], .null), (.istore 3, [], .null), (.iload 2, [], .null), (.nop, [0, 1, 2], .null), (.tableswitch 0 0 3 #[], [8, 4, 5, 6, 7], .null)]),
  (60, [(.iload 3, [], .null), (.ldc 0, [], .int 1000), (.idiv, [], .null), (.ireturn, [], .null)]),
  (66, [(.iload 3, [], .null), (.ldc 0, [], .int 100), (.idiv, [], .null), (.ldc 0, [], .int 10), (.irem, [], .null), (.ireturn, [], .null)]),
  (74, [(.iload 3, [], .null), (.ldc 0, [], .int 10), (.idiv, [], .null), (.ldc 0, [], .int 10), (.irem, [], .null), (.ireturn, [], .null)]),
  (82, [(.iload 3, [], .null), (.ldc 0, [], .int 10), (.irem, [], .null), (.ireturn, [], .null)]),
  (87, [(.nop, [3], .null), (.ldc 0, [], .int (-2)), (.ireturn, [], .null)])]
def mj_b47 : List (Nat × List mj_I) := [
  (0, [(.ldc 0, [], .int 0), (.istore 2, [], .null), (.ldc 0, [], .int 0), (.istore 3, [], .null), (.jsr 0, [1], .null)]),
  (4, [(.iload 3, [], .null), (.aload 0, [], .null), (.getfield 11, [2, 0, 40], .null), (.ldc 0, [], .int 3), (.iaload, [], .null), (.if_icmp .ge 0, [5, 2], .null)]),
  (14, [(.aload 0, [], .null), (.iload 3, [], .null), (.ldc 0, [], .int 2), (.invokevirtual 54, [46, 3, 2, 50], .null), (.iload 1, [], .null), (.if_icmp .ne 0, [4, 3], .null)]),
  (24, [(.iinc 2 0, [], .int 1), (.jsr 0, [4], .null)]),
  (27, [(.iinc 3 0, [], .int 1), (.goto 0, [1], .null)]),
  (33, [(.nop, [0, 1, 3], .null), (.iload 2, [], .null), (.ireturn, [], .null)])]
def mj_b48 : List (Nat × List mj_I) := [
  (0, [(.ldc 0, [], .int (-1)), (.istore 1, [], .null), (.ldc 0, [], .int 0), (.istore 2, [], .null), (.ldc 0, [], .int 0), (.istore 3, [], .null), (.jsr 0, [1], .null)]),
  (6, [(.iload 3, [], .null), (.aload 0, [], .null), (.getfield 11, [2, 0, 40], .null), (.ldc 0, [], .int 0), (.iaload, [], .null), (.if_icmp .ge 0, [5, 2], .null)]),
  (16, [(.aload 0, [], .null), (.iload 3, [], .null), (.ldc 0, [], .int 1), (.invokevirtual 29, [30, 3, 2, 44], .null), (.iload 2, [], .null), (.if_icmp .le 0, [4, 3], .null)]),
  (26, [(.nop, [1, 2], .null), (.aload 0, [], .null), (.iload 3, [], .null), (.ldc 0, [], .int 1), (.invokevirtual 29, [30, 3, 2, 44], .null), (.istore 2, [], .null), (.iload 3, [], .null), (.istore 1, [], .null), (.jsr 0, [4], .null)]),
  (35, [(.iinc 3 0, [], .int 1), (.goto 0, [1], .null)]),
  (41, [(.nop, [0, 2, 3], .null), (.iload 1, [], .null), (.ireturn, [], .null)])]
def mj_b49 : List (Nat × List mj_I) := [
  (0, [(.ldc 0, [], .int 0), (.istore 1, [], .null), (.ldc 0, [], .int 0), (.istore 2, [], .null), (.jsr 0, [1], .null)]),
  (4, [(.iload 2, [], .null), (.aload 0, [], .null), (.getfield 11, [2, 0, 40], .null), (.ldc 0, [], .int 0), (.iaload, [], .null), (.if_icmp .ge 0, [5, 2], .null)]),
  (14, [(.aload 0, [], .null), (.iload 2, [], .null), (.ldc 0, [], .int 1), (.invokevirtual 29, [30, 3, 2, 44], .null), (.ifCond .le 0, [4, 3], .null)]),
  (23, [(.iload 1, [], .null), (.ldc 0, [], .int 1), (.iload 2, [], .null), (.ishl, [], .null), (.ior, [], .null), (.istore 1, [], .null), (.jsr 0, [4], .null)]),
  (29, [(.iinc 2 0, [], .int 1), (.goto 0, [1], .null)]),
  (35, [(.nop, [0, 2], .null), (.iload 1, [], .null), (.ireturn, [], .null)])]
def mj_b50 : List (Nat × List mj_I) := [
  (0, [(.ldc 0, [], .int 0), (.istore 2, [], .null), (.ldc 0, [], .int 0), (.istore 3, [], .null), (.jsr 0, [1], .null)]),
  (4, [(.iload 3, [], .null), (.aload 0, [], .null), (.getfield 11, [2, 0, 40], .null), (.ldc 0, [], .int 0), (.iaload, [], .null), (.if_icmp .ge 0, [5, 2], .null)]),
  (14, [(.aload 0, [], .null), (.aload 0, [], .null), (.iload 3, [], .null), (.aload 1, [], .null), (.invokevirtual 46, [33, 3, 2, 48], .null), (.aload 1, [], .null), (.invokevirtual 57, [34, 3, 2, 51], .null), (.ldc 0, [], .int 1), (.iload 3, [], .null), (.ishl, [], .null), (.if_icmp .ne 0, [4, 3], .null)]),
  (31, [(.iload 2, [], .null), (.ldc 0, [], .int 1), (.iload 3, [], .null), (.ishl, [], .null), (.ior, [], .null), (.istore 2, [], .null), (.jsr 0, [4], .null)]),
  (37, [(.iinc 3 0, [], .int 1), (.goto 0, [1], .null)]),
  (43, [(.nop, [0, 1, 3], .null), (.iload 2, [], .null), (.ireturn, [], .null)])]
def mj_b51 : List (Nat × List mj_I) := [
  (0, [(.ldc 0, [], .int (-1)), (.istore 2, [], .null), (.ldc 0, [], .int (-10)), (.istore 3, [], .null), (.ldc 0, [], .int 0), (.istore 4, [], .null), (.jsr 0, [1], .null)]),
  (8, [(.iload 4, [], .null), (.aload 0, [], .null), (.getfield 11, [2, 0, 40], .null), (.ldc 0, [], .int 0), (.iaload, [], .null), (.if_icmp .ge 0, [5, 2], .null)]),
  (19, [(.aload 1, [], .null), (.aload 0, [], .null), (.iload 4, [], .null), (.aload 1, [], .null), (.invokevirtual 46, [33, 3, 2, 48], .null), (.invokevirtual 60, [57, 2, 3, 52], .null), (.istore 5, [], .null), (.iload 5, [], .null), (.iload 3, [], .null), (.if_icmp .le 0, [4, 3], .null)]),
  (38, [(.nop, [2, 3], .null), (.iload 5, [], .null), (.istore 3, [], .null), (.iload 4, [], .null), (.istore 2, [], .null), (.nop, [5], .null), (.jsr 0, [4], .null)]),
  (44, [(.nop, [5], .null), (.iinc 4 0, [], .int 1), (.goto 0, [1], .null)]),
  (50, [(.nop, [0, 1, 3, 4], .null), (.iload 2, [], .null), (.ireturn, [], .null)])]
def mj_b52 : List (Nat × List mj_I) := [
  (0, [(.aload 0, [], .null), (.athrow, [3, 53], .null), (.aload 0, [], .null), (.ldc 0, [], .int 8), (.newarray .int, [0, 1], .null), (.putfield 9, [3, 0, 3, 54], .null), (.aload 0, [], .null), (.ldc 0, [], .int 8), (.newarray .int, [0, 1], .null), (.putfield 15, [3, 1, 3, 55], .null), (.aload 0, [], .null), (.ldc 0, [], .int 8), (.newarray .int, [0, 1], .null), (.putfield 18, [3, 2, 3, 56], .null), (.ldc 0, [], .int 0), (.istore 1, [], .null), (.jsr 0, [1], .null)]),
  (30, [(.iload 1, [], .null), (.ldc 0, [], .int 8), (.if_icmp .ge 0, [3, 2], .null)]),
  (36, [(.aload 0, [], .null), (.getfield 9, [3, 0, 54], .null), (.iload 1, [], .null), (.iload 1, [], .null), (.iastore, [], .null), (.iinc 1 0, [], .int 1), (.goto 0, [1], .null)]),
  (49, [(.nop, [0, 1], .null), (.return_, [], .null)])]
def mj_b53 : List (Nat × List mj_I) := [
  (0, [(.aload 1, [], .null), (.getfield 9, [3, 0, 54], .null), (.ldc 0, [], .int 0), (.aload 0, [], .null), (.getfield 9, [3, 0, 54], .null), (.ldc 0, [], .int 0), (.ldc 0, [], .int 8), (.invokedynamic 21, [5, 5, 57], .null), (.aload 1, [], .null), (.getfield 15, [3, 1, 55], .null), (.ldc 0, [], .int 0), (.aload 0, [], .null), (.getfield 15, [3, 1, 55], .null), (.ldc 0, [], .int 0), (.ldc 0, [], .int 8), (.invokedynamic 21, [5, 5, 57], .null), (.return_, [], .null)])]
def mj_b54 : List (Nat × List mj_I) := [
  (0, [(.iload 1, [], .null), (.invokestatic 27, [223, 1, 11, 58], .null), (.ifCond .eq 0, [3, 1], .null)]),
  (7, [(.iload 2, [], .null), (.invokestatic 27, [223, 1, 11, 58], .null), (.ifCond .eq 0, [3, 2], .null)]),
  (14, [(.aload 0, [], .null), (.getfield 9, [3, 0, 54], .null), (.iload 1, [], .null), (.iload 2, [], .null), (.iastore, [], .null), (.nop, [0, 1, 2], .null), (.jsr 0, [3], .null)]),
  (21, [(.nop, [0, 1, 2], .null), (.return_, [], .null)])]
def mj_b55 : List (Nat × List mj_I) := [
  (0, [(.iload 1, [], .null), (.invokestatic 27, [223, 1, 11, 58], .null), (.ifCond .eq 0, [2, 1], .null)]),
  (7, [(.aload 0, [], .null), (.getfield 15, [3, 1, 55], .null), (.iload 1, [], .null), (.iload 2, [], .null), (.iastore, [], .null), (.nop, [0, 1, 2], .null), (.jsr 0, [2], .null)]),
  (14, [(.nop, [0, 1, 2], .null), (.return_, [], .null)])]
def mj_b56 : List (Nat × List mj_I) := [
  (0, [(.iload 1, [], .null), (.invokestatic 27, [223, 1, 11, 58], .null), (.ifCond .eq 0, [2, 1], .null)]),
  (7, [(.aload 0, [], .null), (.getfield 9, [3, 0, 54], .null), (.iload 1, [], .null), (.iaload, [], .null), (.nop, [0, 1], .null), (.goto 0, [3], .null)]),
  (16, [(.nop, [0, 1], .null), (.ldc 0, [], .int 0), (.jsr 0, [3], .null)]),
  (17, [(.ireturn, [], .null)])]
def mj_b57 : List (Nat × List mj_I) := [
  (0, [(.iload 1, [], .null), (.invokestatic 27, [223, 1, 11, 58], .null), (.ifCond .eq 0, [2, 1], .null)]),
  (7, [(.aload 0, [], .null), (.getfield 15, [3, 1, 55], .null), (.iload 1, [], .null), (.iaload, [], .null), (.nop, [0, 1], .null), (.goto 0, [3], .null)]),
  (16, [(.nop, [0, 1], .null), (.ldc 0, [], .int 0), (.jsr 0, [3], .null)]),
  (17, [(.ireturn, [], .null)])]
def mj_b58 : List (Nat × List mj_I) := [
  (0, [(.iload 1, [], .null), (.invokestatic 27, [223, 1, 11, 58], .null), (.ifCond .ne 0, [2, 1], .null)]),
  (7, [(.nop, [0, 1, 2], .null), (.ldc 0, [], .int 0), (.ireturn, [], .null)]),
  (9, [(.iload 2, [], .null), (.ldc 0, [], .int 8), (.if_icmp .le 0, [4, 3], .null)]),
  (15, [(.ldc 0, [], .int 8), (.iload 2, [], .null), (.ldc 0, [], .int 8), (.isub, [], .null), (.ldc 0, [], .int 840), (.irem, [], .null), (.iadd, [], .null), (.nop, [2], .null), (.goto 0, [5], .null)]),
  (29, [(.iload 2, [], .null), (.nop, [2], .null), (.jsr 0, [5], .null)]),
  (30, [(.istore 3, [], .null), (.iload 1, [], .null), (.istore 4, [], .null), (.ldc 0, [], .int 0), (.istore 5, [], .null), (.nop, [1], .null), (.jsr 0, [6], .null)]),
  (37, [(.iload 5, [], .null), (.iload 3, [], .null), (.if_icmp .ge 0, [8, 7], .null)]),
  (43, [(.aload 0, [], .null), (.getfield 9, [3, 0, 54], .null), (.iload 4, [], .null), (.iaload, [], .null), (.istore 4, [], .null), (.iinc 5 0, [], .int 1), (.goto 0, [6], .null)]),
  (58, [(.nop, [0, 3, 5], .null), (.iload 4, [], .null), (.ireturn, [], .null)])]
def mj_b59 : List (Nat × List mj_I) := [
  (0, [(.ldc 0, [], .int 1), (.istore 2, [], .null), (.jsr 0, [1], .null)]),
  (2, [(.iload 2, [], .null), (.ldc 0, [], .int 8), (.if_icmp .gt 0, [5, 2], .null)]),
  (8, [(.aload 0, [], .null), (.iload 1, [], .null), (.iload 2, [], .null), (.invokevirtual 31, [58, 3, 3, 59], .null), (.iload 1, [], .null), (.if_icmp .ne 0, [4, 3], .null)]),
  (18, [(.nop, [0, 1], .null), (.iload 2, [], .null), (.ireturn, [], .null)]),
  (20, [(.iinc 2 0, [], .int 1), (.goto 0, [1], .null)]),
  (26, [(.nop, [0, 1, 2], .null), (.ldc 0, [], .int 0), (.ireturn, [], .null)])]
def mj_b60 : List (Nat × List mj_I) := [
  (0, [(.ldc 0, [], .int 0), (.istore 2, [], .null), (.jsr 0, [1], .null)]),
  (2, [(.iload 2, [], .null), (.ldc 0, [], .int 8), (.if_icmp .ge 0, [4, 2], .null)]),
  (8, [(.aload 0, [], .null), (.aload 0, [], .null), (.iload 1, [], .null), (.iload 2, [], .null), (.invokevirtual 31, [58, 3, 3, 59], .null), (.invokevirtual 35, [59, 2, 3, 60], .null), (.ifCond .ne 0, [4, 3], .null)]),
  (21, [(.iinc 2 0, [], .int 1), (.goto 0, [1], .null)]),
  (27, [(.nop, [0, 1], .null), (.iload 2, [], .null), (.ireturn, [], .null)])]
def mj_b61 : List (Nat × List mj_I) := [
  (0, [(.ldc 0, [], .int 0), (.istore 1, [], .null), (.ldc 0, [], .int 0), (.istore 2, [], .null), (.jsr 0, [1], .null)]),
  (4, [(.iload 2, [], .null), (.ldc 0, [], .int 8), (.if_icmp .ge 0, [5, 2], .null)]),
  (10, [(.aload 0, [], .null), (.iload 2, [], .null), (.invokevirtual 39, [62, 2, 3, 61], .null), (.ifCond .eq 0, [4, 3], .null)]),
  (18, [(.iinc 1 0, [], .int 1), (.jsr 0, [4], .null)]),
  (21, [(.iinc 2 0, [], .int 1), (.goto 0, [1], .null)]),
  (27, [(.nop, [0, 2], .null), (.iload 1, [], .null), (.ireturn, [], .null)])]
def mj_b62 : List (Nat × List mj_I) := [
  (0, [(.aload 0, [], .null), (.iload 1, [], .null), (.invokevirtual 35, [59, 2, 3, 60], .null), (.istore 2, [], .null), (.ldc 0, [], .int 1), (.istore 3, [], .null), (.jsr 0, [1], .null)]),
  (8, [(.iload 3, [], .null), (.iload 2, [], .null), (.if_icmp .ge 0, [5, 2], .null)]),
  (13, [(.aload 0, [], .null), (.iload 1, [], .null), (.iload 3, [], .null), (.invokevirtual 31, [58, 3, 3, 59], .null), (.iload 1, [], .null), (.if_icmp .ge 0, [4, 3], .null)]),
  (23, [(.nop, [0, 1, 2, 3], .null), (.ldc 0, [], .int 0), (.ireturn, [1], .null)]),
  (25, [(.iinc 3 0, [], .int 1), (.goto 0, [1], .null)]),
  (31, [(.nop, [0, 1, 3], .null), (.iload 2, [], .null), (.nop, [2], .null), (.ifCond .le 0, [7, 6], .null)]),
  (35, [(.ldc 0, [], .int 1), (.goto 0, [8], .null)]),
  (39, [(.ldc 0, [], .int 0), (.jsr 0, [8], .null)]),
  (40, [(.ireturn, [1], .null)])]
def mj_b63 : List (Nat × List mj_I) := [
  (0, [(.ldc 0, [], .int 0), (.istore 2, [], .null), (.ldc 0, [], .int 0), (.istore 3, [], .null), (.jsr 0, [1], .null)]),
  (4, [(.iload 3, [], .null), (.ldc 0, [], .int 8), (.if_icmp .ge 0, [3, 2], .null)]),
  (10, [(.iload 2, [], .null), (.ldc 0, [], .int 1), (.aload 0, [], .null), (.iload 3, [], .null), (.iload 1, [], .null), (.invokevirtual 31, [58, 3, 3, 59], .null), (.ishl, [], .null), (.ior, [], .null), (.istore 2, [], .null), (.iinc 3 0, [], .int 1), (.goto 0, [1], .null)]),
  (27, [(.nop, [0, 1, 3], .null), (.iload 2, [], .null), (.ireturn, [], .null)])]
def mj_b64 : List (Nat × List mj_I) := [
  (0, [(.ldc 0, [], .int 0), (.istore 2, [], .null), (.ldc 0, [], .int 0), (.istore 3, [], .null), (.jsr 0, [1], .null)]),
  (4, [(.iload 3, [], .null), (.ldc 0, [], .int 8), (.if_icmp .ge 0, [5, 2], .null)]),
  (10, [(.aload 0, [], .null), (.getfield 9, [3, 0, 54], .null), (.iload 3, [], .null), (.iaload, [], .null), (.iload 1, [], .null), (.if_icmp .ne 0, [4, 3], .null)]),
  (20, [(.iload 2, [], .null), (.ldc 0, [], .int 1), (.iload 3, [], .null), (.ishl, [], .null), (.ior, [], .null), (.istore 2, [], .null), (.jsr 0, [4], .null)]),
  (26, [(.iinc 3 0, [], .int 1), (.goto 0, [1], .null)]),
  (32, [(.nop, [0, 1, 3], .null), (.iload 2, [], .null), (.ireturn, [], .null)])]
def mj_b65 : List (Nat × List mj_I) := [
  (0, [(.ldc 0, [], .int 0), (.istore 4, [], .null), (.jsr 0, [1], .null)]),
  (3, [(.iload 4, [], .null), (.ldc 0, [], .int 16), (.if_icmp .ge 0, [13, 2], .null)]),
  (10, [(.ldc 0, [], .int 0), (.istore 5, [], .null), (.jsr 0, [3], .null)]),
  (13, [(.iload 5, [], .null), (.iload 4, [], .null), (.if_icmp .gt 0, [12, 4], .null)]),
  (20, [(.aload 0, [], .null), (.iload 1, [], .null), (.iload 5, [], .null), (.invokevirtual 31, [58, 3, 3, 59], .null), (.aload 0, [], .null), (.iload 2, [], .null), (.iload 4, [], .null), (.iload 5, [], .null), (.isub, [], .null), (.invokevirtual 31, [58, 3, 3, 59], .null), (.if_icmp .ne 0, [11, 5], .null)]),
  (40, [(.nop, [0, 1, 2], .null), (.iload 3, [], .null), (.ifCond .ne 0, [7, 6], .null)]),
  (44, [(.nop, [3, 5], .null), (.iload 4, [], .null), (.nop, [4], .null), (.goto 0, [10], .null)]),
  (49, [(.iload 3, [], .null), (.ldc 0, [], .int 1), (.nop, [3], .null), (.if_icmp .ne 0, [9, 8], .null)]),
  (54, [(.nop, [4], .null), (.iload 5, [], .null), (.nop, [5], .null), (.goto 0, [10], .null)]),
  (59, [(.iload 4, [], .null), (.iload 5, [], .null), (.isub, [], .null), (.nop, [4, 5], .null), (.jsr 0, [10], .null)]),
  (64, [(.ireturn, [], .null)]),
  (65, [(.iinc 5 0, [], .int 1), (.goto 0, [3], .null)]),
  (71, [(.nop, [5], .null), (.iinc 4 0, [], .int 1), (.goto 0, [1], .null)]),
  (77, [(.nop, [0, 1, 2, 3, 4], .null), (.ldc 0, [], .int (-1)), (.ireturn, [], .null)])]
def mj_b66 : List (Nat × List mj_I) := [
  (0, [(.aload 0, [], .null), (.invokevirtual 42, [68, 1, 3, 62], .null), (.iload 1, [], .null), (.invokestatic 27, [223, 1, 11, 58], .null), (.ifCond .eq 0, [2, 1], .null)]),
  (11, [(.aload 0, [], .null), (.getfield 18, [3, 2, 56], .null), (.iload 1, [], .null), (.iaload, [], .null), (.nop, [0, 1], .null), (.goto 0, [3], .null)]),
  (20, [(.nop, [0, 1], .null), (.ldc 0, [], .int (-1)), (.jsr 0, [3], .null)]),
  (21, [(.ireturn, [], .null)])]
def mj_b67 : List (Nat × List mj_I) := [
  (0, [(.aload 0, [], .null), (.invokevirtual 42, [68, 1, 3, 62], .null), (.aload 0, [], .null), (.iload 1, [], .null), (.invokevirtual 45, [70, 2, 3, 63], .null), (.ireturn, [], .null)])]
def mj_b68 : List (Nat × List mj_I) := [
  (0, [(.aload 0, [], .null), (.getfield 18, [3, 2, 56], .null), (.ldc 0, [], .int 2), (.invokestatic 48, [378, 2, 15, 64], .null), (.ldc 0, [], .int 0), (.istore 1, [], .null), (.jsr 0, [1], .null)]),
  (10, [(.iload 1, [], .null), (.ldc 0, [], .int 8), (.if_icmp .ge 0, [6, 2], .null)]),
  (16, [(.ldc 0, [], .int 0), (.istore 2, [], .null), (.jsr 0, [3], .null)]),
  (18, [(.iload 2, [], .null), (.ldc 0, [], .int 8), (.if_icmp .ge 0, [5, 4], .null)]),
  (24, [(.aload 0, [], .null), (.getfield 18, [3, 2, 56], .null), (.iload 2, [], .null), (.aload 0, [], .null), (.iload 2, [], .null), (.invokevirtual 54, [69, 2, 3, 65], .null), (.iastore, [], .null), (.iinc 2 0, [], .int 1), (.goto 0, [3], .null)]),
  (41, [(.nop, [2], .null), (.iinc 1 0, [], .int 1), (.goto 0, [1], .null)]),
  (47, [(.nop, [0, 1], .null), (.return_, [], .null)])]
def mj_b69 : List (Nat × List mj_I) := [
  (0, [(.aload 0, [], .null), (.iload 1, [], .null), (.invokevirtual 45, [70, 2, 3, 63], .null), (.ldc 0, [], .int (-1)), (.if_icmp .eq 0, [2, 1], .null)]),
  (9, [(.nop, [0, 1], .null), (.ldc 0, [], .int 1), (.ireturn, [], .null)]),
  (11, [(.aload 0, [], .null), (.getfield 18, [3, 2, 56], .null), (.aload 0, [], .null), (.iload 1, [], .null), (.ldc 0, [], .int 1), (.invokevirtual 31, [58, 3, 3, 59], .null), (.iaload, [], .null), (.ldc 0, [], .int 1), (.if_icmp .ne 0, [5, 3], .null)]),
  (26, [(.aload 0, [], .null), (.getfield 18, [3, 2, 56], .null), (.aload 0, [], .null), (.iload 1, [], .null), (.ldc 0, [], .int 2), (.invokevirtual 31, [58, 3, 3, 59], .null), (.iaload, [], .null), (.ldc 0, [], .int 1), (.nop, [0, 1], .null), (.if_icmp .ne 0, [5, 4], .null)]),
  (41, [(.ldc 0, [], .int 1), (.goto 0, [6], .null)]),
  (45, [(.nop, [0, 1], .null), (.ldc 0, [], .int 0), (.jsr 0, [6], .null)]),
  (46, [(.istore 2, [], .null), (.iload 2, [], .null), (.nop, [2], .null), (.ifCond .eq 0, [8, 7], .null)]),
  (51, [(.ldc 0, [], .int 0), (.goto 0, [9], .null)]),
  (55, [(.ldc 0, [], .int 2), (.jsr 0, [9], .null)]),
  (56, [(.ireturn, [], .null)])]
def mj_b70 : List (Nat × List mj_I) := [
  (0, [(.ldc 0, [], .int 1), (.istore 2, [], .null), (.jsr 0, [1], .null)]),
  (2, [(.iload 2, [], .null), (.ldc 0, [], .int 2), (.if_icmp .gt 0, [6, 2], .null)]),
  (7, [(.aload 0, [], .null), (.iload 1, [], .null), (.iload 2, [], .null), (.invokevirtual 31, [58, 3, 3, 59], .null), (.istore 3, [], .null), (.iload 3, [], .null), (.ifCond .eq 0, [4, 3], .null)]),
  (18, [(.aload 0, [], .null), (.getfield 18, [3, 2, 56], .null), (.iload 3, [], .null), (.iaload, [], .null), (.nop, [3], .null), (.ifCond .ne 0, [5, 4], .null)]),
  (27, [(.nop, [0, 1, 3], .null), (.iload 2, [], .null), (.ireturn, [], .null)]),
  (29, [(.iinc 2 0, [], .int 1), (.goto 0, [1], .null)]),
  (35, [(.nop, [0, 1, 2], .null), (.ldc 0, [], .int (-1)), (.ireturn, [], .null)])]
def mj_b71 : List (Nat × List mj_I) := [
  (0, [(.aload 0, [], .null), (.athrow, [3, 66], .null), (.aload 0, [], .null), (.ldc 0, [], .int 16), (.newarray .int, [0, 1], .null), (.putfield 9, [4, 0, 3, 67], .null), (.aload 0, [], .null), (.ldc 0, [], .int 144), (.newarray .int, [0, 1], .null), (.putfield 15, [4, 1, 3, 68], .null), (.aload 0, [], .null), (.ldc 0, [], .int 9), (.newarray .int, [0, 1], .null), (.putfield 18, [4, 2, 3, 69], .null), (.return_, [], .null)])]
def mj_b72 : List (Nat × List mj_I) := [
  (0, [(.aload 1, [], .null), (.getfield 9, [4, 0, 67], .null), (.ldc 0, [], .int 0), (.aload 0, [], .null), (.getfield 9, [4, 0, 67], .null), (.ldc 0, [], .int 0), (.ldc 0, [], .int 16), (.invokedynamic 21, [5, 5, 70], .null), (.aload 0, [], .null), (.aload 1, [], .null), (.getfield 27, [4, 3, 71], .null), (.putfield 27, [4, 3, 0, 71], .null), (.return_, [], .null)])]
def mj_b73 : List (Nat × List mj_I) := [
  (0, [(.aload 0, [], .null), (.getfield 27, [4, 3, 71], .null), (.ireturn, [], .null)])]
def mj_b74 : List (Nat × List mj_I) := [
  (0, [(.iload 1, [], .null), (.ldc 0, [], .int (-1)), (.if_icmp .ne 0, [2, 1], .null)]),
  (5, [(.nop, [1], .null), (.aload 0, [], .null), (.ldc 0, [], .int 0), (.putfield 27, [4, 3, 0, 71], .null), (.ldc 0, [], .int 0), (.ireturn, [], .null)]),
  (12, [(.iload 1, [], .null), (.ifCond .lt 0, [5, 3], .null)]),
  (16, [(.iload 1, [], .null), (.ldc 0, [], .int 7), (.if_icmp .ge 0, [5, 4], .null)]),
  (22, [(.aload 0, [], .null), (.getfield 27, [4, 3, 71], .null), (.ldc 0, [], .int 16), (.if_icmp .ne 0, [6, 5], .null)]),
  (31, [(.nop, [0, 1], .null), (.ldc 0, [], .int (-2)), (.ireturn, [], .null)]),
  (34, [(.aload 0, [], .null), (.getfield 9, [4, 0, 67], .null), (.aload 0, [], .null), (.getfield 27, [4, 3, 71], .null), (.iload 1, [], .null), (.iastore, [], .null), (.aload 0, [], .null), (.dup, [], .null), (.getfield 27, [4, 3, 71], .null), (.ldc 0, [], .int 1), (.iadd, [], .null), (.putfield 27, [4, 3, 0, 71], .null), (.aload 0, [], .null), (.getfield 27, [4, 3, 71], .null), (.ireturn, [], .null)])]
def mj_b75 : List (Nat × List mj_I) := [
  (0, [(.aload 0, [], .null), (.invokevirtual 31, [77, 1, 4, 72], .null), (.istore 2, [], .null), (.iload 2, [], .null), (.ldc 0, [], .int (-1)), (.if_icmp .ne 0, [2, 1], .null)]),
  (10, [(.nop, [0, 1, 2], .null), (.ldc 0, [], .int (-1)), (.ireturn, [], .null)]),
  (12, [(.iload 1, [], .null), (.ifCond .ne 0, [4, 3], .null)]),
  (16, [(.nop, [0, 1], .null), (.iload 2, [], .null), (.ireturn, [], .null)]),
  (18, [(.iload 1, [], .null), (.ldc 0, [], .int 9), (.if_icmp .ne 0, [6, 5], .null)]),
  (24, [(.nop, [1], .null), (.aload 0, [], .null), (.iload 2, [], .null), (.invokevirtual 35, [78, 2, 4, 73], .null), (.ireturn, [], .null)]),
  (30, [(.iload 1, [], .null), (.ifCond .le 0, [9, 7], .null)]),
  (34, [(.iload 1, [], .null), (.iload 2, [], .null), (.nop, [2], .null), (.if_icmp .gt 0, [9, 8], .null)]),
  (39, [(.aload 0, [], .null), (.getfield 18, [4, 2, 69], .null), (.iload 1, [], .null), (.iaload, [], .null), (.nop, [0, 1], .null), (.goto 0, [10], .null)]),
  (48, [(.nop, [0, 1, 2], .null), (.ldc 0, [], .int (-1)), (.jsr 0, [10], .null)]),
  (49, [(.ireturn, [], .null)])]
def mj_b76 : List (Nat × List mj_I) := [
  (0, [(.aload 0, [], .null), (.iload 1, [], .null), (.invokevirtual 39, [79, 2, 4, 74], .null), (.istore 2, [], .null), (.iload 2, [], .null), (.ldc 0, [], .int (-1)), (.nop, [0, 1], .null), (.if_icmp .ne 0, [2, 1], .null)]),
  (11, [(.nop, [2], .null), (.ldc 0, [], .int 0), (.ireturn, [], .null)]),
  (13, [(.ldc 0, [], .int 1), (.istore 3, [], .null), (.ldc 0, [], .int 0), (.istore 4, [], .null), (.jsr 0, [3], .null)]),
  (18, [(.iload 4, [], .null), (.iload 2, [], .null), (.if_icmp .ge 0, [5, 4], .null)]),
  (24, [(.iload 3, [], .null), (.ldc 0, [], .int 7), (.imul, [], .null), (.istore 3, [], .null), (.iinc 4 0, [], .int 1), (.goto 0, [3], .null)]),
  (35, [(.nop, [2, 4], .null), (.iload 3, [], .null), (.ireturn, [], .null)])]
def mj_b77 : List (Nat × List mj_I) := [
  (0, [(.ldc 0, [], .int 0), (.istore 1, [], .null), (.jsr 0, [1], .null)]),
  (2, [(.iload 1, [], .null), (.ldc 0, [], .int 8), (.if_icmp .gt 0, [6, 2], .null)]),
  (8, [(.iload 1, [], .null), (.aload 0, [], .null), (.getfield 27, [4, 3, 71], .null), (.if_icmp .gt 0, [6, 3], .null)]),
  (16, [(.aload 0, [], .null), (.iload 1, [], .null), (.invokevirtual 39, [79, 2, 4, 74], .null), (.ldc 0, [], .int (-1)), (.if_icmp .eq 0, [5, 4], .null)]),
  (25, [(.nop, [0], .null), (.iload 1, [], .null), (.ireturn, [], .null)]),
  (27, [(.iinc 1 0, [], .int 1), (.goto 0, [1], .null)]),
  (33, [(.nop, [0, 1], .null), (.ldc 0, [], .int (-1)), (.ireturn, [], .null)])]
def mj_b78 : List (Nat × List mj_I) := [
  (0, [(.ldc 0, [], .int 0), (.istore 2, [], .null), (.ldc 0, [], .int 1), (.istore 3, [], .null), (.jsr 0, [1], .null)]),
  (4, [(.iload 3, [], .null), (.iload 1, [], .null), (.if_icmp .gt 0, [4, 2], .null)]),
  (9, [(.iload 3, [], .null), (.aload 0, [], .null), (.getfield 27, [4, 3, 71], .null), (.if_icmp .gt 0, [4, 3], .null)]),
  (17, [(.iload 2, [], .null), (.aload 0, [], .null), (.getfield 18, [4, 2, 69], .null), (.iload 3, [], .null), (.iaload, [], .null), (.aload 0, [], .null), (.getfield 9, [4, 0, 67], .null), (.aload 0, [], .null), (.getfield 27, [4, 3, 71], .null), (.iload 3, [], .null), (.isub, [], .null), (.iaload, [], .null), (.imul, [], .null), (.iadd, [], .null), (.istore 2, [], .null), (.iinc 3 0, [], .int 1), (.goto 0, [1], .null)]),
  (44, [(.nop, [0, 1, 3], .null), (.iload 2, [], .null), (.ldc 0, [], .int 7), (.irem, [], .null), (.ireturn, [], .null)])]
def mj_b79 : List (Nat × List mj_I) := [
  (0, [(.aload 0, [], .null), (.iload 1, [], .null), (.invokevirtual 42, [80, 2, 4, 75], .null), (.aload 0, [], .null), (.getfield 18, [4, 2, 69], .null), (.ldc 0, [], .int 0), (.invokestatic 46, [378, 2, 15, 76], .null), (.ldc 0, [], .int 0), (.istore 2, [], .null), (.ldc 0, [], .int 0), (.istore 3, [], .null), (.jsr 0, [1], .null)]),
  (17, [(.iload 3, [], .null), (.iload 1, [], .null), (.if_icmp .ge 0, [5, 2], .null)]),
  (22, [(.aload 0, [], .null), (.iload 3, [], .null), (.iload 2, [], .null), (.iload 1, [], .null), (.invokevirtual 52, [81, 4, 4, 77], .null), (.ifCond .eq 0, [4, 3], .null)]),
  (32, [(.iinc 2 0, [], .int 1), (.jsr 0, [4], .null)]),
  (35, [(.iinc 3 0, [], .int 1), (.goto 0, [1], .null)]),
  (41, [(.nop, [3], .null), (.iload 2, [], .null), (.istore 3, [], .null), (.jsr 0, [6], .null)]),
  (43, [(.iload 3, [], .null), (.aload 0, [], .null), (.getfield 56, [4, 4, 78], .null), (.if_icmp .ge 0, [10, 7], .null)]),
  (51, [(.aload 0, [], .null), (.getfield 15, [4, 1, 68], .null), (.iload 3, [], .null), (.ldc 0, [], .int 9), (.imul, [], .null), (.iload 1, [], .null), (.iadd, [], .null), (.iaload, [], .null), (.ifCond .eq 0, [9, 8], .null)]),
  (65, [(.nop, [0, 1, 2, 3], .null), (.ldc 0, [], .int (-1)), (.ireturn, [], .null)]),
  (67, [(.iinc 3 0, [], .int 1), (.goto 0, [6], .null)]),
  (73, [(.nop, [3], .null), (.aload 0, [], .null), (.iload 2, [], .null), (.iload 1, [], .null), (.invokevirtual 59, [84, 3, 4, 79], .null), (.iload 1, [], .null), (.iload 2, [], .null), (.isub, [], .null), (.ireturn, [], .null)])]
def mj_b80 : List (Nat × List mj_I) := [
  (0, [(.aload 0, [], .null), (.ldc 0, [], .int 0), (.aload 0, [], .null), (.getfield 27, [4, 3, 71], .null), (.iload 1, [], .null), (.isub, [], .null), (.invokedynamic 63, [0, 2, 80], .null), (.putfield 56, [4, 4, 0, 78], .null), (.ldc 0, [], .int 0), (.istore 2, [], .null), (.jsr 0, [1], .null)]),
  (16, [(.iload 2, [], .null), (.aload 0, [], .null), (.getfield 56, [4, 4, 78], .null), (.if_icmp .ge 0, [6, 2], .null)]),
  (24, [(.ldc 0, [], .int 0), (.istore 3, [], .null), (.jsr 0, [3], .null)]),
  (26, [(.iload 3, [], .null), (.iload 1, [], .null), (.if_icmp .gt 0, [5, 4], .null)]),
  (31, [(.aload 0, [], .null), (.getfield 15, [4, 1, 68], .null), (.iload 2, [], .null), (.ldc 0, [], .int 9), (.imul, [], .null), (.iload 3, [], .null), (.iadd, [], .null), (.aload 0, [], .null), (.getfield 9, [4, 0, 67], .null), (.iload 2, [], .null), (.iload 3, [], .null), (.iadd, [], .null), (.iaload, [], .null), (.iastore, [], .null), (.iinc 3 0, [], .int 1), (.goto 0, [3], .null)]),
  (56, [(.nop, [3], .null), (.iinc 2 0, [], .int 1), (.goto 0, [1], .null)]),
  (62, [(.nop, [0, 1, 2], .null), (.return_, [], .null)])]
def mj_b81 : List (Nat × List mj_I) := [
  (0, [(.iload 2, [], .null), (.istore 4, [], .null), (.jsr 0, [1], .null)]),
  (3, [(.iload 4, [], .null), (.aload 0, [], .null), (.getfield 56, [4, 4, 78], .null), (.if_icmp .ge 0, [4, 2], .null)]),
  (12, [(.aload 0, [], .null), (.getfield 15, [4, 1, 68], .null), (.iload 4, [], .null), (.ldc 0, [], .int 9), (.imul, [], .null), (.iload 1, [], .null), (.iadd, [], .null), (.iaload, [], .null), (.ifCond .ne 0, [4, 3], .null)]),
  (27, [(.iinc 4 0, [], .int 1), (.goto 0, [1], .null)]),
  (33, [(.iload 4, [], .null), (.aload 0, [], .null), (.getfield 56, [4, 4, 78], .null), (.if_icmp .lt 0, [6, 5], .null)]),
  (42, [(.nop, [0, 1, 2, 3, 4], .null), (.ldc 0, [], .int 0), (.ireturn, [1], .null)]),
  (44, [(.aload 0, [], .null), (.iload 4, [], .null), (.iload 2, [], .null), (.iload 3, [], .null), (.invokevirtual 69, [82, 4, 4, 81], .null), (.ldc 73, [82], .retAddr 1), (.aload 0, [], .null), (.getfield 15, [4, 1, 68], .null), (.iload 2, [], .null), (.ldc 0, [], .int 9), (.imul, [], .null), (.iload 1, [], .null), (.iadd, [], .null), (.iaload, [], .null), (.ldc 0, [], .int 7), (.irem, [], .null), (.iaload, [], .null), (.istore 5, [], .null), (.ldc 0, [], .int 0), (.istore 6, [], .null), (.nop, [4], .null), (.jsr 0, [7], .null)]),
  (75, [(.iload 6, [], .null), (.iload 3, [], .null), (.if_icmp .gt 0, [9, 8], .null)]),
  (81, [(.aload 0, [], .null), (.getfield 15, [4, 1, 68], .null), (.iload 2, [], .null), (.ldc 0, [], .int 9), (.imul, [], .null), (.iload 6, [], .null), (.iadd, [], .null), (.aload 0, [], .null), (.getfield 15, [4, 1, 68], .null), (.iload 2, [], .null), (.ldc 0, [], .int 9), (.imul, [], .null), (.iload 6, [], .null), (.iadd, [], .null), (.iaload, [], .null), (.iload 5, [], .null), (.imul, [], .null), (.ldc 0, [], .int 7), (.irem, [], .null), (.iastore, [], .null), (.iinc 6 0, [], .int 1), (.goto 0, [7], .null)]),
  (117, [(.nop, [5, 6], .null), (.ldc 0, [], .int 0), (.istore 6, [], .null), (.jsr 0, [10], .null)]),
  (120, [(.iload 6, [], .null), (.aload 0, [], .null), (.getfield 56, [4, 4, 78], .null), (.if_icmp .ge 0, [14, 11], .null)]),
  (129, [(.iload 6, [], .null), (.iload 2, [], .null), (.if_icmp .eq 0, [13, 12], .null)]),
  (135, [(.aload 0, [], .null), (.iload 6, [], .null), (.iload 2, [], .null), (.aload 0, [], .null), (.getfield 15, [4, 1, 68], .null), (.iload 6, [], .null), (.ldc 0, [], .int 9), (.imul, [], .null), (.iload 1, [], .null), (.iadd, [], .null), (.iaload, [], .null), (.iload 3, [], .null), (.invokevirtual 76, [83, 5, 4, 83], .null), (.jsr 0, [13], .null)]),
  (155, [(.iinc 6 0, [], .int 1), (.goto 0, [10], .null)]),
  (161, [(.nop, [0, 1, 2, 3, 6], .null), (.ldc 0, [], .int 1), (.ireturn, [1], .null)])]
def mj_b82 : List (Nat × List mj_I) := [
  (0, [(.ldc 0, [], .int 0), (.istore 4, [], .null), (.jsr 0, [1], .null)]),
  (3, [(.iload 4, [], .null), (.iload 3, [], .null), (.if_icmp .gt 0, [3, 2], .null)]),
  (9, [(.aload 0, [], .null), (.getfield 15, [4, 1, 68], .null), (.iload 1, [], .null), (.ldc 0, [], .int 9), (.imul, [], .null), (.iload 4, [], .null), (.iadd, [], .null), (.iaload, [], .null), (.istore 5, [], .null), (.aload 0, [], .null), (.getfield 15, [4, 1, 68], .null), (.iload 1, [], .null), (.ldc 0, [], .int 9), (.imul, [], .null), (.iload 4, [], .null), (.iadd, [], .null), (.aload 0, [], .null), (.getfield 15, [4, 1, 68], .null), (.iload 2, [], .null), (.ldc 0, [], .int 9), (.imul, [], .null), (.iload 4, [], .null), (.iadd, [], .null), (.iaload, [], .null), (.iastore, [], .null), (.aload 0, [], .null), (.getfield 15, [4, 1, 68], .null), (.iload 2, [], .null), (.ldc 0, [], .int 9), (.imul, [], .null), (.iload 4, [], .null), (.iadd, [], .null), (.iload 5, [], .null), (.iastore, [], .null), (.iinc 4 0, [], .int 1), (.nop, [5], .null), (.goto 0, [1], .null)]),
  (67, [(.nop, [0, 1, 2, 3, 4], .null), (.return_, [], .null)])]
def mj_b83 : List (Nat × List mj_I) := [
  (0, [(.ldc 0, [], .int 0), (.istore 5, [], .null), (.jsr 0, [1], .null)]),
  (3, [(.iload 5, [], .null), (.iload 4, [], .null), (.if_icmp .gt 0, [3, 2], .null)]),
  (10, [(.aload 0, [], .null), (.getfield 15, [4, 1, 68], .null), (.iload 1, [], .null), (.ldc 0, [], .int 9), (.imul, [], .null), (.iload 5, [], .null), (.iadd, [], .null), (.iaload, [], .null), (.ldc 0, [], .int 7), (.iload 3, [], .null), (.isub, [], .null), (.aload 0, [], .null), (.getfield 15, [4, 1, 68], .null), (.iload 2, [], .null), (.ldc 0, [], .int 9), (.imul, [], .null), (.iload 5, [], .null), (.iadd, [], .null), (.iaload, [], .null), (.imul, [], .null), (.iadd, [], .null), (.istore 6, [], .null), (.aload 0, [], .null), (.getfield 15, [4, 1, 68], .null), (.iload 1, [], .null), (.ldc 0, [], .int 9), (.imul, [], .null), (.iload 5, [], .null), (.iadd, [], .null), (.iload 6, [], .null), (.ldc 0, [], .int 7), (.irem, [], .null), (.iastore, [], .null), (.iinc 5 0, [], .int 1), (.nop, [6], .null), (.goto 0, [1], .null)]),
  (65, [(.nop, [0, 1, 2, 3, 4, 5], .null), (.return_, [], .null)])]
def mj_b84 : List (Nat × List mj_I) := [
  (0, [(.ldc 0, [], .int 0), (.istore 3, [], .null), (.jsr 0, [1], .null)]),
  (2, [(.iload 3, [], .null), (.iload 1, [], .null), (.if_icmp .ge 0, [9, 2], .null)]),
  (7, [(.ldc 0, [], .int 0), (.istore 4, [], .null), (.jsr 0, [3], .null)]),
  (10, [(.iload 4, [], .null), (.iload 2, [], .null), (.if_icmp .ge 0, [6, 4], .null)]),
  (16, [(.aload 0, [], .null), (.getfield 15, [4, 1, 68], .null), (.iload 3, [], .null), (.ldc 0, [], .int 9), (.imul, [], .null), (.iload 4, [], .null), (.iadd, [], .null), (.iaload, [], .null), (.ifCond .ne 0, [6, 5], .null)]),
  (31, [(.iinc 4 0, [], .int 1), (.goto 0, [3], .null)]),
  (37, [(.iload 4, [], .null), (.iload 2, [], .null), (.if_icmp .ge 0, [8, 7], .null)]),
  (43, [(.aload 0, [], .null), (.getfield 18, [4, 2, 69], .null), (.iload 2, [], .null), (.iload 4, [], .null), (.isub, [], .null), (.aload 0, [], .null), (.getfield 15, [4, 1, 68], .null), (.iload 3, [], .null), (.ldc 0, [], .int 9), (.imul, [], .null), (.iload 2, [], .null), (.iadd, [], .null), (.iaload, [], .null), (.iastore, [], .null), (.nop, [4], .null), (.jsr 0, [8], .null)]),
  (63, [(.nop, [4], .null), (.iinc 3 0, [], .int 1), (.goto 0, [1], .null)]),
  (69, [(.nop, [0, 1, 2, 3], .null), (.return_, [], .null)])]
def mj_b85 : List (Nat × List mj_I) := [
  (0, [(.aload 0, [], .null), (.athrow, [3, 84], .null), (.aload 0, [], .null), (.ldc 0, [], .int 9), (.newarray .int, [0, 1], .null), (.putfield 11, [5, 0, 3, 85], .null), (.aload 0, [], .null), (.ldc 0, [], .int 189), (.newarray .int, [0, 1], .null), (.putfield 15, [5, 1, 3, 86], .null), (.aload 0, [], .null), (.ldc 0, [], .int 189), (.newarray .int, [0, 1], .null), (.putfield 18, [5, 2, 3, 87], .null), (.aload 0, [], .null), (.ldc 0, [], .int 9), (.newarray .long, [3, 88], .null), (.putfield 21, [5, 3, 3, 89], .null), (.return_, [], .null)])]
def mj_b86 : List (Nat × List mj_I) := [
  (0, [(.aload 0, [], .null), (.aload 1, [], .null), (.iload 3, [], .null), (.ldc 0, [], .int 1), (.invokevirtual 27, [30, 3, 2, 90], .null), (.i2l, [], .null), (.ldc 0, [], .int 0), (.ldc 0, [], .int 8), (.invokestatic 31, [225, 3, 11, 91], .null), (.putfield 35, [5, 4, 0, 92], .null), (.aload 0, [], .null), (.aload 1, [], .null), (.iload 3, [], .null), (.ldc 0, [], .int 2), (.invokevirtual 27, [30, 3, 2, 90], .null), (.i2l, [], .null), (.ldc 0, [], .int 0), (.ldc 0, [], .int 20), (.invokestatic 31, [225, 3, 11, 91], .null), (.putfield 39, [5, 5, 0, 93], .null), (.ldc 0, [], .int 0), (.istore 5, [], .null), (.jsr 0, [1], .null)]),
  (37, [(.iload 5, [], .null), (.ldc 0, [], .int 9), (.if_icmp .ge 0, [3, 2], .null)]),
  (44, [(.aload 0, [], .null), (.getfield 11, [5, 0, 85], .null), (.iload 5, [], .null), (.aload 2, [], .null), (.aload 2, [], .null), (.aload 1, [], .null), (.iload 3, [], .null), (.ldc 0, [], .int 0), (.invokevirtual 27, [30, 3, 2, 90], .null), (.iload 5, [], .null), (.invokevirtual 42, [58, 3, 3, 94], .null), (.invokevirtual 47, [57, 2, 3, 95], .null), (.iastore, [], .null), (.iinc 5 0, [], .int 1), (.goto 0, [1], .null)]),
  (73, [(.nop, [1, 2, 3, 5], .null), (.aload 0, [], .null), (.getfield 15, [5, 1, 86], .null), (.ldc 0, [], .int 0), (.invokestatic 51, [378, 2, 15, 96], .null), (.ldc 0, [], .int 0), (.istore 5, [], .null), (.jsr 0, [4], .null)]),
  (84, [(.iload 5, [], .null), (.iload 4, [], .null), (.if_icmp .ge 0, [9, 5], .null)]),
  (91, [(.aload 0, [], .null), (.getfield 15, [5, 1, 86], .null), (.ldc 0, [], .int 0), (.aload 0, [], .null), (.getfield 18, [5, 2, 87], .null), (.ldc 0, [], .int 0), (.aload 0, [], .null), (.getfield 15, [5, 1, 86], .null), (.arraylength, [], .null), (.invokedynamic 57, [5, 5, 97], .null), (.ldc 0, [], .int 0), (.istore 6, [], .null), (.jsr 0, [6], .null)]),
  (112, [(.iload 6, [], .null), (.aload 0, [], .null), (.getfield 15, [5, 1, 86], .null), (.arraylength, [], .null), (.if_icmp .ge 0, [8, 7], .null)]),
  (122, [(.aload 0, [], .null), (.getfield 15, [5, 1, 86], .null), (.iload 6, [], .null), (.aload 0, [], .null), (.iload 6, [], .null), (.ldc 0, [], .int 21), (.idiv, [], .null), (.iload 6, [], .null), (.ldc 0, [], .int 21), (.irem, [], .null), (.invokevirtual 63, [89, 3, 5, 98], .null), (.iastore, [], .null), (.iinc 6 0, [], .int 1), (.goto 0, [6], .null)]),
  (149, [(.nop, [6], .null), (.iinc 5 0, [], .int 1), (.goto 0, [4], .null)]),
  (155, [(.nop, [0, 4, 5], .null), (.return_, [], .null)])]
def mj_b87 : List (Nat × List mj_I) := [
  (0, [(.aload 0, [], .null), (.getfield 15, [5, 1, 86], .null), (.aload 0, [], .null), (.getfield 35, [5, 4, 92], .null), (.ldc 0, [], .int 21), (.imul, [], .null), (.aload 0, [], .null), (.getfield 39, [5, 5, 93], .null), (.iadd, [], .null), (.iaload, [], .null), (.ireturn, [], .null)])]
def mj_b88 : List (Nat × List mj_I) := [
  (0, [(.aload 0, [], .null), (.getfield 15, [5, 1, 86], .null), (.ldc 0, [], .int 0), (.aload 0, [], .null), (.getfield 18, [5, 2, 87], .null), (.ldc 0, [], .int 0), (.aload 0, [], .null), (.getfield 15, [5, 1, 86], .null), (.arraylength, [], .null), (.invokedynamic 57, [5, 5, 97], .null), (.aload 0, [], .null), (.aload 0, [], .null), (.getfield 35, [5, 4, 92], .null), (.aload 0, [], .null), (.getfield 39, [5, 5, 93], .null), (.invokevirtual 63, [89, 3, 5, 98], .null), (.istore 1, [], .null), (.ldc 0, [], .int 0), (.istore 2, [], .null), (.jsr 0, [1], .null)]),
  (33, [(.iload 2, [], .null), (.ldc 0, [], .int 2), (.if_icmp .ge 0, [4, 2], .null)]),
  (38, [(.aload 0, [], .null), (.iload 2, [], .null), (.aload 0, [], .null), (.getfield 35, [5, 4, 92], .null), (.aload 0, [], .null), (.getfield 39, [5, 5, 93], .null), (.invokevirtual 66, [90, 4, 5, 99], .null), (.iload 1, [], .null), (.if_icmp .eq 0, [4, 3], .null)]),
  (55, [(.iinc 2 0, [], .int 1), (.goto 0, [1], .null)]),
  (61, [(.nop, [0, 1], .null), (.iload 2, [], .null), (.ireturn, [], .null)])]
def mj_b89 : List (Nat × List mj_I) := [
  (0, [(.aload 0, [], .null), (.ldc 0, [], .int 0), (.iload 1, [], .null), (.iload 2, [], .null), (.invokevirtual 66, [90, 4, 5, 99], .null), (.istore 3, [], .null), (.iload 3, [], .null), (.aload 0, [], .null), (.ldc 0, [], .int 1), (.iload 1, [], .null), (.iload 2, [], .null), (.invokevirtual 66, [90, 4, 5, 99], .null), (.invokedynamic 70, [0, 2, 100], .null), (.istore 3, [], .null), (.iload 3, [], .null), (.aload 0, [], .null), (.ldc 0, [], .int 2), (.iload 1, [], .null), (.iload 2, [], .null), (.invokevirtual 66, [90, 4, 5, 99], .null), (.invokedynamic 70, [0, 2, 100], .null), (.ireturn, [], .null)])]
def mj_b90 : List (Nat × List mj_I) := [
  (0, [(.iload 2, [], .null), (.istore 4, [], .null), (.iload 3, [], .null), (.istore 5, [], .null), (.iload 1, [], .null), (.ldc 0, [], .int 1), (.nop, [2, 3], .null), (.if_icmp .ne 0, [2, 1], .null)]),
  (11, [(.nop, [1], .null), (.iinc 4 0, [], .int 1), (.iinc 5 0, [], .int (-1)), (.goto 0, [4], .null)]),
  (20, [(.iload 1, [], .null), (.ldc 0, [], .int 2), (.nop, [1], .null), (.if_icmp .ne 0, [4, 3], .null)]),
  (25, [(.iinc 4 0, [], .int (-1)), (.jsr 0, [4], .null)]),
  (28, [(.iload 4, [], .null), (.ifCond .lt 0, [8, 5], .null)]),
  (33, [(.iload 4, [], .null), (.ldc 0, [], .int 9), (.if_icmp .ge 0, [8, 6], .null)]),
  (40, [(.iload 5, [], .null), (.ifCond .lt 0, [8, 7], .null)]),
  (45, [(.ldc 0, [], .int 1), (.goto 0, [9], .null)]),
  (49, [(.ldc 0, [], .int 0), (.jsr 0, [9], .null)]),
  (50, [(.istore 6, [], .null), (.iload 6, [], .null), (.nop, [6], .null), (.ifCond .eq 0, [11, 10], .null)]),
  (57, [(.aload 0, [], .null), (.getfield 11, [5, 0, 85], .null), (.iload 4, [], .null), (.iaload, [], .null), (.aload 0, [], .null), (.getfield 18, [5, 2, 87], .null), (.iload 4, [], .null), (.ldc 0, [], .int 21), (.imul, [], .null), (.iload 5, [], .null), (.iadd, [], .null), (.iaload, [], .null), (.iadd, [], .null), (.nop, [0, 4, 5], .null), (.goto 0, [12], .null)]),
  (81, [(.nop, [0, 4, 5], .null), (.ldc 0, [], .int (-10000)), (.jsr 0, [12], .null)]),
  (84, [(.ireturn, [], .null)])]
def mj_b91 : List (Nat × List mj_I) := [
  (0, [(.iload 1, [], .null), (.ifCond .lt 0, [4, 1], .null)]),
  (4, [(.iload 1, [], .null), (.ldc 0, [], .int 9), (.if_icmp .ge 0, [4, 2], .null)]),
  (10, [(.iload 4, [], .null), (.ifCond .lt 0, [4, 3], .null)]),
  (15, [(.iload 4, [], .null), (.ldc 0, [], .int 9), (.if_icmp .lt 0, [5, 4], .null)]),
  (22, [(.nop, [0, 1, 2, 3, 4, 5], .null), (.ldc 75, [101], .long (-1)), (.lreturn, [], .null)]),
  (26, [(.aload 0, [], .null), (.getfield 21, [5, 3, 89], .null), (.ldc 0, [], .long 0), (.invokestatic 77, [379, 2, 15, 102], .null), (.aload 0, [], .null), (.getfield 21, [5, 3, 89], .null), (.iload 1, [], .null), (.ldc 0, [], .long 1), (.lastore, [], .null), (.ldc 0, [], .long 1), (.lstore 6, [], .null), (.ldc 0, [], .int 0), (.istore 8, [], .null), (.nop, [1], .null), (.jsr 0, [6], .null)]),
  (47, [(.iload 8, [], .null), (.iload 3, [], .null), (.if_icmp .ge 0, [8, 7], .null)]),
  (53, [(.aload 0, [], .null), (.iload 2, [], .null), (.invokevirtual 80, [92, 2, 5, 103], .null), (.lload 6, [], .null), (.ldc 84, [104], .long 10), (.lmul, [], .null), (.lstore 6, [], .null), (.iinc 8 0, [], .int 1), (.goto 0, [6], .null)]),
  (72, [(.nop, [2, 3, 8], .null), (.lload 6, [], .null), (.aload 0, [], .null), (.getfield 21, [5, 3, 89], .null), (.iload 4, [], .null), (.laload, [], .null), (.invokestatic 86, [94, 2, 5, 105], .null), (.lstore 8, [], .null), (.iload 5, [], .null), (.nop, [5], .null), (.ifCond .eq 0, [10, 9], .null)]),
  (91, [(.nop, [0, 4], .null), (.lload 6, [], .null), (.nop, [6], .null), (.goto 0, [11], .null)]),
  (96, [(.nop, [6], .null), (.aload 0, [], .null), (.getfield 21, [5, 3, 89], .null), (.iload 4, [], .null), (.laload, [], .null), (.nop, [0, 4], .null), (.jsr 0, [11], .null)]),
  (103, [(.ldc 0, [], .long 1), (.lload 8, [], .null), (.invokedynamic 90, [2, 2, 106], .null), (.ldiv, [], .null), (.lreturn, [], .null)])]
def mj_b92 : List (Nat × List mj_I) := [
  (0, [(.aload 0, [], .null), (.getfield 21, [5, 3, 89], .null), (.ldc 0, [], .int 0), (.aload 0, [], .null), (.getfield 21, [5, 3, 89], .null), (.ldc 0, [], .int 0), (.laload, [], .null), (.ldc 84, [104], .long 10), (.lmul, [], .null), (.aload 0, [], .null), (.getfield 21, [5, 3, 89], .null), (.ldc 0, [], .int 1), (.laload, [], .null), (.iload 1, [], .null), (.i2l, [], .null), (.lmul, [], .null), (.ladd, [], .null), (.lastore, [], .null), (.ldc 0, [], .int 1), (.istore 2, [], .null), (.jsr 0, [1], .null)]),
  (28, [(.iload 2, [], .null), (.ldc 0, [], .int 9), (.if_icmp .ge 0, [6, 2], .null)]),
  (34, [(.iload 2, [], .null), (.ldc 0, [], .int 8), (.if_icmp .ge 0, [4, 3], .null)]),
  (40, [(.aload 0, [], .null), (.getfield 21, [5, 3, 89], .null), (.iload 2, [], .null), (.ldc 0, [], .int 1), (.iadd, [], .null), (.laload, [], .null), (.iload 1, [], .null), (.i2l, [], .null), (.lmul, [], .null), (.goto 0, [5], .null)]),
  (54, [(.ldc 0, [], .long 0), (.jsr 0, [5], .null)]),
  (55, [(.lstore 3, [], .null), (.aload 0, [], .null), (.getfield 21, [5, 3, 89], .null), (.iload 2, [], .null), (.aload 0, [], .null), (.getfield 21, [5, 3, 89], .null), (.iload 2, [], .null), (.laload, [], .null), (.ldc 0, [], .int 10), (.iload 1, [], .null), (.isub, [], .null), (.i2l, [], .null), (.lmul, [], .null), (.lload 3, [], .null), (.ladd, [], .null), (.lastore, [], .null), (.iinc 2 0, [], .int 1), (.nop, [3], .null), (.goto 0, [1], .null)]),
  (82, [(.nop, [0, 1, 2], .null), (.return_, [], .null)])]
def mj_b93 : List (Nat × List mj_I) := [
  (0, [(.nop, [0], .null), (.iload 1, [], .null), (.ifCond .ne 0, [5, 1], .null)]),
  (4, [(.nop, [1, 2], .null), (.iload 3, [], .null), (.nop, [3], .null), (.ifCond .eq 0, [3, 2], .null)]),
  (8, [(.ldc 0, [], .int 1), (.goto 0, [4], .null)]),
  (12, [(.ldc 0, [], .int 0), (.jsr 0, [4], .null)]),
  (13, [(.ireturn, [], .null)]),
  (14, [(.iload 2, [], .null), (.ifCond .ne 0, [7, 6], .null)]),
  (18, [(.nop, [1, 2, 3], .null), (.ldc 0, [], .int (-1)), (.ireturn, [], .null)]),
  (20, [(.ldc 0, [], .long 1), (.iload 1, [], .null), (.ldc 0, [], .int 10), (.imul, [], .null), (.i2l, [], .null), (.iload 2, [], .null), (.i2l, [], .null), (.invokestatic 86, [94, 2, 5, 105], .null), (.invokedynamic 90, [2, 2, 106], .null), (.lstore 4, [], .null), (.iload 3, [], .null), (.nop, [3], .null), (.ifCond .eq 0, [9, 8], .null)]),
  (40, [(.nop, [1], .null), (.iload 2, [], .null), (.nop, [2], .null), (.goto 0, [10], .null)]),
  (44, [(.nop, [2], .null), (.iload 1, [], .null), (.ldc 0, [], .int 10), (.imul, [], .null), (.nop, [1], .null), (.jsr 0, [10], .null)]),
  (48, [(.i2l, [], .null), (.lload 4, [], .null), (.ldiv, [], .null), (.l2i, [], .null), (.ireturn, [], .null)])]
def mj_b94 : List (Nat × List mj_I) := [
  (0, [(.lload 0, [], .null), (.lstore 4, [], .null), (.lload 2, [], .null), (.lstore 6, [], .null), (.ldc 0, [], .int 0), (.istore 8, [], .null), (.nop, [0, 2], .null), (.jsr 0, [1], .null)]),
  (9, [(.iload 8, [], .null), (.ldc 0, [], .int 100), (.if_icmp .ge 0, [4, 2], .null)]),
  (16, [(.lload 6, [], .null), (.ldc 0, [], .long 0), (.lcmp, [], .null), (.ifCond .eq 0, [4, 3], .null)]),
  (23, [(.lload 4, [], .null), (.lload 6, [], .null), (.lrem, [], .null), (.lstore 9, [], .null), (.lload 6, [], .null), (.lstore 4, [], .null), (.lload 9, [], .null), (.lstore 6, [], .null), (.iinc 8 0, [], .int 1), (.nop, [9], .null), (.goto 0, [1], .null)]),
  (44, [(.nop, [6, 8], .null), (.lload 4, [], .null), (.lreturn, [], .null)])]
def mj_b95 : List (Nat × List mj_I) := [
  (0, [(.aload 0, [], .null), (.athrow, [3, 107], .null), (.aload 0, [], .null), (.ldc 0, [], .int 300), (.newarray .int, [0, 1], .null), (.putfield 9, [6, 1, 3, 108], .null), (.aload 0, [], .null), (.ldc 0, [], .int 72), (.newarray .int, [0, 1], .null), (.putfield 15, [6, 2, 3, 109], .null), (.aload 0, [], .null), (.ldc 0, [], .int (-1)), (.putfield 18, [6, 8, 0, 110], .null), (.aload 0, [], .null), (.ldc 0, [], .int (-1)), (.putfield 22, [6, 9, 0, 111], .null), (.aload 0, [], .null), (.aload 1, [], .null), (.putfield 25, [6, 0, 3, 112], .null), (.return_, [], .null)])]
def mj_b96 : List (Nat × List mj_I) := [
  (0, [(.aload 0, [], .null), (.getfield 18, [6, 8, 110], .null), (.ldc 0, [], .int (-1)), (.if_icmp .ne 0, [2, 1], .null)]),
  (8, [(.nop, [0, 1], .null), (.ldc 0, [], .int (-1)), (.ireturn, [], .null)]),
  (10, [(.iload 1, [], .null), (.ifCond .ne 0, [4, 3], .null)]),
  (14, [(.nop, [1], .null), (.aload 0, [], .null), (.getfield 18, [6, 8, 110], .null), (.nop, [0], .null), (.goto 0, [7], .null)]),
  (21, [(.iload 1, [], .null), (.ldc 0, [], .int 1), (.nop, [1], .null), (.if_icmp .ne 0, [6, 5], .null)]),
  (26, [(.aload 0, [], .null), (.getfield 22, [6, 9, 111], .null), (.nop, [0], .null), (.goto 0, [7], .null)]),
  (33, [(.nop, [0], .null), (.ldc 0, [], .int (-1)), (.jsr 0, [7], .null)]),
  (34, [(.ireturn, [], .null)])]
def mj_b97 : List (Nat × List mj_I) := [
  (0, [(.aload 0, [], .null), (.getfield 25, [6, 0, 112], .null), (.invokevirtual 29, [135, 1, 8, 113], .null), (.aload 0, [], .null), (.ldc 0, [], .null), (.putfield 34, [6, 3, 3, 114], .null), (.aload 0, [], .null), (.ldc 0, [], .null), (.putfield 37, [6, 4, 3, 115], .null), (.aload 0, [], .null), (.ldc 0, [], .int 0), (.putfield 40, [6, 6, 0, 116], .null), (.aload 0, [], .null), (.ldc 0, [], .int 0), (.putfield 18, [6, 8, 0, 110], .null), (.ldc 0, [], .int 0), (.istore 1, [], .null), (.jsr 0, [1], .null)]),
  (29, [(.iload 1, [], .null), (.ldc 0, [], .int 24), (.if_icmp .gt 0, [5, 2], .null)]),
  (35, [(.aload 0, [], .null), (.getfield 18, [6, 8, 110], .null), (.ifCond .ne 0, [5, 3], .null)]),
  (42, [(.aload 0, [], .null), (.getfield 25, [6, 0, 112], .null), (.invokevirtual 43, [131, 1, 8, 117], .null), (.ifCond .eq 0, [5, 4], .null)]),
  (52, [(.aload 0, [], .null), (.invokevirtual 47, [104, 1, 6, 118], .null), (.iinc 1 0, [], .int 1), (.goto 0, [1], .null)]),
  (62, [(.nop, [1], .null), (.aload 0, [], .null), (.aload 0, [], .null), (.getfield 18, [6, 8, 110], .null), (.ifCond .ne 0, [7, 6], .null)]),
  (70, [(.ldc 0, [], .int (-1)), (.goto 0, [8], .null)]),
  (74, [(.aload 0, [], .null), (.getfield 25, [6, 0, 112], .null), (.invokevirtual 50, [133, 1, 8, 119], .null), (.jsr 0, [8], .null)]),
  (81, [(.putfield 22, [6, 9, 0, 111], .null), (.aload 0, [], .null), (.getfield 18, [6, 8, 110], .null), (.nop, [0], .null), (.ifCond .ne 0, [10, 9], .null)]),
  (91, [(.ldc 0, [], .int 1), (.goto 0, [11], .null)]),
  (95, [(.ldc 0, [], .int 0), (.jsr 0, [11], .null)]),
  (96, [(.ireturn, [1], .null)])]
def mj_b98 : List (Nat × List mj_I) := [
  (0, [(.new 53, [9, 120], .null), (.dup, [], .null), (.aload 0, [], .null), (.getfield 34, [6, 3, 114], .null), (.aload 0, [], .null), (.getfield 37, [6, 4, 115], .null), (.aload 0, [], .null), (.getfield 15, [6, 2, 109], .null), (.aload 0, [], .null), (.getfield 40, [6, 6, 116], .null), (.ldc 0, [], .int 3), (.imul, [], .null), (.invokestatic 55, [377, 2, 15, 121], .null), (.invokespecial 61, [144, 4, 9, 122], .null), (.areturn, [], .null)])]
def mj_b99 : List (Nat × List mj_I) := [
  (0, [(.aload 0, [], .null), (.getfield 18, [6, 8, 110], .null), (.ifCond .ne 0, [2, 1], .null)]),
  (7, [(.aload 0, [], .null), (.iload 1, [], .null), (.putfield 18, [6, 8, 0, 110], .null), (.nop, [0, 1], .null), (.jsr 0, [2], .null)]),
  (12, [(.nop, [0, 1], .null), (.return_, [], .null)])]
def mj_b100 : List (Nat × List mj_I) := [
  (0, [(.aload 0, [], .null), (.getfield 18, [6, 8, 110], .null), (.ifCond .ne 0, [3, 1], .null)]),
  (7, [(.aload 0, [], .null), (.getfield 25, [6, 0, 112], .null), (.invokevirtual 43, [131, 1, 8, 117], .null), (.iload 1, [], .null), (.nop, [1], .null), (.if_icmp .ne 0, [3, 2], .null)]),
  (18, [(.aload 0, [], .null), (.getfield 25, [6, 0, 112], .null), (.invokevirtual 64, [134, 1, 8, 123], .null), (.nop, [0], .null), (.goto 0, [4], .null)]),
  (28, [(.nop, [1], .null), (.aload 0, [], .null), (.ldc 0, [], .int 1), (.invokevirtual 67, [99, 2, 6, 124], .null), (.nop, [0], .null), (.jsr 0, [4], .null)]),
  (33, [(.return_, [], .null)])]
def mj_b101 : List (Nat × List mj_I) := [
  (0, [(.aload 0, [], .null), (.getfield 25, [6, 0, 112], .null), (.invokevirtual 71, [132, 1, 8, 125], .null), (.istore 3, [], .null), (.aload 0, [], .null), (.getfield 18, [6, 8, 110], .null), (.ifCond .ne 0, [5, 1], .null)]),
  (15, [(.aload 0, [], .null), (.getfield 25, [6, 0, 112], .null), (.invokevirtual 43, [131, 1, 8, 117], .null), (.ldc 0, [], .int 2), (.if_icmp .ne 0, [5, 2], .null)]),
  (26, [(.iload 3, [], .null), (.iload 1, [], .null), (.nop, [1], .null), (.if_icmp .lt 0, [4, 3], .null)]),
  (31, [(.iload 3, [], .null), (.iload 2, [], .null), (.nop, [2], .null), (.if_icmp .le 0, [5, 4], .null)]),
  (36, [(.nop, [2], .null), (.aload 0, [], .null), (.ldc 0, [], .int 2), (.invokevirtual 67, [99, 2, 6, 124], .null), (.jsr 0, [5], .null)]),
  (41, [(.nop, [1, 2], .null), (.aload 0, [], .null), (.ldc 0, [], .int 2), (.invokevirtual 74, [100, 2, 6, 126], .null), (.iload 3, [], .null), (.ireturn, [], .null)])]
def mj_b102 : List (Nat × List mj_I) := [
  (0, [(.aload 0, [], .null), (.getfield 18, [6, 8, 110], .null), (.ifCond .ne 0, [3, 1], .null)]),
  (7, [(.aload 0, [], .null), (.getfield 77, [6, 5, 127], .null), (.ldc 0, [], .int 300), (.if_icmp .ge 0, [3, 2], .null)]),
  (17, [(.aload 0, [], .null), (.getfield 9, [6, 1, 108], .null), (.aload 0, [], .null), (.getfield 77, [6, 5, 127], .null), (.iload 1, [], .null), (.ldc 0, [], .int 256), (.iload 2, [], .null), (.imul, [], .null), (.iadd, [], .null), (.iastore, [], .null), (.aload 0, [], .null), (.dup, [], .null), (.getfield 77, [6, 5, 127], .null), (.ldc 0, [], .int 1), (.iadd, [], .null), (.putfield 77, [6, 5, 0, 127], .null), (.nop, [1, 2], .null), (.jsr 0, [3], .null)]),
  (43, [(.nop, [1, 2], .null), (.aload 0, [], .null), (.getfield 77, [6, 5, 127], .null), (.ldc 0, [], .int 1), (.isub, [], .null), (.ireturn, [], .null)])]
def mj_b103 : List (Nat × List mj_I) := [
  (0, [(.aload 0, [], .null), (.getfield 18, [6, 8, 110], .null), (.ifCond .ne 0, [4, 1], .null)]),
  (7, [(.iload 1, [], .null), (.ifCond .lt 0, [4, 2], .null)]),
  (11, [(.iload 1, [], .null), (.aload 0, [], .null), (.getfield 77, [6, 5, 127], .null), (.if_icmp .ge 0, [4, 3], .null)]),
  (19, [(.aload 0, [], .null), (.getfield 9, [6, 1, 108], .null), (.iload 1, [], .null), (.dup2, [], .null), (.iaload, [], .null), (.ldc 0, [], .int 256), (.aload 0, [], .null), (.getfield 77, [6, 5, 127], .null), (.imul, [], .null), (.iadd, [], .null), (.iastore, [], .null), (.nop, [0, 1], .null), (.jsr 0, [4], .null)]),
  (36, [(.nop, [0, 1], .null), (.return_, [], .null)])]
def mj_b104 : List (Nat × List mj_I) := [
  (0, [(.aload 0, [], .null), (.aload 0, [], .null), (.getfield 25, [6, 0, 112], .null), (.invokevirtual 43, [131, 1, 8, 117], .null), (.putfield 80, [6, 7, 0, 128], .null), (.aload 0, [], .null), (.getfield 80, [6, 7, 128], .null), (.ldc 0, [], .int 128), (.if_icmp .ne 0, [2, 1], .null)]),
  (21, [(.aload 0, [], .null), (.getfield 34, [6, 3, 114], .null), (.ifnonnull 0, [4, 2], .null)]),
  (28, [(.aload 0, [], .null), (.getfield 80, [6, 7, 128], .null), (.ldc 0, [], .int 129), (.if_icmp .ne 0, [5, 3], .null)]),
  (38, [(.aload 0, [], .null), (.getfield 37, [6, 4, 115], .null), (.ifnull 0, [5, 4], .null)]),
  (45, [(.ldc 0, [], .int 1), (.goto 0, [6], .null)]),
  (49, [(.ldc 0, [], .int 0), (.jsr 0, [6], .null)]),
  (50, [(.istore 1, [], .null), (.aload 0, [], .null), (.invokevirtual 83, [105, 1, 6, 129], .null), (.ifCond .ne 0, [8, 7], .null)]),
  (58, [(.nop, [1], .null), (.aload 0, [], .null), (.ldc 0, [], .int 1), (.invokevirtual 67, [99, 2, 6, 124], .null), (.nop, [0], .null), (.goto 0, [16], .null)]),
  (66, [(.iload 1, [], .null), (.nop, [1], .null), (.ifCond .eq 0, [10, 9], .null)]),
  (70, [(.aload 0, [], .null), (.ldc 0, [], .int 4), (.invokevirtual 67, [99, 2, 6, 124], .null), (.nop, [0], .null), (.goto 0, [16], .null)]),
  (78, [(.aload 0, [], .null), (.getfield 40, [6, 6, 116], .null), (.ldc 0, [], .int 24), (.if_icmp .ne 0, [12, 11], .null)]),
  (87, [(.aload 0, [], .null), (.ldc 0, [], .int 6), (.invokevirtual 67, [99, 2, 6, 124], .null), (.nop, [0], .null), (.goto 0, [16], .null)]),
  (96, [(.aload 0, [], .null), (.getfield 25, [6, 0, 112], .null), (.invokevirtual 64, [134, 1, 8, 123], .null), (.aload 0, [], .null), (.getfield 80, [6, 7, 128], .null), (.ldc 0, [], .int 128), (.if_icmp .eq 0, [14, 13], .null)]),
  (113, [(.aload 0, [], .null), (.getfield 80, [6, 7, 128], .null), (.ldc 0, [], .int 129), (.if_icmp .ne 0, [15, 14], .null)]),
  (123, [(.aload 0, [], .null), (.invokevirtual 87, [106, 1, 6, 130], .null), (.nop, [0], .null), (.goto 0, [16], .null)]),
  (130, [(.aload 0, [], .null), (.invokevirtual 90, [107, 1, 6, 131], .null), (.nop, [0], .null), (.jsr 0, [16], .null)]),
  (134, [(.return_, [], .null)])]
def mj_b105 : List (Nat × List mj_I) := [
  (0, [(.aload 0, [], .null), (.getfield 80, [6, 7, 128], .null), (.nop, [0], .null), (.tableswitch 0 128 145 #[], [2, 1, 1, 1, 1, 1, 1, 2, 2, 2, 2, 2, 2, 2, 2, 2, 2, 1, 1], .null)]),
  (92, [(.ldc 0, [], .int 1), (.ireturn, [1], .null)]),
  (94, [(.ldc 0, [], .int 0), (.ireturn, [1], .null)])]
def mj_b106 : List (Nat × List mj_I) := [
  (0, [(.aload 0, [], .null), (.ldc 0, [], .int 0), (.putfield 77, [6, 5, 0, 127], .null), (.aload 0, [], .null), (.ldc 0, [], .int 0), (.invokevirtual 93, [109, 2, 6, 132], .null), (.aload 0, [], .null), (.ldc 0, [], .int 59), (.invokevirtual 74, [100, 2, 6, 126], .null), (.aload 0, [], .null), (.getfield 18, [6, 8, 110], .null), (.ifCond .ne 0, [5, 1], .null)]),
  (23, [(.aload 0, [], .null), (.getfield 9, [6, 1, 108], .null), (.aload 0, [], .null), (.getfield 77, [6, 5, 127], .null), (.invokestatic 55, [377, 2, 15, 121], .null), (.astore 1, [], .null), (.aload 0, [], .null), (.getfield 80, [6, 7, 128], .null), (.ldc 0, [], .int 128), (.if_icmp .ne 0, [3, 2], .null)]),
  (45, [(.aload 0, [], .null), (.aload 1, [], .null), (.putfield 34, [6, 3, 3, 114], .null), (.nop, [1], .null), (.goto 0, [4], .null)]),
  (53, [(.aload 0, [], .null), (.aload 1, [], .null), (.putfield 37, [6, 4, 3, 115], .null), (.nop, [1], .null), (.jsr 0, [4], .null)]),
  (58, [(.aload 0, [], .null), (.ldc 0, [], .int 0), (.ldc 0, [], .int 0), (.invokevirtual 96, [108, 3, 6, 133], .null), (.nop, [0], .null), (.jsr 0, [5], .null)]),
  (64, [(.nop, [0], .null), (.return_, [], .null)])]
def mj_b107 : List (Nat × List mj_I) := [
  (0, [(.ldc 0, [], .int 0), (.istore 2, [], .null), (.aload 0, [], .null), (.getfield 80, [6, 7, 128], .null), (.lookupswitch 0 #[(130, 0), (133, 0), (144, 0), (145, 0)], [5, 1, 3, 4, 2], .null)]),
  (48, [(.nop, [2], .null), (.aload 0, [], .null), (.ldc 0, [], .int 0), (.ldc 0, [], .int 7), (.invokevirtual 100, [101, 3, 6, 134], .null), (.istore 1, [], .null), (.aload 0, [], .null), (.ldc 0, [], .int 146), (.invokevirtual 74, [100, 2, 6, 126], .null), (.aload 0, [], .null), (.ldc 0, [], .int 0), (.ldc 0, [], .int 99), (.invokevirtual 100, [101, 3, 6, 134], .null), (.istore 2, [], .null), (.goto 0, [6], .null)]),
  (74, [(.nop, [2], .null), (.aload 0, [], .null), (.ldc 0, [], .int 0), (.ldc 0, [], .int 7), (.invokevirtual 100, [101, 3, 6, 134], .null), (.istore 1, [], .null), (.aload 0, [], .null), (.ldc 0, [], .int 135), (.invokevirtual 74, [100, 2, 6, 126], .null), (.aload 0, [], .null), (.ldc 0, [], .int 0), (.ldc 0, [], .int 7), (.invokevirtual 100, [101, 3, 6, 134], .null), (.istore 2, [], .null), (.goto 0, [6], .null)]),
  (100, [(.nop, [2], .null), (.aload 0, [], .null), (.ldc 0, [], .int 0), (.ldc 0, [], .int 4), (.invokevirtual 100, [101, 3, 6, 134], .null), (.istore 1, [], .null), (.aload 0, [], .null), (.ldc 0, [], .int 134), (.invokevirtual 74, [100, 2, 6, 126], .null), (.aload 0, [], .null), (.ldc 0, [], .int 0), (.ldc 0, [], .int 7), (.invokevirtual 100, [101, 3, 6, 134], .null), (.istore 2, [], .null), (.goto 0, [6], .null)]),
  (125, [(.aload 0, [], .null), (.ldc 0, [], .int 1), (.ldc 0, [], .int 60), (.invokevirtual 100, [101, 3, 6, 134], .null), (.istore 1, [], .null), (.goto 0, [6], .null)]),
  (136, [(.aload 0, [], .null), (.ldc 0, [], .int 0), (.ldc 0, [], .int 4), (.invokevirtual 100, [101, 3, 6, 134], .null), (.istore 1, [], .null), (.jsr 0, [6], .null)]),
  (143, [(.aload 0, [], .null), (.ldc 0, [], .int 59), (.invokevirtual 74, [100, 2, 6, 126], .null), (.aload 0, [], .null), (.iload 1, [], .null), (.iload 2, [], .null), (.invokevirtual 96, [108, 3, 6, 133], .null), (.return_, [], .null)])]
def mj_b108 : List (Nat × List mj_I) := [
  (0, [(.aload 0, [], .null), (.getfield 18, [6, 8, 110], .null), (.ifCond .ne 0, [3, 1], .null)]),
  (7, [(.aload 0, [], .null), (.getfield 40, [6, 6, 116], .null), (.ldc 0, [], .int 24), (.if_icmp .ge 0, [3, 2], .null)]),
  (16, [(.aload 0, [], .null), (.getfield 40, [6, 6, 116], .null), (.ldc 0, [], .int 3), (.imul, [], .null), (.istore 3, [], .null), (.aload 0, [], .null), (.getfield 15, [6, 2, 109], .null), (.iload 3, [], .null), (.aload 0, [], .null), (.getfield 80, [6, 7, 128], .null), (.iastore, [], .null), (.aload 0, [], .null), (.getfield 15, [6, 2, 109], .null), (.iload 3, [], .null), (.ldc 0, [], .int 1), (.iadd, [], .null), (.iload 1, [], .null), (.iastore, [], .null), (.aload 0, [], .null), (.getfield 15, [6, 2, 109], .null), (.iload 3, [], .null), (.ldc 0, [], .int 2), (.iadd, [], .null), (.iload 2, [], .null), (.iastore, [], .null), (.aload 0, [], .null), (.dup, [], .null), (.getfield 40, [6, 6, 116], .null), (.ldc 0, [], .int 1), (.iadd, [], .null), (.putfield 40, [6, 6, 0, 116], .null), (.nop, [0, 1, 2, 3], .null), (.jsr 0, [3], .null)]),
  (61, [(.nop, [0, 1, 2], .null), (.return_, [], .null)])]
def mj_b109 : List (Nat × List mj_I) := [
  (0, [(.aload 0, [], .null), (.iload 1, [], .null), (.invokevirtual 104, [110, 2, 6, 135], .null), (.ldc 0, [], .int 0), (.istore 2, [], .null), (.jsr 0, [1], .null)]),
  (7, [(.iload 2, [], .null), (.ldc 0, [], .int 300), (.if_icmp .ge 0, [6, 2], .null)]),
  (14, [(.aload 0, [], .null), (.getfield 18, [6, 8, 110], .null), (.ifCond .ne 0, [6, 3], .null)]),
  (21, [(.aload 0, [], .null), (.getfield 25, [6, 0, 112], .null), (.invokevirtual 43, [131, 1, 8, 117], .null), (.ldc 0, [], .int 43), (.if_icmp .eq 0, [5, 4], .null)]),
  (33, [(.aload 0, [], .null), (.getfield 25, [6, 0, 112], .null), (.invokevirtual 43, [131, 1, 8, 117], .null), (.ldc 0, [], .int 45), (.if_icmp .ne 0, [6, 5], .null)]),
  (45, [(.aload 0, [], .null), (.getfield 25, [6, 0, 112], .null), (.invokevirtual 43, [131, 1, 8, 117], .null), (.istore 3, [], .null), (.aload 0, [], .null), (.getfield 25, [6, 0, 112], .null), (.invokevirtual 64, [134, 1, 8, 123], .null), (.aload 0, [], .null), (.iload 1, [], .null), (.invokevirtual 104, [110, 2, 6, 135], .null), (.aload 0, [], .null), (.iload 3, [], .null), (.ldc 0, [], .int 0), (.invokevirtual 107, [102, 3, 6, 136], .null), (.pop, [], .null), (.iinc 2 0, [], .int 1), (.nop, [3], .null), (.goto 0, [1], .null)]),
  (78, [(.nop, [0, 1, 2], .null), (.return_, [], .null)])]
def mj_b110 : List (Nat × List mj_I) := [
  (0, [(.aload 0, [], .null), (.iload 1, [], .null), (.invokevirtual 110, [111, 2, 6, 137], .null), (.ldc 0, [], .int 0), (.istore 2, [], .null), (.jsr 0, [1], .null)]),
  (7, [(.iload 2, [], .null), (.ldc 0, [], .int 300), (.if_icmp .ge 0, [6, 2], .null)]),
  (14, [(.aload 0, [], .null), (.getfield 18, [6, 8, 110], .null), (.ifCond .ne 0, [6, 3], .null)]),
  (21, [(.aload 0, [], .null), (.getfield 25, [6, 0, 112], .null), (.invokevirtual 43, [131, 1, 8, 117], .null), (.ldc 0, [], .int 42), (.if_icmp .eq 0, [5, 4], .null)]),
  (33, [(.aload 0, [], .null), (.getfield 25, [6, 0, 112], .null), (.invokevirtual 43, [131, 1, 8, 117], .null), (.ldc 0, [], .int 47), (.if_icmp .ne 0, [6, 5], .null)]),
  (45, [(.aload 0, [], .null), (.getfield 25, [6, 0, 112], .null), (.invokevirtual 43, [131, 1, 8, 117], .null), (.istore 3, [], .null), (.aload 0, [], .null), (.getfield 25, [6, 0, 112], .null), (.invokevirtual 64, [134, 1, 8, 123], .null), (.aload 0, [], .null), (.iload 1, [], .null), (.invokevirtual 110, [111, 2, 6, 137], .null), (.aload 0, [], .null), (.iload 3, [], .null), (.ldc 0, [], .int 0), (.invokevirtual 107, [102, 3, 6, 136], .null), (.pop, [], .null), (.iinc 2 0, [], .int 1), (.nop, [3], .null), (.goto 0, [1], .null)]),
  (78, [(.nop, [0, 1, 2], .null), (.return_, [], .null)])]
def mj_b111 : List (Nat × List mj_I) := [
  (0, [(.aload 0, [], .null), (.getfield 25, [6, 0, 112], .null), (.invokevirtual 43, [131, 1, 8, 117], .null), (.istore 2, [], .null), (.aload 0, [], .null), (.getfield 18, [6, 8, 110], .null), (.ifCond .eq 0, [2, 1], .null)]),
  (15, [(.nop, [0, 1, 2], .null), (.return_, [], .null)]),
  (16, [(.iload 2, [], .null), (.ldc 0, [], .int 2), (.if_icmp .ne 0, [4, 3], .null)]),
  (21, [(.nop, [1, 2], .null), (.aload 0, [], .null), (.ldc 0, [], .int 2), (.aload 0, [], .null), (.ldc 0, [], .int 0), (.ldc 0, [], .int 9999), (.invokevirtual 100, [101, 3, 6, 134], .null), (.invokevirtual 107, [102, 3, 6, 136], .null), (.pop, [], .null), (.nop, [0], .null), (.goto 0, [12], .null)]),
  (38, [(.iload 2, [], .null), (.ldc 0, [], .int 144), (.if_icmp .lt 0, [7, 5], .null)]),
  (45, [(.iload 2, [], .null), (.ldc 0, [], .int 152), (.if_icmp .ge 0, [7, 6], .null)]),
  (52, [(.nop, [1], .null), (.aload 0, [], .null), (.iload 2, [], .null), (.invokevirtual 113, [113, 2, 6, 138], .null), (.nop, [0, 2], .null), (.goto 0, [12], .null)]),
  (60, [(.iload 2, [], .null), (.invokestatic 116, [112, 1, 6, 139], .null), (.ifCond .ne 0, [9, 8], .null)]),
  (67, [(.nop, [1, 2], .null), (.aload 0, [], .null), (.ldc 0, [], .int 1), (.invokevirtual 67, [99, 2, 6, 124], .null), (.nop, [0], .null), (.goto 0, [12], .null)]),
  (75, [(.iload 1, [], .null), (.ldc 0, [], .int 8), (.if_icmp .lt 0, [11, 10], .null)]),
  (81, [(.nop, [1, 2], .null), (.aload 0, [], .null), (.ldc 0, [], .int 3), (.invokevirtual 67, [99, 2, 6, 124], .null), (.nop, [0], .null), (.goto 0, [12], .null)]),
  (89, [(.aload 0, [], .null), (.getfield 25, [6, 0, 112], .null), (.invokevirtual 64, [134, 1, 8, 123], .null), (.aload 0, [], .null), (.iload 2, [], .null), (.iload 1, [], .null), (.ldc 0, [], .int 1), (.iadd, [], .null), (.invokevirtual 120, [114, 3, 6, 140], .null), (.nop, [0, 1, 2], .null), (.jsr 0, [12], .null)]),
  (104, [(.return_, [], .null)])]
def mj_b112 : List (Nat × List mj_I) := [
  (0, [(.iload 0, [], .null), (.ldc 0, [], .int 40), (.if_icmp .eq 0, [5, 1], .null)]),
  (6, [(.iload 0, [], .null), (.ldc 0, [], .int 45), (.if_icmp .eq 0, [5, 2], .null)]),
  (12, [(.iload 0, [], .null), (.ldc 0, [], .int 135), (.if_icmp .eq 0, [5, 3], .null)]),
  (19, [(.iload 0, [], .null), (.ldc 0, [], .int 136), (.if_icmp .eq 0, [5, 4], .null)]),
  (26, [(.iload 0, [], .null), (.ldc 0, [], .int 137), (.nop, [0], .null), (.if_icmp .ne 0, [6, 5], .null)]),
  (33, [(.nop, [0], .null), (.ldc 0, [], .int 1), (.goto 0, [7], .null)]),
  (37, [(.ldc 0, [], .int 0), (.jsr 0, [7], .null)]),
  (38, [(.ireturn, [1], .null)])]
def mj_b113 : List (Nat × List mj_I) := [
  (0, [(.iload 1, [], .null), (.ldc 0, [], .int 150), (.if_icmp .ne 0, [2, 1], .null)]),
  (7, [(.aload 0, [], .null), (.getfield 80, [6, 7, 128], .null), (.ldc 0, [], .int 128), (.if_icmp .eq 0, [4, 2], .null)]),
  (17, [(.iload 1, [], .null), (.ldc 0, [], .int 151), (.if_icmp .ne 0, [5, 3], .null)]),
  (24, [(.aload 0, [], .null), (.getfield 80, [6, 7, 128], .null), (.ldc 0, [], .int 129), (.if_icmp .ne 0, [5, 4], .null)]),
  (34, [(.aload 0, [], .null), (.ldc 0, [], .int 5), (.invokevirtual 67, [99, 2, 6, 124], .null), (.jsr 0, [5], .null)]),
  (39, [(.aload 0, [], .null), (.iload 1, [], .null), (.ldc 0, [], .int 0), (.invokevirtual 107, [102, 3, 6, 136], .null), (.pop, [], .null), (.aload 0, [], .null), (.iload 1, [], .null), (.invokevirtual 74, [100, 2, 6, 126], .null), (.return_, [], .null)])]
def mj_b114 : List (Nat × List mj_I) := [
  (0, [(.iload 1, [], .null), (.ldc 0, [], .int 40), (.if_icmp .ne 0, [2, 1], .null)]),
  (6, [(.nop, [1], .null), (.aload 0, [], .null), (.iload 2, [], .null), (.invokevirtual 93, [109, 2, 6, 132], .null), (.aload 0, [], .null), (.ldc 0, [], .int 41), (.invokevirtual 74, [100, 2, 6, 126], .null), (.nop, [0, 2], .null), (.goto 0, [8], .null)]),
  (20, [(.iload 1, [], .null), (.ldc 0, [], .int 137), (.if_icmp .ne 0, [4, 3], .null)]),
  (27, [(.nop, [1], .null), (.aload 0, [], .null), (.iload 2, [], .null), (.invokevirtual 123, [115, 2, 6, 141], .null), (.nop, [0, 2], .null), (.goto 0, [8], .null)]),
  (35, [(.aload 0, [], .null), (.iload 2, [], .null), (.invokevirtual 110, [111, 2, 6, 137], .null), (.aload 0, [], .null), (.iload 1, [], .null), (.ldc 0, [], .int 45), (.nop, [0, 2], .null), (.if_icmp .ne 0, [6, 5], .null)]),
  (47, [(.nop, [1], .null), (.ldc 0, [], .int 5), (.goto 0, [7], .null)]),
  (51, [(.iload 1, [], .null), (.nop, [1], .null), (.jsr 0, [7], .null)]),
  (52, [(.ldc 0, [], .int 0), (.invokevirtual 107, [102, 3, 6, 136], .null), (.pop, [], .null), (.jsr 0, [8], .null)]),
  (57, [(.return_, [], .null)])]
def mj_b115 : List (Nat × List mj_I) := [
  (0, [(.aload 0, [], .null), (.iload 1, [], .null), (.invokevirtual 126, [116, 2, 6, 142], .null), (.aload 0, [], .null), (.ldc 0, [], .int 138), (.invokevirtual 74, [100, 2, 6, 126], .null), (.aload 0, [], .null), (.ldc 0, [], .int 6), (.ldc 0, [], .int 0), (.invokevirtual 107, [102, 3, 6, 136], .null), (.istore 2, [], .null), (.aload 0, [], .null), (.iload 1, [], .null), (.invokevirtual 93, [109, 2, 6, 132], .null), (.aload 0, [], .null), (.ldc 0, [], .int 139), (.invokevirtual 74, [100, 2, 6, 126], .null), (.aload 0, [], .null), (.ldc 0, [], .int 7), (.ldc 0, [], .int 0), (.invokevirtual 107, [102, 3, 6, 136], .null), (.istore 3, [], .null), (.aload 0, [], .null), (.iload 2, [], .null), (.invokevirtual 129, [103, 2, 6, 143], .null), (.aload 0, [], .null), (.iload 1, [], .null), (.invokevirtual 93, [109, 2, 6, 132], .null), (.aload 0, [], .null), (.ldc 0, [], .int 140), (.invokevirtual 74, [100, 2, 6, 126], .null), (.aload 0, [], .null), (.iload 3, [], .null), (.invokevirtual 129, [103, 2, 6, 143], .null), (.return_, [], .null)])]
def mj_b116 : List (Nat × List mj_I) := [
  (0, [(.aload 0, [], .null), (.iload 1, [], .null), (.invokevirtual 132, [117, 2, 6, 144], .null), (.ldc 0, [], .int 0), (.istore 2, [], .null), (.jsr 0, [1], .null)]),
  (7, [(.iload 2, [], .null), (.ldc 0, [], .int 300), (.if_icmp .ge 0, [5, 2], .null)]),
  (14, [(.aload 0, [], .null), (.getfield 18, [6, 8, 110], .null), (.ifCond .ne 0, [5, 3], .null)]),
  (21, [(.aload 0, [], .null), (.getfield 25, [6, 0, 112], .null), (.invokevirtual 43, [131, 1, 8, 117], .null), (.ldc 0, [], .int 141), (.if_icmp .ne 0, [5, 4], .null)]),
  (34, [(.aload 0, [], .null), (.getfield 25, [6, 0, 112], .null), (.invokevirtual 64, [134, 1, 8, 123], .null), (.aload 0, [], .null), (.iload 1, [], .null), (.invokevirtual 132, [117, 2, 6, 144], .null), (.aload 0, [], .null), (.ldc 0, [], .int 141), (.ldc 0, [], .int 0), (.invokevirtual 107, [102, 3, 6, 136], .null), (.pop, [], .null), (.iinc 2 0, [], .int 1), (.goto 0, [1], .null)]),
  (61, [(.nop, [0, 1, 2], .null), (.return_, [], .null)])]
def mj_b117 : List (Nat × List mj_I) := [
  (0, [(.aload 0, [], .null), (.iload 1, [], .null), (.invokevirtual 135, [118, 2, 6, 145], .null), (.ldc 0, [], .int 0), (.istore 2, [], .null), (.jsr 0, [1], .null)]),
  (7, [(.iload 2, [], .null), (.ldc 0, [], .int 300), (.if_icmp .ge 0, [5, 2], .null)]),
  (14, [(.aload 0, [], .null), (.getfield 18, [6, 8, 110], .null), (.ifCond .ne 0, [5, 3], .null)]),
  (21, [(.aload 0, [], .null), (.getfield 25, [6, 0, 112], .null), (.invokevirtual 43, [131, 1, 8, 117], .null), (.ldc 0, [], .int 142), (.if_icmp .ne 0, [5, 4], .null)]),
  (34, [(.aload 0, [], .null), (.getfield 25, [6, 0, 112], .null), (.invokevirtual 64, [134, 1, 8, 123], .null), (.aload 0, [], .null), (.iload 1, [], .null), (.invokevirtual 135, [118, 2, 6, 145], .null), (.aload 0, [], .null), (.ldc 0, [], .int 142), (.ldc 0, [], .int 0), (.invokevirtual 107, [102, 3, 6, 136], .null), (.pop, [], .null), (.iinc 2 0, [], .int 1), (.goto 0, [1], .null)]),
  (61, [(.nop, [0, 1, 2], .null), (.return_, [], .null)])]
def mj_b118 : List (Nat × List mj_I) := [
  (0, [(.aload 0, [], .null), (.getfield 18, [6, 8, 110], .null), (.ifCond .ne 0, [5, 1], .null)]),
  (7, [(.aload 0, [], .null), (.getfield 25, [6, 0, 112], .null), (.invokevirtual 43, [131, 1, 8, 117], .null), (.ldc 0, [], .int 143), (.if_icmp .ne 0, [5, 2], .null)]),
  (20, [(.iload 1, [], .null), (.ldc 0, [], .int 8), (.if_icmp .lt 0, [4, 3], .null)]),
  (26, [(.nop, [1], .null), (.aload 0, [], .null), (.ldc 0, [], .int 3), (.invokevirtual 67, [99, 2, 6, 124], .null), (.nop, [0], .null), (.goto 0, [6], .null)]),
  (34, [(.aload 0, [], .null), (.getfield 25, [6, 0, 112], .null), (.invokevirtual 64, [134, 1, 8, 123], .null), (.aload 0, [], .null), (.iload 1, [], .null), (.ldc 0, [], .int 1), (.iadd, [], .null), (.invokevirtual 135, [118, 2, 6, 145], .null), (.aload 0, [], .null), (.ldc 0, [], .int 143), (.ldc 0, [], .int 0), (.invokevirtual 107, [102, 3, 6, 136], .null), (.pop, [], .null), (.nop, [0, 1], .null), (.goto 0, [6], .null)]),
  (60, [(.aload 0, [], .null), (.iload 1, [], .null), (.invokevirtual 138, [119, 2, 6, 146], .null), (.nop, [0, 1], .null), (.jsr 0, [6], .null)]),
  (65, [(.return_, [], .null)])]
def mj_b119 : List (Nat × List mj_I) := [
  (0, [(.aload 0, [], .null), (.iload 1, [], .null), (.invokevirtual 93, [109, 2, 6, 132], .null), (.aload 0, [], .null), (.getfield 25, [6, 0, 112], .null), (.invokevirtual 43, [131, 1, 8, 117], .null), (.istore 2, [], .null), (.aload 0, [], .null), (.getfield 18, [6, 8, 110], .null), (.ifCond .ne 0, [3, 1], .null)]),
  (20, [(.iload 2, [], .null), (.invokestatic 141, [120, 1, 6, 147], .null), (.ifCond .eq 0, [3, 2], .null)]),
  (27, [(.aload 0, [], .null), (.getfield 25, [6, 0, 112], .null), (.invokevirtual 64, [134, 1, 8, 123], .null), (.aload 0, [], .null), (.iload 1, [], .null), (.invokevirtual 93, [109, 2, 6, 132], .null), (.aload 0, [], .null), (.iload 2, [], .null), (.ldc 0, [], .int 0), (.invokevirtual 107, [102, 3, 6, 136], .null), (.pop, [], .null), (.nop, [0, 1, 2], .null), (.goto 0, [4], .null)]),
  (49, [(.nop, [1, 2], .null), (.aload 0, [], .null), (.ldc 0, [], .int 1), (.invokevirtual 67, [99, 2, 6, 124], .null), (.nop, [0], .null), (.jsr 0, [4], .null)]),
  (54, [(.return_, [], .null)])]
def mj_b120 : List (Nat × List mj_I) := [
  (0, [(.iload 0, [], .null), (.ldc 0, [], .int 60), (.if_icmp .eq 0, [6, 1], .null)]),
  (6, [(.iload 0, [], .null), (.ldc 0, [], .int 62), (.if_icmp .eq 0, [6, 2], .null)]),
  (12, [(.iload 0, [], .null), (.ldc 0, [], .int 61), (.if_icmp .eq 0, [6, 3], .null)]),
  (18, [(.iload 0, [], .null), (.ldc 0, [], .int 35), (.if_icmp .eq 0, [6, 4], .null)]),
  (24, [(.iload 0, [], .null), (.ldc 0, [], .int 3), (.if_icmp .eq 0, [6, 5], .null)]),
  (29, [(.iload 0, [], .null), (.ldc 0, [], .int 4), (.nop, [0], .null), (.if_icmp .ne 0, [7, 6], .null)]),
  (34, [(.nop, [0], .null), (.ldc 0, [], .int 1), (.goto 0, [8], .null)]),
  (38, [(.ldc 0, [], .int 0), (.jsr 0, [8], .null)]),
  (39, [(.ireturn, [1], .null)])]
def mj_b121 : List (Nat × List mj_I) := [
  (0, [(.aload 0, [], .null), (.athrow, [3, 148], .null), (.aload 0, [], .null), (.ldc 0, [], .int 1620), (.newarray .int, [0, 1], .null), (.putfield 11, [7, 0, 3, 149], .null), (.return_, [], .null)])]
def mj_b122 : List (Nat × List mj_I) := [
  (0, [(.aload 1, [], .null), (.getfield 11, [7, 0, 149], .null), (.ldc 0, [], .int 0), (.aload 0, [], .null), (.getfield 11, [7, 0, 149], .null), (.ldc 0, [], .int 0), (.aload 0, [], .null), (.getfield 11, [7, 0, 149], .null), (.arraylength, [], .null), (.invokedynamic 17, [5, 5, 150], .null), (.aload 0, [], .null), (.aload 1, [], .null), (.getfield 23, [7, 1, 151], .null), (.putfield 23, [7, 1, 0, 151], .null), (.aload 0, [], .null), (.aload 1, [], .null), (.getfield 27, [7, 2, 152], .null), (.putfield 27, [7, 2, 0, 152], .null), (.return_, [], .null)])]
def mj_b123 : List (Nat × List mj_I) := [
  (0, [(.aload 0, [], .null), (.getfield 27, [7, 2, 152], .null), (.ireturn, [], .null)])]
def mj_b124 : List (Nat × List mj_I) := [
  (0, [(.aload 1, [], .null), (.aload 0, [], .null), (.getfield 11, [7, 0, 149], .null), (.aload 0, [], .null), (.getfield 23, [7, 1, 151], .null), (.ldc 0, [], .int 54), (.imul, [], .null), (.invokevirtual 30, [26, 3, 2, 153], .null), (.aload 0, [], .null), (.aload 0, [], .null), (.getfield 23, [7, 1, 151], .null), (.ldc 0, [], .int 1), (.iadd, [], .null), (.ldc 0, [], .int 30), (.irem, [], .null), (.putfield 23, [7, 1, 0, 151], .null), (.aload 0, [], .null), (.ldc 0, [], .int 30), (.aload 0, [], .null), (.getfield 27, [7, 2, 152], .null), (.ldc 0, [], .int 1), (.iadd, [], .null), (.invokedynamic 34, [1, 2, 154], .null), (.putfield 27, [7, 2, 0, 152], .null), (.return_, [], .null)])]
def mj_b125 : List (Nat × List mj_I) := [
  (0, [(.aload 0, [], .null), (.getfield 27, [7, 2, 152], .null), (.ifCond .ne 0, [2, 1], .null)]),
  (7, [(.nop, [0, 1], .null), (.ldc 0, [], .int (-1)), (.ireturn, [], .null)]),
  (9, [(.aload 0, [], .null), (.aload 0, [], .null), (.getfield 23, [7, 1, 151], .null), (.ldc 0, [], .int 30), (.iadd, [], .null), (.ldc 0, [], .int 1), (.isub, [], .null), (.ldc 0, [], .int 30), (.irem, [], .null), (.putfield 23, [7, 1, 0, 151], .null), (.aload 0, [], .null), (.dup, [], .null), (.getfield 27, [7, 2, 152], .null), (.ldc 0, [], .int 1), (.isub, [], .null), (.putfield 27, [7, 2, 0, 152], .null), (.aload 1, [], .null), (.aload 0, [], .null), (.getfield 11, [7, 0, 149], .null), (.aload 0, [], .null), (.getfield 23, [7, 1, 151], .null), (.ldc 0, [], .int 54), (.imul, [], .null), (.invokevirtual 40, [27, 3, 2, 155], .null), (.aload 0, [], .null), (.getfield 27, [7, 2, 152], .null), (.ireturn, [], .null)])]
def mj_b126 : List (Nat × List mj_I) := [
  (0, [(.aload 0, [], .null), (.athrow, [5, 156], .null), (.aload 0, [], .null), (.ldc 0, [], .int 300), (.newarray .char, [1, 157], .null), (.putfield 11, [8, 0, 3, 158], .null), (.aload 0, [], .null), (.ldc 0, [], .int 301), (.newarray .int, [0, 1], .null), (.putfield 15, [8, 1, 3, 159], .null), (.aload 0, [], .null), (.ldc 0, [], .int 301), (.newarray .int, [0, 1], .null), (.putfield 19, [8, 2, 3, 160], .null), (.aload 0, [], .null), (.ldc 0, [], .int 301), (.newarray .int, [0, 1], .null), (.putfield 22, [8, 3, 3, 161], .null), (.return_, [], .null)])]
def mj_b127 : List (Nat × List mj_I) := [
  (0, [(.aload 0, [], .null), (.getfield 25, [8, 4, 162], .null), (.ireturn, [], .null)])]
def mj_b128 : List (Nat × List mj_I) := [
  (0, [(.aload 0, [], .null), (.getfield 25, [8, 4, 162], .null), (.ldc 0, [], .int 20), (.iadd, [], .null), (.ldc 0, [], .int 300), (.nop, [0], .null), (.if_icmp .gt 0, [2, 1], .null)]),
  (13, [(.ldc 0, [], .int 1), (.goto 0, [3], .null)]),
  (17, [(.ldc 0, [], .int 0), (.jsr 0, [3], .null)]),
  (18, [(.ireturn, [1], .null)])]
def mj_b129 : List (Nat × List mj_I) := [
  (0, [(.ldc 0, [], .int 24), (.istore 2, [], .null), (.jsr 0, [1], .null)]),
  (3, [(.iload 2, [], .null), (.ifCond .lt 0, [5, 2], .null)]),
  (7, [(.aload 0, [], .null), (.getfield 25, [8, 4, 162], .null), (.ldc 0, [], .int 300), (.if_icmp .ge 0, [4, 3], .null)]),
  (17, [(.aload 0, [], .null), (.getfield 11, [8, 0, 158], .null), (.aload 0, [], .null), (.getfield 25, [8, 4, 162], .null), (.iload 1, [], .null), (.iload 2, [], .null), (.ishr, [], .null), (.ldc 0, [], .int 255), (.iand, [], .null), (.i2c, [], .null), (.castore, [], .null), (.aload 0, [], .null), (.dup, [], .null), (.getfield 25, [8, 4, 162], .null), (.ldc 0, [], .int 1), (.iadd, [], .null), (.putfield 25, [8, 4, 0, 162], .null), (.jsr 0, [4], .null)]),
  (44, [(.iinc 2 0, [], .int (-8)), (.goto 0, [1], .null)]),
  (50, [(.nop, [0, 1, 2], .null), (.return_, [], .null)])]
def mj_b130 : List (Nat × List mj_I) := [
  (0, [(.aload 0, [], .null), (.ldc 0, [], .int 0), (.iload 1, [], .null), (.aload 0, [], .null), (.getfield 25, [8, 4, 162], .null), (.invokedynamic 29, [1, 2, 163], .null), (.invokedynamic 35, [0, 2, 164], .null), (.putfield 25, [8, 4, 0, 162], .null), (.return_, [], .null)])]
def mj_b131 : List (Nat × List mj_I) := [
  (0, [(.aload 0, [], .null), (.getfield 38, [8, 6, 165], .null), (.aload 0, [], .null), (.getfield 41, [8, 5, 166], .null), (.if_icmp .ge 0, [2, 1], .null)]),
  (11, [(.aload 0, [], .null), (.getfield 15, [8, 1, 159], .null), (.aload 0, [], .null), (.getfield 38, [8, 6, 165], .null), (.iaload, [], .null), (.nop, [0], .null), (.goto 0, [3], .null)]),
  (23, [(.nop, [0], .null), (.ldc 0, [], .int 0), (.jsr 0, [3], .null)]),
  (24, [(.ireturn, [], .null)])]
def mj_b132 : List (Nat × List mj_I) := [
  (0, [(.aload 0, [], .null), (.getfield 38, [8, 6, 165], .null), (.aload 0, [], .null), (.getfield 41, [8, 5, 166], .null), (.if_icmp .ge 0, [2, 1], .null)]),
  (11, [(.aload 0, [], .null), (.getfield 19, [8, 2, 160], .null), (.aload 0, [], .null), (.getfield 38, [8, 6, 165], .null), (.iaload, [], .null), (.nop, [0], .null), (.goto 0, [3], .null)]),
  (23, [(.nop, [0], .null), (.ldc 0, [], .int 0), (.jsr 0, [3], .null)]),
  (24, [(.ireturn, [], .null)])]
def mj_b133 : List (Nat × List mj_I) := [
  (0, [(.aload 0, [], .null), (.getfield 38, [8, 6, 165], .null), (.aload 0, [], .null), (.getfield 41, [8, 5, 166], .null), (.if_icmp .ge 0, [2, 1], .null)]),
  (11, [(.aload 0, [], .null), (.getfield 22, [8, 3, 161], .null), (.aload 0, [], .null), (.getfield 38, [8, 6, 165], .null), (.iaload, [], .null), (.nop, [0], .null), (.goto 0, [3], .null)]),
  (23, [(.aload 0, [], .null), (.getfield 25, [8, 4, 162], .null), (.nop, [0], .null), (.jsr 0, [3], .null)]),
  (27, [(.ireturn, [], .null)])]
def mj_b134 : List (Nat × List mj_I) := [
  (0, [(.aload 0, [], .null), (.dup, [], .null), (.getfield 38, [8, 6, 165], .null), (.ldc 0, [], .int 1), (.iadd, [], .null), (.putfield 38, [8, 6, 0, 165], .null), (.return_, [], .null)])]
def mj_b135 : List (Nat × List mj_I) := [
  (0, [(.aload 0, [], .null), (.ldc 0, [], .int 0), (.putfield 41, [8, 5, 0, 166], .null), (.aload 0, [], .null), (.ldc 0, [], .int 0), (.putfield 38, [8, 6, 0, 165], .null), (.ldc 0, [], .int 0), (.istore 1, [], .null), (.jsr 0, [1], .null)]),
  (12, [(.iload 1, [], .null), (.aload 0, [], .null), (.getfield 25, [8, 4, 162], .null), (.if_icmp .ge 0, [6, 2], .null)]),
  (20, [(.aload 0, [], .null), (.getfield 11, [8, 0, 158], .null), (.iload 1, [], .null), (.caload, [], .null), (.invokestatic 44, [141, 1, 8, 167], .null), (.ifCond .eq 0, [4, 3], .null)]),
  (32, [(.iload 1, [], .null), (.ldc 0, [], .int 1), (.iadd, [], .null), (.goto 0, [5], .null)]),
  (38, [(.aload 0, [], .null), (.iload 1, [], .null), (.invokevirtual 48, [136, 2, 8, 168], .null), (.jsr 0, [5], .null)]),
  (43, [(.istore 2, [], .null), (.iload 1, [], .null), (.ldc 0, [], .int 1), (.iadd, [], .null), (.iload 2, [], .null), (.invokedynamic 35, [0, 2, 164], .null), (.istore 1, [], .null), (.nop, [2], .null), (.goto 0, [1], .null)]),
  (55, [(.nop, [0, 1], .null), (.return_, [], .null)])]
def mj_b136 : List (Nat × List mj_I) := [
  (0, [(.aload 0, [], .null), (.getfield 11, [8, 0, 158], .null), (.iload 1, [], .null), (.caload, [], .null), (.istore 2, [], .null), (.iload 1, [], .null), (.ldc 0, [], .int 1), (.iadd, [], .null), (.istore 3, [], .null), (.iload 2, [], .null), (.invokestatic 52, [142, 1, 8, 169], .null), (.ifCond .eq 0, [5, 1], .null)]),
  (18, [(.nop, [2], .null), (.iload 3, [], .null), (.aload 0, [], .null), (.getfield 25, [8, 4, 162], .null), (.if_icmp .ge 0, [4, 2], .null)]),
  (26, [(.aload 0, [], .null), (.getfield 11, [8, 0, 158], .null), (.iload 3, [], .null), (.caload, [], .null), (.invokestatic 52, [142, 1, 8, 169], .null), (.ifCond .eq 0, [4, 3], .null)]),
  (38, [(.iinc 3 0, [], .int 1), (.goto 0, [1], .null)]),
  (44, [(.aload 0, [], .null), (.aload 0, [], .null), (.iload 1, [], .null), (.iload 3, [], .null), (.invokevirtual 55, [139, 3, 8, 170], .null), (.ldc 0, [], .int 0), (.iload 1, [], .null), (.invokevirtual 58, [137, 4, 8, 171], .null), (.nop, [0, 1], .null), (.goto 0, [22], .null)]),
  (59, [(.iload 2, [], .null), (.invokestatic 62, [143, 1, 8, 172], .null), (.ifCond .eq 0, [10, 6], .null)]),
  (66, [(.nop, [2], .null), (.iload 3, [], .null), (.aload 0, [], .null), (.getfield 25, [8, 4, 162], .null), (.if_icmp .ge 0, [9, 7], .null)]),
  (74, [(.aload 0, [], .null), (.getfield 11, [8, 0, 158], .null), (.iload 3, [], .null), (.caload, [], .null), (.invokestatic 62, [143, 1, 8, 172], .null), (.ifCond .eq 0, [9, 8], .null)]),
  (86, [(.iinc 3 0, [], .int 1), (.goto 0, [6], .null)]),
  (92, [(.aload 0, [], .null), (.ldc 0, [], .int 2), (.aload 0, [], .null), (.iload 1, [], .null), (.iload 3, [], .null), (.invokevirtual 65, [138, 3, 8, 173], .null), (.iload 1, [], .null), (.invokevirtual 58, [137, 4, 8, 171], .null), (.nop, [0, 1], .null), (.goto 0, [22], .null)]),
  (107, [(.iload 2, [], .null), (.ldc 0, [], .int 60), (.if_icmp .eq 0, [12, 11], .null)]),
  (113, [(.iload 2, [], .null), (.ldc 0, [], .int 62), (.if_icmp .ne 0, [18, 12], .null)]),
  (119, [(.iload 3, [], .null), (.aload 0, [], .null), (.getfield 25, [8, 4, 162], .null), (.if_icmp .ge 0, [18, 13], .null)]),
  (127, [(.aload 0, [], .null), (.getfield 11, [8, 0, 158], .null), (.iload 3, [], .null), (.caload, [], .null), (.ldc 0, [], .int 61), (.if_icmp .ne 0, [18, 14], .null)]),
  (138, [(.iinc 3 0, [], .int 1), (.aload 0, [], .null), (.iload 2, [], .null), (.ldc 0, [], .int 60), (.nop, [0, 2], .null), (.if_icmp .ne 0, [16, 15], .null)]),
  (148, [(.ldc 0, [], .int 3), (.goto 0, [17], .null)]),
  (152, [(.ldc 0, [], .int 4), (.jsr 0, [17], .null)]),
  (153, [(.ldc 0, [], .int 0), (.iload 1, [], .null), (.invokevirtual 58, [137, 4, 8, 171], .null), (.nop, [1], .null), (.goto 0, [22], .null)]),
  (161, [(.aload 0, [], .null), (.ldc 68, [0], .retAddr 2), (.iload 2, [], .null), (.invokevirtual 70, [383, 2, 16, 174], .null), (.nop, [0], .null), (.ifCond .lt 0, [20, 19], .null)]),
  (171, [(.iload 2, [], .null), (.nop, [2], .null), (.goto 0, [21], .null)]),
  (175, [(.nop, [2], .null), (.ldc 0, [], .int 1), (.jsr 0, [21], .null)]),
  (176, [(.ldc 0, [], .int 0), (.iload 1, [], .null), (.invokevirtual 58, [137, 4, 8, 171], .null), (.nop, [1], .null), (.jsr 0, [22], .null)]),
  (181, [(.iload 3, [], .null), (.ireturn, [], .null)])]
def mj_b137 : List (Nat × List mj_I) := [
  (0, [(.aload 0, [], .null), (.getfield 41, [8, 5, 166], .null), (.ldc 0, [], .int 300), (.if_icmp .ge 0, [2, 1], .null)]),
  (10, [(.aload 0, [], .null), (.getfield 15, [8, 1, 159], .null), (.aload 0, [], .null), (.getfield 41, [8, 5, 166], .null), (.iload 1, [], .null), (.iastore, [], .null), (.aload 0, [], .null), (.getfield 19, [8, 2, 160], .null), (.aload 0, [], .null), (.getfield 41, [8, 5, 166], .null), (.iload 2, [], .null), (.iastore, [], .null), (.aload 0, [], .null), (.getfield 22, [8, 3, 161], .null), (.aload 0, [], .null), (.getfield 41, [8, 5, 166], .null), (.iload 3, [], .null), (.iastore, [], .null), (.aload 0, [], .null), (.dup, [], .null), (.getfield 41, [8, 5, 166], .null), (.ldc 0, [], .int 1), (.iadd, [], .null), (.putfield 41, [8, 5, 0, 166], .null), (.nop, [0, 1, 2, 3], .null), (.jsr 0, [2], .null)]),
  (50, [(.nop, [0, 1, 2, 3], .null), (.return_, [], .null)])]
def mj_b138 : List (Nat × List mj_I) := [
  (0, [(.ldc 0, [], .int 0), (.istore 3, [], .null), (.iload 1, [], .null), (.istore 4, [], .null), (.nop, [1], .null), (.jsr 0, [1], .null)]),
  (5, [(.iload 4, [], .null), (.iload 2, [], .null), (.if_icmp .ge 0, [3, 2], .null)]),
  (11, [(.ldc 0, [], .int 10000), (.iload 3, [], .null), (.ldc 0, [], .int 10), (.imul, [], .null), (.aload 0, [], .null), (.getfield 11, [8, 0, 158], .null), (.iload 4, [], .null), (.caload, [], .null), (.iadd, [], .null), (.ldc 0, [], .int 48), (.isub, [], .null), (.invokedynamic 29, [1, 2, 163], .null), (.istore 3, [], .null), (.iinc 4 0, [], .int 1), (.goto 0, [1], .null)]),
  (39, [(.nop, [0, 2, 4], .null), (.iload 3, [], .null), (.ireturn, [], .null)])]
def mj_b139 : List (Nat × List mj_I) := [
  (0, [(.ldc 0, [], .int 0), (.istore 3, [], .null), (.ldc 0, [], .int 0), (.istore 4, [], .null), (.ldc 0, [], .int 0), (.istore 5, [], .null), (.jsr 0, [1], .null)]),
  (8, [(.iload 5, [], .null), (.ldc 75, [0], .retAddr 3), (.invokevirtual 77, [386, 1, 16, 175], .null), (.if_icmp .ge 0, [8, 2], .null)]),
  (18, [(.ldc 75, [0], .retAddr 3), (.iload 5, [], .null), (.invokevirtual 80, [380, 2, 16, 176], .null), (.ldc 0, [], .int 32), (.if_icmp .ne 0, [7, 3], .null)]),
  (30, [(.iload 5, [], .null), (.iload 4, [], .null), (.isub, [], .null), (.iload 2, [], .null), (.iload 1, [], .null), (.isub, [], .null), (.if_icmp .ne 0, [6, 4], .null)]),
  (41, [(.aload 0, [], .null), (.iload 4, [], .null), (.iload 1, [], .null), (.iload 5, [], .null), (.iload 4, [], .null), (.isub, [], .null), (.invokevirtual 84, [140, 4, 8, 177], .null), (.nop, [4], .null), (.ifCond .eq 0, [6, 5], .null)]),
  (56, [(.nop, [0, 1, 2, 5], .null), (.ldc 0, [], .int 128), (.iload 3, [], .null), (.iadd, [], .null), (.ireturn, [], .null)]),
  (62, [(.nop, [4], .null), (.iinc 3 0, [], .int 1), (.iload 5, [], .null), (.ldc 0, [], .int 1), (.iadd, [], .null), (.istore 4, [], .null), (.jsr 0, [7], .null)]),
  (71, [(.iinc 5 0, [], .int 1), (.goto 0, [1], .null)]),
  (77, [(.nop, [0, 1, 2, 3, 4, 5], .null), (.ldc 0, [], .int 1), (.ireturn, [], .null)])]
def mj_b140 : List (Nat × List mj_I) := [
  (0, [(.ldc 0, [], .int 0), (.istore 4, [], .null), (.jsr 0, [1], .null)]),
  (3, [(.iload 4, [], .null), (.iload 3, [], .null), (.if_icmp .ge 0, [5, 2], .null)]),
  (9, [(.ldc 75, [0], .retAddr 3), (.iload 1, [], .null), (.iload 4, [], .null), (.iadd, [], .null), (.invokevirtual 80, [380, 2, 16, 176], .null), (.aload 0, [], .null), (.getfield 11, [8, 0, 158], .null), (.iload 2, [], .null), (.iload 4, [], .null), (.iadd, [], .null), (.caload, [], .null), (.if_icmp .eq 0, [4, 3], .null)]),
  (30, [(.nop, [0, 1, 2, 3, 4], .null), (.ldc 0, [], .int 0), (.ireturn, [1], .null)]),
  (32, [(.iinc 4 0, [], .int 1), (.goto 0, [1], .null)]),
  (38, [(.nop, [0, 1, 2, 3, 4], .null), (.ldc 0, [], .int 1), (.ireturn, [1], .null)])]
def mj_b141 : List (Nat × List mj_I) := [
  (0, [(.iload 0, [], .null), (.ldc 0, [], .int 32), (.if_icmp .eq 0, [2, 1], .null)]),
  (6, [(.iload 0, [], .null), (.ldc 0, [], .int 10), (.nop, [0], .null), (.if_icmp .ne 0, [3, 2], .null)]),
  (12, [(.nop, [0], .null), (.ldc 0, [], .int 1), (.goto 0, [4], .null)]),
  (16, [(.ldc 0, [], .int 0), (.jsr 0, [4], .null)]),
  (17, [(.ireturn, [1], .null)])]
def mj_b142 : List (Nat × List mj_I) := [
  (0, [(.iload 0, [], .null), (.ldc 0, [], .int 97), (.if_icmp .lt 0, [2, 1], .null)]),
  (6, [(.iload 0, [], .null), (.ldc 0, [], .int 122), (.if_icmp .le 0, [4, 2], .null)]),
  (12, [(.iload 0, [], .null), (.ldc 0, [], .int 65), (.if_icmp .lt 0, [5, 3], .null)]),
  (18, [(.iload 0, [], .null), (.ldc 0, [], .int 90), (.nop, [0], .null), (.if_icmp .gt 0, [5, 4], .null)]),
  (24, [(.nop, [0], .null), (.ldc 0, [], .int 1), (.goto 0, [6], .null)]),
  (28, [(.nop, [0], .null), (.ldc 0, [], .int 0), (.jsr 0, [6], .null)]),
  (29, [(.ireturn, [1], .null)])]
def mj_b143 : List (Nat × List mj_I) := [
  (0, [(.iload 0, [], .null), (.ldc 0, [], .int 48), (.if_icmp .lt 0, [3, 1], .null)]),
  (6, [(.iload 0, [], .null), (.ldc 0, [], .int 57), (.nop, [0], .null), (.if_icmp .gt 0, [3, 2], .null)]),
  (12, [(.ldc 0, [], .int 1), (.goto 0, [4], .null)]),
  (16, [(.nop, [0], .null), (.ldc 0, [], .int 0), (.jsr 0, [4], .null)]),
  (17, [(.ireturn, [1], .null)])]
def mj_b144 : List (Nat × List mj_I) := [
  (0, [(.aload 0, [], .null), (.athrow, [3, 178], .null), (.aload 0, [], .null), (.aload 1, [], .null), (.putfield 9, [9, 0, 3, 179], .null), (.aload 0, [], .null), (.aload 2, [], .null), (.putfield 15, [9, 1, 3, 180], .null), (.aload 0, [], .null), (.aload 3, [], .null), (.putfield 18, [9, 2, 3, 181], .null), (.return_, [], .null)])]
def mj_b145 : List (Nat × List mj_I) := [
  (0, [(.aload 0, [], .null), (.getfield 18, [9, 2, 181], .null), (.arraylength, [], .null), (.ldc 0, [], .int 3), (.idiv, [], .null), (.ireturn, [], .null)])]
def mj_b146 : List (Nat × List mj_I) := [
  (0, [(.iload 1, [], .null), (.ldc 0, [], .int 3), (.imul, [], .null), (.iload 2, [], .null), (.iadd, [], .null), (.istore 3, [], .null), (.iload 3, [], .null), (.nop, [1, 2], .null), (.ifCond .lt 0, [3, 1], .null)]),
  (10, [(.iload 3, [], .null), (.aload 0, [], .null), (.getfield 18, [9, 2, 181], .null), (.arraylength, [], .null), (.if_icmp .ge 0, [3, 2], .null)]),
  (19, [(.aload 0, [], .null), (.getfield 18, [9, 2, 181], .null), (.iload 3, [], .null), (.iaload, [], .null), (.nop, [0, 3], .null), (.goto 0, [4], .null)]),
  (28, [(.nop, [0, 3], .null), (.ldc 0, [], .int 0), (.jsr 0, [4], .null)]),
  (29, [(.ireturn, [], .null)])]
def mj_b147 : List (Nat × List mj_I) := [
  (0, [(.aload 0, [], .null), (.athrow, [3, 182], .null), (.aload 0, [], .null), (.new 9, [3, 183], .null), (.dup, [], .null), (.invokespecial 11, [52, 1, 3, 184], .null), (.putfield 12, [10, 0, 3, 185], .null), (.aload 0, [], .null), (.new 18, [2, 186], .null), (.dup, [], .null), (.invokespecial 20, [24, 1, 2, 187], .null), (.putfield 21, [10, 1, 3, 188], .null), (.aload 0, [], .null), (.new 25, [1, 189], .null), (.dup, [], .null), (.invokespecial 27, [12, 1, 1, 190], .null), (.putfield 28, [10, 2, 3, 191], .null), (.aload 0, [], .null), (.new 32, [4, 192], .null), (.dup, [], .null), (.invokespecial 34, [71, 1, 4, 193], .null), (.putfield 35, [10, 3, 3, 194], .null), (.aload 0, [], .null), (.new 39, [7, 195], .null), (.dup, [], .null), (.invokespecial 41, [121, 1, 7, 196], .null), (.putfield 42, [10, 4, 3, 197], .null), (.aload 0, [], .null), (.ldc 0, [], .int 4), (.anewarray 46, [4, 198, 199], .null), (.putfield 48, [10, 5, 3, 200], .null), (.aload 0, [], .null), (.ldc 0, [], .int 8), (.newarray .int, [0, 1], .null), (.putfield 52, [10, 6, 3, 201], .null), (.aload 0, [], .null), (.ldc 0, [], .int 8), (.newarray .int, [0, 1], .null), (.putfield 56, [10, 7, 3, 202], .null), (.aload 0, [], .null), (.ldc 0, [], .int (-1)), (.putfield 59, [10, 10, 0, 203], .null), (.aload 0, [], .null), (.aload 1, [], .null), (.putfield 63, [10, 8, 3, 204], .null), (.return_, [], .null)])]
def mj_b148 : List (Nat × List mj_I) := [
  (0, [(.aload 0, [], .null), (.getfield 12, [10, 0, 185], .null), (.aload 1, [], .null), (.getfield 12, [10, 0, 185], .null), (.invokevirtual 67, [53, 2, 3, 205], .null), (.aload 0, [], .null), (.getfield 21, [10, 1, 188], .null), (.aload 1, [], .null), (.getfield 21, [10, 1, 188], .null), (.invokevirtual 71, [25, 2, 2, 206], .null), (.aload 0, [], .null), (.getfield 28, [10, 2, 191], .null), (.aload 1, [], .null), (.getfield 28, [10, 2, 191], .null), (.invokevirtual 74, [13, 2, 1, 207], .null), (.aload 0, [], .null), (.getfield 35, [10, 3, 194], .null), (.aload 1, [], .null), (.getfield 35, [10, 3, 194], .null), (.invokevirtual 77, [72, 2, 4, 208], .null), (.aload 0, [], .null), (.getfield 42, [10, 4, 197], .null), (.aload 1, [], .null), (.getfield 42, [10, 4, 197], .null), (.invokevirtual 80, [122, 2, 7, 209], .null), (.ldc 0, [], .int 0), (.istore 2, [], .null), (.jsr 0, [1], .null)]),
  (57, [(.iload 2, [], .null), (.ldc 0, [], .int 4), (.if_icmp .ge 0, [3, 2], .null)]),
  (62, [(.aload 0, [], .null), (.getfield 48, [10, 5, 200], .null), (.iload 2, [], .null), (.aload 1, [], .null), (.getfield 48, [10, 5, 200], .null), (.iload 2, [], .null), (.aaload, [], .null), (.aastore, [9], .null), (.iinc 2 0, [], .int 1), (.goto 0, [1], .null)]),
  (80, [(.nop, [2], .null), (.aload 1, [], .null), (.getfield 52, [10, 6, 201], .null), (.ldc 0, [], .int 0), (.aload 0, [], .null), (.getfield 52, [10, 6, 201], .null), (.ldc 0, [], .int 0), (.ldc 0, [], .int 8), (.invokedynamic 83, [5, 5, 210], .null), (.aload 1, [], .null), (.getfield 56, [10, 7, 202], .null), (.ldc 0, [], .int 0), (.aload 0, [], .null), (.getfield 56, [10, 7, 202], .null), (.ldc 0, [], .int 0), (.ldc 0, [], .int 8), (.invokedynamic 83, [5, 5, 210], .null), (.aload 0, [], .null), (.aload 1, [], .null), (.getfield 89, [10, 9, 211], .null), (.putfield 89, [10, 9, 0, 211], .null), (.aload 0, [], .null), (.aload 1, [], .null), (.getfield 59, [10, 10, 203], .null), (.putfield 59, [10, 10, 0, 203], .null), (.aload 0, [], .null), (.aload 1, [], .null), (.getfield 92, [10, 11, 212], .null), (.putfield 92, [10, 11, 0, 212], .null), (.return_, [], .null)])]
def mj_b149 : List (Nat × List mj_I) := [
  (0, [(.aload 0, [], .null), (.getfield 89, [10, 9, 211], .null), (.ireturn, [], .null)])]
def mj_b150 : List (Nat × List mj_I) := [
  (0, [(.aload 0, [], .null), (.getfield 59, [10, 10, 203], .null), (.ireturn, [], .null)])]
def mj_b151 : List (Nat × List mj_I) := [
  (0, [(.aload 0, [], .null), (.getfield 92, [10, 11, 212], .null), (.ireturn, [], .null)])]
def mj_b152 : List (Nat × List mj_I) := [
  (0, [(.aload 0, [], .null), (.getfield 42, [10, 4, 197], .null), (.invokevirtual 95, [123, 1, 7, 213], .null), (.ireturn, [], .null)])]
def mj_b153 : List (Nat × List mj_I) := [
  (0, [(.iload 1, [], .null), (.ifCond .lt 0, [3, 1], .null)]),
  (4, [(.iload 1, [], .null), (.aload 0, [], .null), (.getfield 89, [10, 9, 211], .null), (.nop, [0, 1], .null), (.if_icmp .ge 0, [3, 2], .null)]),
  (12, [(.ldc 0, [], .int 1), (.goto 0, [4], .null)]),
  (16, [(.nop, [0, 1], .null), (.ldc 0, [], .int 0), (.jsr 0, [4], .null)]),
  (17, [(.ireturn, [1], .null)])]
def mj_b154 : List (Nat × List mj_I) := [
  (0, [(.aload 0, [], .null), (.getfield 89, [10, 9, 211], .null), (.ldc 0, [], .int 4), (.if_icmp .lt 0, [2, 1], .null)]),
  (8, [(.nop, [0, 1], .null), (.ldc 0, [], .int (-1)), (.ireturn, [], .null)]),
  (10, [(.aload 0, [], .null), (.getfield 48, [10, 5, 200], .null), (.aload 0, [], .null), (.getfield 89, [10, 9, 211], .null), (.aload 1, [], .null), (.aastore, [9], .null), (.aload 0, [], .null), (.dup, [], .null), (.getfield 89, [10, 9, 211], .null), (.ldc 0, [], .int 1), (.iadd, [], .null), (.putfield 89, [10, 9, 0, 211], .null), (.aload 0, [], .null), (.getfield 89, [10, 9, 211], .null), (.ldc 0, [], .int 1), (.isub, [], .null), (.ireturn, [], .null)])]
def mj_b155 : List (Nat × List mj_I) := [
  (0, [(.aload 0, [], .null), (.iload 1, [], .null), (.putfield 59, [10, 10, 0, 203], .null), (.return_, [], .null)])]
def mj_b156 : List (Nat × List mj_I) := [
  (0, [(.aload 0, [], .null), (.iload 1, [], .null), (.invokevirtual 99, [153, 2, 10, 214], .null), (.ifCond .eq 0, [2, 1], .null)]),
  (8, [(.aload 0, [], .null), (.getfield 48, [10, 5, 200], .null), (.iload 1, [], .null), (.aaload, [], .null), (.nop, [0, 1], .null), (.goto 0, [3], .null)]),
  (17, [(.nop, [0, 1], .null), (.ldc 0, [], .null), (.jsr 0, [3], .null)]),
  (18, [(.areturn, [], .null)])]
def mj_b157 : List (Nat × List mj_I) := [
  (0, [(.aload 0, [], .null), (.getfield 63, [10, 8, 204], .null), (.aload 0, [], .null), (.aload 0, [], .null), (.getfield 59, [10, 10, 203], .null), (.invokevirtual 103, [156, 2, 10, 215], .null), (.aload 0, [], .null), (.getfield 21, [10, 1, 188], .null), (.aload 0, [], .null), (.getfield 12, [10, 0, 185], .null), (.iload 1, [], .null), (.invokevirtual 107, [1, 5, 0, 216], .null), (.ireturn, [], .null)])]
def mj_b158 : List (Nat × List mj_I) := [
  (0, [(.aload 0, [], .null), (.getfield 63, [10, 8, 204], .null), (.aload 0, [], .null), (.aload 0, [], .null), (.getfield 59, [10, 10, 203], .null), (.invokevirtual 103, [156, 2, 10, 215], .null), (.aload 0, [], .null), (.getfield 21, [10, 1, 188], .null), (.aload 0, [], .null), (.getfield 12, [10, 0, 185], .null), (.iload 1, [], .null), (.invokevirtual 113, [2, 5, 0, 217], .null), (.ireturn, [], .null)])]
def mj_b159 : List (Nat × List mj_I) := [
  (0, [(.aload 0, [], .null), (.getfield 42, [10, 4, 197], .null), (.aload 0, [], .null), (.getfield 21, [10, 1, 188], .null), (.invokevirtual 116, [125, 2, 7, 218], .null), (.ireturn, [], .null)])]
def mj_b160 : List (Nat × List mj_I) := [
  (0, [(.iload 1, [], .null), (.nop, [1], .null), (.ifCond .eq 0, [2, 1], .null)]),
  (4, [(.aload 0, [], .null), (.getfield 42, [10, 4, 197], .null), (.aload 0, [], .null), (.getfield 21, [10, 1, 188], .null), (.invokevirtual 120, [124, 2, 7, 219], .null), (.nop, [0], .null), (.jsr 0, [2], .null)]),
  (15, [(.nop, [0], .null), (.return_, [], .null)])]
def mj_b161 : List (Nat × List mj_I) := [
  (0, [(.aload 0, [], .null), (.getfield 21, [10, 1, 188], .null), (.iload 1, [], .null), (.ldc 0, [], .int 2), (.invokevirtual 123, [30, 3, 2, 220], .null), (.ifCond .eq 0, [2, 1], .null)]),
  (12, [(.aload 0, [], .null), (.getfield 21, [10, 1, 188], .null), (.iload 1, [], .null), (.ldc 0, [], .int 1), (.invokevirtual 123, [30, 3, 2, 220], .null), (.ldc 0, [], .int 8), (.if_icmp .lt 0, [3, 2], .null)]),
  (26, [(.nop, [0, 1, 2], .null), (.ldc 0, [], .int (-1)), (.ireturn, [], .null)]),
  (28, [(.aload 0, [], .null), (.getfield 63, [10, 8, 204], .null), (.aload 0, [], .null), (.aload 0, [], .null), (.getfield 59, [10, 10, 203], .null), (.invokevirtual 103, [156, 2, 10, 215], .null), (.aload 0, [], .null), (.getfield 21, [10, 1, 188], .null), (.aload 0, [], .null), (.getfield 12, [10, 0, 185], .null), (.iload 1, [], .null), (.invokevirtual 107, [1, 5, 0, 216], .null), (.ifCond .gt 0, [5, 4], .null)]),
  (55, [(.nop, [0, 1, 2], .null), (.ldc 0, [], .int (-1)), (.ireturn, [], .null)]),
  (57, [(.aload 0, [], .null), (.iload 2, [], .null), (.invokevirtual 127, [160, 2, 10, 221], .null), (.aload 0, [], .null), (.getfield 21, [10, 1, 188], .null), (.iload 1, [], .null), (.aload 0, [], .null), (.getfield 12, [10, 0, 185], .null), (.invokevirtual 131, [38, 3, 2, 222], .null), (.ireturn, [], .null)])]
def mj_b162 : List (Nat × List mj_I) := [
  (0, [(.aload 0, [], .null), (.getfield 21, [10, 1, 188], .null), (.iload 1, [], .null), (.ldc 0, [], .int 1), (.invokevirtual 123, [30, 3, 2, 220], .null), (.ifCond .ne 0, [2, 1], .null)]),
  (12, [(.nop, [0, 1, 2], .null), (.ldc 0, [], .int (-1)), (.ireturn, [], .null)]),
  (14, [(.aload 0, [], .null), (.iload 2, [], .null), (.invokevirtual 127, [160, 2, 10, 221], .null), (.aload 0, [], .null), (.getfield 21, [10, 1, 188], .null), (.iload 1, [], .null), (.aload 0, [], .null), (.getfield 12, [10, 0, 185], .null), (.invokevirtual 135, [39, 3, 2, 223], .null), (.ireturn, [], .null)])]
def mj_b163 : List (Nat × List mj_I) := [
  (0, [(.aload 0, [], .null), (.getfield 21, [10, 1, 188], .null), (.iload 1, [], .null), (.invokevirtual 138, [29, 2, 2, 224], .null), (.ifCond .eq 0, [2, 1], .null)]),
  (11, [(.aload 0, [], .null), (.getfield 21, [10, 1, 188], .null), (.iload 1, [], .null), (.ldc 0, [], .int 1), (.invokevirtual 123, [30, 3, 2, 220], .null), (.ifCond .le 0, [3, 2], .null)]),
  (23, [(.nop, [0, 1, 2, 3], .null), (.ldc 0, [], .int 0), (.ireturn, [1], .null)]),
  (25, [(.iload 2, [], .null), (.invokestatic 141, [223, 1, 11, 225], .null), (.ifCond .eq 0, [5, 4], .null)]),
  (32, [(.aload 0, [], .null), (.getfield 21, [10, 1, 188], .null), (.iload 1, [], .null), (.ldc 0, [], .int 0), (.invokevirtual 123, [30, 3, 2, 220], .null), (.iload 2, [], .null), (.if_icmp .ne 0, [6, 5], .null)]),
  (45, [(.nop, [0, 1, 2, 3], .null), (.ldc 0, [], .int 0), (.ireturn, [1], .null)]),
  (47, [(.aload 0, [], .null), (.iload 3, [], .null), (.invokevirtual 127, [160, 2, 10, 221], .null), (.aload 0, [], .null), (.getfield 21, [10, 1, 188], .null), (.iload 1, [], .null), (.iload 2, [], .null), (.aload 0, [], .null), (.getfield 12, [10, 0, 185], .null), (.invokevirtual 144, [40, 4, 2, 226], .null), (.ldc 0, [], .int 1), (.ireturn, [1], .null)])]
def mj_b164 : List (Nat × List mj_I) := [
  (0, [(.aload 0, [], .null), (.getfield 21, [10, 1, 188], .null), (.iload 1, [], .null), (.invokevirtual 138, [29, 2, 2, 224], .null), (.ifCond .eq 0, [3, 1], .null)]),
  (11, [(.iload 2, [], .null), (.ldc 0, [], .int 1), (.if_icmp .lt 0, [3, 2], .null)]),
  (16, [(.iload 2, [], .null), (.ldc 0, [], .int 99), (.aload 0, [], .null), (.getfield 21, [10, 1, 188], .null), (.iload 1, [], .null), (.ldc 0, [], .int 2), (.invokevirtual 123, [30, 3, 2, 220], .null), (.isub, [], .null), (.if_icmp .le 0, [4, 3], .null)]),
  (32, [(.nop, [0, 1, 2], .null), (.ldc 0, [], .int 0), (.ireturn, [1], .null)]),
  (34, [(.aload 0, [], .null), (.ldc 0, [], .int 1), (.invokevirtual 127, [160, 2, 10, 221], .null), (.aload 0, [], .null), (.getfield 21, [10, 1, 188], .null), (.iload 1, [], .null), (.iload 2, [], .null), (.invokevirtual 148, [41, 3, 2, 227], .null), (.ldc 0, [], .int 1), (.ireturn, [1], .null)])]
def mj_b165 : List (Nat × List mj_I) := [
  (0, [(.aload 1, [], .null), (.ldc 0, [], .int 1), (.invokevirtual 152, [28, 2, 2, 228], .null), (.ldc 0, [], .int 9999), (.if_icmp .lt 0, [2, 1], .null)]),
  (11, [(.nop, [0, 1, 2], .null), (.ldc 0, [], .int (-1)), (.ireturn, [], .null)]),
  (13, [(.aload 0, [], .null), (.iload 2, [], .null), (.invokevirtual 127, [160, 2, 10, 221], .null), (.ldc 0, [], .int 0), (.istore 3, [], .null), (.ldc 0, [], .int 0), (.istore 4, [], .null), (.nop, [2], .null), (.jsr 0, [3], .null)]),
  (23, [(.iload 4, [], .null), (.aload 1, [], .null), (.ldc 0, [], .int 0), (.invokevirtual 152, [28, 2, 2, 228], .null), (.if_icmp .ge 0, [12, 4], .null)]),
  (33, [(.aload 1, [], .null), (.iload 4, [], .null), (.ldc 0, [], .int 1), (.invokevirtual 123, [30, 3, 2, 220], .null), (.ifCond .le 0, [6, 5], .null)]),
  (43, [(.ldc 0, [], .int 1), (.goto 0, [7], .null)]),
  (47, [(.ldc 0, [], .int 0), (.jsr 0, [7], .null)]),
  (48, [(.istore 5, [], .null), (.iload 5, [], .null), (.nop, [5], .null), (.ifCond .eq 0, [10, 8], .null)]),
  (55, [(.aload 1, [], .null), (.invokevirtual 156, [36, 1, 2, 229], .null), (.ldc 0, [], .int 10), (.irem, [], .null), (.aload 0, [], .null), (.getfield 63, [10, 8, 204], .null), (.aload 0, [], .null), (.aload 0, [], .null), (.getfield 59, [10, 10, 203], .null), (.invokevirtual 103, [156, 2, 10, 215], .null), (.aload 1, [], .null), (.aload 0, [], .null), (.getfield 12, [10, 0, 185], .null), (.iload 4, [], .null), (.invokevirtual 113, [2, 5, 0, 217], .null), (.if_icmp .ge 0, [10, 9], .null)]),
  (87, [(.aload 1, [], .null), (.iload 4, [], .null), (.aload 0, [], .null), (.getfield 12, [10, 0, 185], .null), (.invokevirtual 135, [39, 3, 2, 223], .null), (.pop, [], .null), (.iinc 3 0, [], .int 1), (.goto 0, [11], .null)]),
  (104, [(.aload 1, [], .null), (.iload 4, [], .null), (.invokevirtual 159, [42, 2, 2, 230], .null), (.jsr 0, [11], .null)]),
  (110, [(.iinc 4 0, [], .int 1), (.goto 0, [3], .null)]),
  (116, [(.nop, [0, 4], .null), (.aload 1, [], .null), (.invokevirtual 163, [43, 1, 2, 231], .null), (.iload 3, [], .null), (.ireturn, [], .null)])]
def mj_b166 : List (Nat × List mj_I) := [
  (0, [(.aload 0, [], .null), (.ldc 0, [], .int 1), (.invokevirtual 127, [160, 2, 10, 221], .null), (.aload 0, [], .null), (.getfield 21, [10, 1, 188], .null), (.iload 1, [], .null), (.invokevirtual 166, [37, 2, 2, 232], .null), (.return_, [], .null)])]
def mj_b167 : List (Nat × List mj_I) := [
  (0, [(.aload 0, [], .null), (.getfield 21, [10, 1, 188], .null), (.invokevirtual 156, [36, 1, 2, 229], .null), (.istore 1, [], .null), (.iload 1, [], .null), (.ldc 0, [], .int 6), (.irem, [], .null), (.istore 2, [], .null), (.aload 0, [], .null), (.getfield 21, [10, 1, 188], .null), (.ldc 0, [], .int 0), (.invokevirtual 152, [28, 2, 2, 228], .null), (.istore 3, [], .null), (.iload 2, [], .null), (.ldc 0, [], .int 3), (.if_icmp .le 0, [2, 1], .null)]),
  (27, [(.nop, [1, 2, 3], .null), (.aload 0, [], .null), (.aload 0, [], .null), (.getfield 21, [10, 1, 188], .null), (.ldc 0, [], .int 0), (.invokevirtual 169, [165, 3, 10, 233], .null), (.pop, [], .null), (.return_, [], .null)]),
  (38, [(.iload 3, [], .null), (.ifCond .ne 0, [4, 3], .null)]),
  (42, [(.nop, [0, 1, 2, 3], .null), (.return_, [], .null)]),
  (43, [(.iload 1, [], .null), (.ldc 0, [], .int 6), (.idiv, [], .null), (.iload 3, [], .null), (.irem, [], .null), (.istore 4, [], .null), (.iload 2, [], .null), (.ldc 0, [], .int 2), (.nop, [3], .null), (.if_icmp .ge 0, [6, 5], .null)]),
  (56, [(.nop, [1, 2], .null), (.aload 0, [], .null), (.iload 4, [], .null), (.ldc 0, [], .int 0), (.invokevirtual 173, [161, 3, 10, 234], .null), (.pop, [], .null), (.nop, [0, 4], .null), (.goto 0, [9], .null)]),
  (67, [(.iload 2, [], .null), (.ldc 0, [], .int 2), (.nop, [2], .null), (.if_icmp .ne 0, [8, 7], .null)]),
  (72, [(.nop, [1], .null), (.aload 0, [], .null), (.iload 4, [], .null), (.ldc 0, [], .int 0), (.invokevirtual 177, [162, 3, 10, 235], .null), (.pop, [], .null), (.nop, [0, 4], .null), (.goto 0, [9], .null)]),
  (83, [(.aload 0, [], .null), (.iload 4, [], .null), (.iload 1, [], .null), (.ldc 0, [], .int 8), (.irem, [], .null), (.ldc 0, [], .int 0), (.invokevirtual 180, [163, 4, 10, 236], .null), (.pop, [], .null), (.nop, [0, 1, 4], .null), (.jsr 0, [9], .null)]),
  (95, [(.return_, [], .null)])]
def mj_b168 : List (Nat × List mj_I) := [
  (0, [(.aload 1, [], .null), (.iload 2, [], .null), (.ldc 0, [], .int 1), (.invokevirtual 184, [146, 3, 9, 237], .null), (.istore 3, [], .null), (.aload 1, [], .null), (.iload 2, [], .null), (.ldc 0, [], .int 2), (.invokevirtual 184, [146, 3, 9, 237], .null), (.istore 4, [], .null), (.ldc 0, [], .int 0), (.istore 5, [], .null), (.aload 1, [], .null), (.iload 2, [], .null), (.ldc 0, [], .int 0), (.invokevirtual 184, [146, 3, 9, 237], .null), (.nop, [1, 2], .null), (.tableswitch 0 130 145 #[], [22, 1, 6, 10, 14, 22, 22, 22, 22, 22, 22, 22, 22, 22, 22, 15, 5], .null)]),
  (104, [(.nop, [5], .null), (.aload 0, [], .null), (.getfield 21, [10, 1, 188], .null), (.iload 3, [], .null), (.iload 4, [], .null), (.invokevirtual 187, [32, 3, 2, 238], .null), (.ldc 0, [], .int (-1)), (.nop, [0, 3, 4], .null), (.if_icmp .eq 0, [3, 2], .null)]),
  (118, [(.ldc 0, [], .int 1), (.goto 0, [4], .null)]),
  (122, [(.ldc 0, [], .int 0), (.jsr 0, [4], .null)]),
  (123, [(.ireturn, [1], .null)]),
  (124, [(.nop, [5], .null), (.aload 0, [], .null), (.getfield 12, [10, 0, 185], .null), (.iload 4, [], .null), (.iload 3, [], .null), (.invokevirtual 190, [54, 3, 3, 239], .null), (.ldc 0, [], .int 1), (.ireturn, [1], .null)]),
  (136, [(.nop, [4, 5], .null), (.aload 0, [], .null), (.iload 3, [], .null), (.ldc 0, [], .int 1), (.invokevirtual 173, [161, 3, 10, 234], .null), (.ldc 0, [], .int (-1)), (.nop, [0, 3], .null), (.if_icmp .eq 0, [8, 7], .null)]),
  (146, [(.ldc 0, [], .int 1), (.goto 0, [9], .null)]),
  (150, [(.ldc 0, [], .int 0), (.jsr 0, [9], .null)]),
  (151, [(.ireturn, [1], .null)]),
  (152, [(.nop, [4, 5], .null), (.aload 0, [], .null), (.iload 3, [], .null), (.ldc 0, [], .int 1), (.invokevirtual 177, [162, 3, 10, 235], .null), (.ldc 0, [], .int (-1)), (.nop, [0, 3], .null), (.if_icmp .eq 0, [12, 11], .null)]),
  (162, [(.ldc 0, [], .int 1), (.goto 0, [13], .null)]),
  (166, [(.ldc 0, [], .int 0), (.jsr 0, [13], .null)]),
  (167, [(.ireturn, [1], .null)]),
  (168, [(.nop, [5], .null), (.aload 0, [], .null), (.iload 3, [], .null), (.iload 4, [], .null), (.ldc 0, [], .int 1), (.invokevirtual 180, [163, 4, 10, 236], .null), (.ireturn, [1], .null)]),
  (177, [(.nop, [4], .null), (.iload 5, [], .null), (.iload 3, [], .null), (.if_icmp .ge 0, [18, 16], .null)]),
  (183, [(.aload 0, [], .null), (.aload 0, [], .null), (.getfield 21, [10, 1, 188], .null), (.ldc 0, [], .int 1), (.invokevirtual 169, [165, 3, 10, 233], .null), (.ldc 0, [], .int (-1)), (.if_icmp .eq 0, [18, 17], .null)]),
  (196, [(.iinc 5 0, [], .int 1), (.goto 0, [15], .null)]),
  (202, [(.nop, [0], .null), (.iload 5, [], .null), (.iload 3, [], .null), (.nop, [3, 5], .null), (.if_icmp .ne 0, [20, 19], .null)]),
  (208, [(.ldc 0, [], .int 1), (.goto 0, [21], .null)]),
  (212, [(.ldc 0, [], .int 0), (.jsr 0, [21], .null)]),
  (213, [(.ireturn, [1], .null)]),
  (214, [(.nop, [0, 3, 4, 5], .null), (.ldc 0, [], .int 1), (.ireturn, [1], .null)])]
def mj_b169 : List (Nat × List mj_I) := [
  (0, [(.iload 1, [], .null), (.ldc 0, [], .int (-1)), (.if_icmp .ne 0, [2, 1], .null)]),
  (5, [(.nop, [1, 2], .null), (.aload 0, [], .null), (.ldc 0, [], .int 0), (.putfield 92, [10, 11, 0, 212], .null), (.ldc 0, [], .int 0), (.ireturn, [], .null)]),
  (12, [(.aload 0, [], .null), (.getfield 21, [10, 1, 188], .null), (.iload 1, [], .null), (.invokevirtual 138, [29, 2, 2, 224], .null), (.ifCond .eq 0, [6, 3], .null)]),
  (23, [(.iload 2, [], .null), (.ifCond .lt 0, [6, 4], .null)]),
  (27, [(.iload 2, [], .null), (.ldc 0, [], .int 10), (.if_icmp .gt 0, [6, 5], .null)]),
  (33, [(.aload 0, [], .null), (.getfield 92, [10, 11, 212], .null), (.ldc 0, [], .int 8), (.if_icmp .ne 0, [7, 6], .null)]),
  (42, [(.nop, [0, 1, 2], .null), (.ldc 0, [], .int (-2)), (.ireturn, [], .null)]),
  (45, [(.aload 0, [], .null), (.getfield 52, [10, 6, 201], .null), (.aload 0, [], .null), (.getfield 92, [10, 11, 212], .null), (.iload 1, [], .null), (.iastore, [], .null), (.aload 0, [], .null), (.getfield 56, [10, 7, 202], .null), (.aload 0, [], .null), (.getfield 92, [10, 11, 212], .null), (.iload 2, [], .null), (.iastore, [], .null), (.aload 0, [], .null), (.dup, [], .null), (.getfield 92, [10, 11, 212], .null), (.ldc 0, [], .int 1), (.iadd, [], .null), (.putfield 92, [10, 11, 0, 212], .null), (.aload 0, [], .null), (.getfield 92, [10, 11, 212], .null), (.ireturn, [], .null)])]
def mj_b170 : List (Nat × List mj_I) := [
  (0, [(.ldc 0, [], .int 0), (.istore 1, [], .null), (.ldc 0, [], .int 0), (.istore 2, [], .null), (.jsr 0, [1], .null)]),
  (4, [(.iload 2, [], .null), (.aload 0, [], .null), (.getfield 89, [10, 9, 211], .null), (.if_icmp .ge 0, [5, 2], .null)]),
  (12, [(.aload 0, [], .null), (.aload 0, [], .null), (.iload 2, [], .null), (.invokevirtual 103, [156, 2, 10, 215], .null), (.invokevirtual 193, [171, 2, 10, 240], .null), (.ifCond .eq 0, [4, 3], .null)]),
  (24, [(.iload 1, [], .null), (.ldc 0, [], .int 1), (.iload 2, [], .null), (.ishl, [], .null), (.ior, [], .null), (.istore 1, [], .null), (.jsr 0, [4], .null)]),
  (30, [(.iinc 2 0, [], .int 1), (.goto 0, [1], .null)]),
  (36, [(.nop, [0, 2], .null), (.iload 1, [], .null), (.ireturn, [], .null)])]
def mj_b171 : List (Nat × List mj_I) := [
  (0, [(.ldc 0, [], .int 0), (.istore 2, [], .null), (.jsr 0, [1], .null)]),
  (2, [(.iload 2, [], .null), (.aload 0, [], .null), (.getfield 92, [10, 11, 212], .null), (.if_icmp .ge 0, [5, 2], .null)]),
  (10, [(.aload 0, [], .null), (.getfield 63, [10, 8, 204], .null), (.aload 1, [], .null), (.aload 0, [], .null), (.getfield 21, [10, 1, 188], .null), (.aload 0, [], .null), (.getfield 12, [10, 0, 185], .null), (.aload 0, [], .null), (.getfield 52, [10, 6, 201], .null), (.iload 2, [], .null), (.iaload, [], .null), (.invokevirtual 113, [2, 5, 0, 217], .null), (.aload 0, [], .null), (.getfield 56, [10, 7, 202], .null), (.iload 2, [], .null), (.iaload, [], .null), (.if_icmp .eq 0, [4, 3], .null)]),
  (41, [(.nop, [0, 1, 2], .null), (.ldc 0, [], .int 0), (.ireturn, [1], .null)]),
  (43, [(.iinc 2 0, [], .int 1), (.goto 0, [1], .null)]),
  (49, [(.nop, [0, 1, 2], .null), (.ldc 0, [], .int 1), (.ireturn, [1], .null)])]
def mj_b172 : List (Nat × List mj_I) := [
  (0, [(.aload 0, [], .null), (.athrow, [1, 241], .null), (.new 7, [0, 242], .null), (.dup, [], .null), (.invokespecial 9, [0, 1, 0, 243], .null), (.astore 1, [], .null), (.aload 0, [], .null), (.new 10, [10, 244], .null), (.dup, [], .null), (.aload 1, [], .null), (.invokespecial 12, [147, 2, 10, 245], .null), (.putfield 15, [11, 0, 3, 246], .null), (.aload 0, [], .null), (.new 10, [10, 244], .null), (.dup, [], .null), (.aload 1, [], .null), (.invokespecial 12, [147, 2, 10, 245], .null), (.putfield 21, [11, 1, 3, 247], .null), (.aload 0, [], .null), (.new 24, [2, 248], .null), (.dup, [], .null), (.invokespecial 26, [24, 1, 2, 249], .null), (.putfield 27, [11, 2, 3, 250], .null), (.aload 0, [], .null), (.new 31, [8, 251], .null), (.dup, [], .null), (.invokespecial 33, [126, 1, 8, 252], .null), (.putfield 34, [11, 3, 3, 253], .null), (.aload 0, [], .null), (.new 38, [6, 254], .null), (.dup, [], .null), (.aload 0, [], .null), (.getfield 34, [11, 3, 253], .null), (.invokespecial 40, [95, 2, 6, 255], .null), (.putfield 43, [11, 4, 3, 256], .null), (.aload 0, [], .null), (.new 47, [5, 257], .null), (.dup, [], .null), (.invokespecial 49, [85, 1, 5, 258], .null), (.putfield 50, [11, 5, 3, 259], .null), (.return_, [], .null)])]
def mj_b173 : List (Nat × List mj_I) := [
  (0, [(.iload 1, [], .null), (.invokestatic 54, [223, 1, 11, 260], .null), (.ifCond .eq 0, [3, 1], .null)]),
  (7, [(.iload 2, [], .null), (.ifCond .lt 0, [3, 2], .null)]),
  (11, [(.iload 2, [], .null), (.ldc 0, [], .int 99), (.if_icmp .le 0, [4, 3], .null)]),
  (17, [(.nop, [0, 1, 2], .null), (.ldc 0, [], .int (-1)), (.ireturn, [], .null)]),
  (19, [(.aload 0, [], .null), (.getfield 15, [11, 0, 246], .null), (.getfield 58, [10, 1, 261], .null), (.iload 1, [], .null), (.iload 2, [], .null), (.invokevirtual 61, [32, 3, 2, 262], .null), (.ireturn, [], .null)])]
def mj_b174 : List (Nat × List mj_I) := [
  (0, [(.iload 1, [], .null), (.invokestatic 54, [223, 1, 11, 260], .null), (.ifCond .eq 0, [2, 1], .null)]),
  (7, [(.iload 2, [], .null), (.invokestatic 54, [223, 1, 11, 260], .null), (.ifCond .ne 0, [3, 2], .null)]),
  (14, [(.nop, [0, 1, 2], .null), (.ldc 0, [], .int 0), (.ireturn, [1], .null)]),
  (16, [(.aload 0, [], .null), (.getfield 15, [11, 0, 246], .null), (.getfield 65, [10, 0, 263], .null), (.iload 1, [], .null), (.iload 2, [], .null), (.invokevirtual 69, [54, 3, 3, 264], .null), (.ldc 0, [], .int 1), (.ireturn, [1], .null)])]
def mj_b175 : List (Nat × List mj_I) := [
  (0, [(.iload 1, [], .null), (.invokestatic 54, [223, 1, 11, 260], .null), (.ifCond .eq 0, [3, 1], .null)]),
  (7, [(.iload 2, [], .null), (.ldc 0, [], .int (-9)), (.if_icmp .lt 0, [3, 2], .null)]),
  (13, [(.iload 2, [], .null), (.ldc 0, [], .int 9), (.if_icmp .le 0, [4, 3], .null)]),
  (19, [(.nop, [0, 1, 2], .null), (.ldc 0, [], .int 0), (.ireturn, [1], .null)]),
  (21, [(.aload 0, [], .null), (.getfield 15, [11, 0, 246], .null), (.getfield 65, [10, 0, 263], .null), (.iload 1, [], .null), (.iload 2, [], .null), (.invokevirtual 75, [55, 3, 3, 265], .null), (.ldc 0, [], .int 1), (.ireturn, [1], .null)])]
def mj_b176 : List (Nat × List mj_I) := [
  (0, [(.aload 0, [], .null), (.getfield 34, [11, 3, 253], .null), (.invokevirtual 78, [128, 1, 8, 266], .null), (.ifCond .ne 0, [2, 1], .null)]),
  (10, [(.nop, [0, 1, 2, 3, 4, 5], .null), (.ldc 0, [], .int (-1)), (.ireturn, [], .null)]),
  (12, [(.aload 0, [], .null), (.getfield 34, [11, 3, 253], .null), (.iload 1, [], .null), (.invokevirtual 82, [129, 2, 8, 267], .null), (.aload 0, [], .null), (.getfield 34, [11, 3, 253], .null), (.iload 2, [], .null), (.invokevirtual 82, [129, 2, 8, 267], .null), (.aload 0, [], .null), (.getfield 34, [11, 3, 253], .null), (.iload 3, [], .null), (.invokevirtual 82, [129, 2, 8, 267], .null), (.aload 0, [], .null), (.getfield 34, [11, 3, 253], .null), (.iload 4, [], .null), (.invokevirtual 82, [129, 2, 8, 267], .null), (.aload 0, [], .null), (.getfield 34, [11, 3, 253], .null), (.iload 5, [], .null), (.invokevirtual 82, [129, 2, 8, 267], .null), (.aload 0, [], .null), (.getfield 34, [11, 3, 253], .null), (.invokevirtual 86, [127, 1, 8, 268], .null), (.ireturn, [], .null)])]
def mj_b177 : List (Nat × List mj_I) := [
  (0, [(.iload 1, [], .null), (.ifCond .lt 0, [2, 1], .null)]),
  (4, [(.iload 1, [], .null), (.aload 0, [], .null), (.getfield 34, [11, 3, 253], .null), (.invokevirtual 86, [127, 1, 8, 268], .null), (.if_icmp .le 0, [3, 2], .null)]),
  (15, [(.nop, [0, 1], .null), (.ldc 0, [], .int (-1)), (.ireturn, [], .null)]),
  (17, [(.aload 0, [], .null), (.getfield 34, [11, 3, 253], .null), (.iload 1, [], .null), (.invokevirtual 90, [130, 2, 8, 269], .null), (.iload 1, [], .null), (.ireturn, [], .null)])]
def mj_b178 : List (Nat × List mj_I) := [
  (0, [(.aload 0, [], .null), (.getfield 15, [11, 0, 246], .null), (.invokevirtual 93, [149, 1, 10, 270], .null), (.ldc 0, [], .int 4), (.if_icmp .ne 0, [2, 1], .null)]),
  (11, [(.nop, [0], .null), (.ldc 0, [], .int (-1)), (.ireturn, [], .null)]),
  (13, [(.aload 0, [], .null), (.getfield 43, [11, 4, 256], .null), (.invokevirtual 96, [97, 1, 6, 271], .null), (.istore 1, [], .null), (.aload 0, [], .null), (.getfield 34, [11, 3, 253], .null), (.ldc 0, [], .int 0), (.invokevirtual 90, [130, 2, 8, 269], .null), (.iload 1, [], .null), (.nop, [1], .null), (.ifCond .eq 0, [4, 3], .null)]),
  (33, [(.aload 0, [], .null), (.getfield 15, [11, 0, 246], .null), (.aload 0, [], .null), (.getfield 43, [11, 4, 256], .null), (.invokevirtual 99, [98, 1, 6, 272], .null), (.invokevirtual 103, [154, 2, 10, 273], .null), (.nop, [0], .null), (.goto 0, [5], .null)]),
  (50, [(.nop, [0], .null), (.ldc 0, [], .int (-1)), (.jsr 0, [5], .null)]),
  (51, [(.ireturn, [], .null)])]
def mj_b179 : List (Nat × List mj_I) := [
  (0, [(.aload 0, [], .null), (.getfield 43, [11, 4, 256], .null), (.iload 1, [], .null), (.invokevirtual 107, [96, 2, 6, 274], .null), (.ireturn, [], .null)])]
def mj_b180 : List (Nat × List mj_I) := [
  (0, [(.iload 1, [], .null), (.ldc 0, [], .int (-1)), (.if_icmp .eq 0, [3, 1], .null)]),
  (5, [(.aload 0, [], .null), (.getfield 15, [11, 0, 246], .null), (.iload 1, [], .null), (.invokevirtual 111, [153, 2, 10, 275], .null), (.ifCond .ne 0, [3, 2], .null)]),
  (16, [(.nop, [0, 1], .null), (.ldc 0, [], .int 0), (.ireturn, [1], .null)]),
  (18, [(.aload 0, [], .null), (.getfield 15, [11, 0, 246], .null), (.iload 1, [], .null), (.invokevirtual 114, [155, 2, 10, 276], .null), (.ldc 0, [], .int 1), (.ireturn, [1], .null)])]
def mj_b181 : List (Nat × List mj_I) := [
  (0, [(.aload 0, [], .null), (.getfield 15, [11, 0, 246], .null), (.iload 1, [], .null), (.ldc 0, [], .int 1), (.invokevirtual 117, [161, 3, 10, 277], .null), (.ireturn, [], .null)])]
def mj_b182 : List (Nat × List mj_I) := [
  (0, [(.aload 0, [], .null), (.getfield 15, [11, 0, 246], .null), (.iload 1, [], .null), (.ldc 0, [], .int 1), (.invokevirtual 121, [162, 3, 10, 278], .null), (.ireturn, [], .null)])]
def mj_b183 : List (Nat × List mj_I) := [
  (0, [(.aload 0, [], .null), (.getfield 15, [11, 0, 246], .null), (.iload 1, [], .null), (.iload 2, [], .null), (.ldc 0, [], .int 1), (.invokevirtual 124, [163, 4, 10, 279], .null), (.ireturn, [1], .null)])]
def mj_b184 : List (Nat × List mj_I) := [
  (0, [(.aload 0, [], .null), (.getfield 15, [11, 0, 246], .null), (.iload 1, [], .null), (.iload 2, [], .null), (.invokevirtual 128, [164, 3, 10, 280], .null), (.ireturn, [1], .null)])]
def mj_b185 : List (Nat × List mj_I) := [
  (0, [(.iload 1, [], .null), (.invokestatic 132, [224, 1, 11, 281], .null), (.ifCond .eq 0, [2, 1], .null)]),
  (7, [(.aload 0, [], .null), (.getfield 15, [11, 0, 246], .null), (.getfield 58, [10, 1, 261], .null), (.ldc 0, [], .int 1), (.invokevirtual 135, [28, 2, 2, 282], .null), (.iload 1, [], .null), (.iadd, [], .null), (.ldc 0, [], .int 9999), (.if_icmp .le 0, [3, 2], .null)]),
  (26, [(.nop, [0, 1], .null), (.ldc 0, [], .int (-1)), (.ireturn, [], .null)]),
  (28, [(.ldc 0, [], .int 0), (.istore 2, [], .null), (.ldc 0, [], .int 0), (.istore 3, [], .null), (.jsr 0, [4], .null)]),
  (32, [(.iload 3, [], .null), (.iload 1, [], .null), (.if_icmp .ge 0, [6, 5], .null)]),
  (37, [(.iload 2, [], .null), (.aload 0, [], .null), (.getfield 15, [11, 0, 246], .null), (.aload 0, [], .null), (.getfield 15, [11, 0, 246], .null), (.getfield 58, [10, 1, 261], .null), (.ldc 0, [], .int 1), (.invokevirtual 138, [165, 3, 10, 283], .null), (.iadd, [], .null), (.istore 2, [], .null), (.iinc 3 0, [], .int 1), (.goto 0, [4], .null)]),
  (61, [(.nop, [0, 1, 3], .null), (.iload 2, [], .null), (.ireturn, [], .null)])]
def mj_b186 : List (Nat × List mj_I) := [
  (0, [(.aload 0, [], .null), (.getfield 15, [11, 0, 246], .null), (.iload 1, [], .null), (.invokevirtual 142, [156, 2, 10, 284], .null), (.astore 2, [], .null), (.aload 2, [], .null), (.nop, [1], .null), (.ifnonnull 0, [2, 1], .null)]),
  (13, [(.nop, [0, 2], .null), (.ldc 0, [], .int (-2)), (.ireturn, [], .null)]),
  (16, [(.ldc 0, [], .int 0), (.istore 3, [], .null), (.jsr 0, [3], .null)]),
  (18, [(.iload 3, [], .null), (.aload 2, [], .null), (.invokevirtual 146, [145, 1, 9, 285], .null), (.if_icmp .ge 0, [7, 4], .null)]),
  (26, [(.aload 0, [], .null), (.getfield 15, [11, 0, 246], .null), (.aload 2, [], .null), (.iload 3, [], .null), (.invokevirtual 151, [168, 3, 10, 286], .null), (.ifCond .ne 0, [6, 5], .null)]),
  (38, [(.nop, [0, 2], .null), (.iload 3, [], .null), (.ireturn, [], .null)]),
  (40, [(.iinc 3 0, [], .int 1), (.goto 0, [3], .null)]),
  (46, [(.nop, [0, 2, 3], .null), (.ldc 0, [], .int (-1)), (.ireturn, [], .null)])]
def mj_b187 : List (Nat × List mj_I) := [
  (0, [(.iload 1, [], .null), (.ifCond .lt 0, [4, 1], .null)]),
  (4, [(.iload 1, [], .null), (.ldc 0, [], .int 9999), (.if_icmp .gt 0, [4, 2], .null)]),
  (11, [(.iload 2, [], .null), (.ldc 0, [], .int 1), (.if_icmp .lt 0, [4, 3], .null)]),
  (16, [(.iload 2, [], .null), (.ldc 0, [], .int 40), (.if_icmp .le 0, [5, 4], .null)]),
  (22, [(.nop, [0, 1, 2], .null), (.ldc 0, [], .int (-1)), (.ireturn, [], .null)]),
  (24, [(.aload 0, [], .null), (.getfield 15, [11, 0, 246], .null), (.iload 1, [], .null), (.invokevirtual 155, [166, 2, 10, 287], .null), (.ldc 0, [], .int 0), (.istore 3, [], .null), (.nop, [1], .null), (.jsr 0, [6], .null)]),
  (34, [(.iload 3, [], .null), (.iload 2, [], .null), (.if_icmp .ge 0, [8, 7], .null)]),
  (39, [(.aload 0, [], .null), (.getfield 15, [11, 0, 246], .null), (.invokevirtual 158, [167, 1, 10, 288], .null), (.iinc 3 0, [], .int 1), (.goto 0, [6], .null)]),
  (52, [(.nop, [2, 3], .null), (.aload 0, [], .null), (.getfield 15, [11, 0, 246], .null), (.getfield 58, [10, 1, 261], .null), (.ldc 0, [], .int 1), (.invokevirtual 135, [28, 2, 2, 282], .null), (.ireturn, [], .null)])]
def mj_b188 : List (Nat × List mj_I) := [
  (0, [(.aload 0, [], .null), (.getfield 15, [11, 0, 246], .null), (.invokevirtual 161, [159, 1, 10, 289], .null), (.ireturn, [], .null)])]
def mj_b189 : List (Nat × List mj_I) := [
  (0, [(.aload 0, [], .null), (.getfield 15, [11, 0, 246], .null), (.getfield 58, [10, 1, 261], .null), (.iload 1, [], .null), (.invokevirtual 164, [29, 2, 2, 290], .null), (.ifCond .ne 0, [2, 1], .null)]),
  (14, [(.nop, [0, 1, 2], .null), (.ldc 0, [], .int (-100)), (.ireturn, [], .null)]),
  (17, [(.iload 2, [], .null), (.nop, [2], .null), (.tableswitch 0 0 6 #[], [10, 3, 4, 5, 6, 7, 8, 9], .null)]),
  (60, [(.aload 0, [], .null), (.getfield 15, [11, 0, 246], .null), (.getfield 58, [10, 1, 261], .null), (.iload 1, [], .null), (.aload 0, [], .null), (.getfield 15, [11, 0, 246], .null), (.getfield 65, [10, 0, 263], .null), (.invokevirtual 167, [33, 3, 2, 291], .null), (.ireturn, [], .null)]),
  (79, [(.aload 0, [], .null), (.getfield 15, [11, 0, 246], .null), (.getfield 58, [10, 1, 261], .null), (.iload 1, [], .null), (.ldc 0, [], .int 0), (.invokevirtual 171, [30, 3, 2, 292], .null), (.ireturn, [], .null)]),
  (92, [(.aload 0, [], .null), (.getfield 15, [11, 0, 246], .null), (.getfield 58, [10, 1, 261], .null), (.iload 1, [], .null), (.ldc 0, [], .int 1), (.invokevirtual 171, [30, 3, 2, 292], .null), (.ireturn, [], .null)]),
  (105, [(.aload 0, [], .null), (.getfield 15, [11, 0, 246], .null), (.getfield 58, [10, 1, 261], .null), (.iload 1, [], .null), (.ldc 0, [], .int 2), (.invokevirtual 171, [30, 3, 2, 292], .null), (.ireturn, [], .null)]),
  (118, [(.aload 0, [], .null), (.getfield 15, [11, 0, 246], .null), (.getfield 58, [10, 1, 261], .null), (.iload 1, [], .null), (.ldc 0, [], .int 3), (.invokevirtual 171, [30, 3, 2, 292], .null), (.ireturn, [], .null)]),
  (131, [(.aload 0, [], .null), (.getfield 15, [11, 0, 246], .null), (.iload 1, [], .null), (.invokevirtual 174, [157, 2, 10, 293], .null), (.ireturn, [], .null)]),
  (140, [(.aload 0, [], .null), (.getfield 15, [11, 0, 246], .null), (.iload 1, [], .null), (.invokevirtual 177, [158, 2, 10, 294], .null), (.ireturn, [], .null)]),
  (149, [(.nop, [0, 1], .null), (.ldc 0, [], .int (-100)), (.ireturn, [], .null)])]
def mj_b190 : List (Nat × List mj_I) := [
  (0, [(.iload 1, [], .null), (.invokestatic 54, [223, 1, 11, 260], .null), (.ifCond .ne 0, [2, 1], .null)]),
  (7, [(.nop, [0, 1, 2], .null), (.ldc 0, [], .int (-100)), (.ireturn, [], .null)]),
  (10, [(.iload 2, [], .null), (.nop, [2], .null), (.tableswitch 0 0 2 #[], [6, 3, 4, 5], .null)]),
  (36, [(.aload 0, [], .null), (.getfield 15, [11, 0, 246], .null), (.getfield 65, [10, 0, 263], .null), (.iload 1, [], .null), (.invokevirtual 180, [56, 2, 3, 295], .null), (.ireturn, [], .null)]),
  (48, [(.aload 0, [], .null), (.getfield 15, [11, 0, 246], .null), (.getfield 65, [10, 0, 263], .null), (.iload 1, [], .null), (.invokevirtual 183, [57, 2, 3, 296], .null), (.ireturn, [], .null)]),
  (60, [(.aload 0, [], .null), (.getfield 15, [11, 0, 246], .null), (.getfield 58, [10, 1, 261], .null), (.iload 1, [], .null), (.aload 0, [], .null), (.getfield 15, [11, 0, 246], .null), (.getfield 65, [10, 0, 263], .null), (.invokevirtual 186, [34, 3, 2, 297], .null), (.ireturn, [], .null)]),
  (79, [(.nop, [0, 1], .null), (.ldc 0, [], .int (-100)), (.ireturn, [], .null)])]
def mj_b191 : List (Nat × List mj_I) := [
  (0, [(.iload 1, [], .null), (.nop, [1], .null), (.tableswitch 0 0 3 #[], [5, 1, 2, 3, 4], .null)]),
  (32, [(.aload 0, [], .null), (.getfield 15, [11, 0, 246], .null), (.getfield 58, [10, 1, 261], .null), (.ldc 0, [], .int 1), (.invokevirtual 135, [28, 2, 2, 282], .null), (.ireturn, [], .null)]),
  (44, [(.aload 0, [], .null), (.getfield 15, [11, 0, 246], .null), (.getfield 58, [10, 1, 261], .null), (.ldc 0, [], .int 2), (.invokevirtual 135, [28, 2, 2, 282], .null), (.ireturn, [], .null)]),
  (56, [(.aload 0, [], .null), (.getfield 15, [11, 0, 246], .null), (.getfield 58, [10, 1, 261], .null), (.ldc 0, [], .int 2), (.invokevirtual 189, [35, 2, 2, 298], .null), (.ireturn, [], .null)]),
  (68, [(.aload 0, [], .null), (.getfield 15, [11, 0, 246], .null), (.getfield 58, [10, 1, 261], .null), (.ldc 0, [], .int 1), (.invokevirtual 189, [35, 2, 2, 298], .null), (.ireturn, [], .null)]),
  (80, [(.nop, [0], .null), (.ldc 0, [], .int (-2)), (.ireturn, [], .null)])]
def mj_b192 : List (Nat × List mj_I) := [
  (0, [(.iload 1, [], .null), (.ldc 0, [], .int (-1)), (.if_icmp .ne 0, [2, 1], .null)]),
  (5, [(.nop, [1, 2], .null), (.aload 0, [], .null), (.getfield 15, [11, 0, 246], .null), (.getfield 58, [10, 1, 261], .null), (.ldc 0, [], .int 3), (.invokevirtual 135, [28, 2, 2, 282], .null), (.nop, [0], .null), (.goto 0, [3], .null)]),
  (19, [(.aload 0, [], .null), (.getfield 15, [11, 0, 246], .null), (.getfield 58, [10, 1, 261], .null), (.iload 1, [], .null), (.iload 2, [], .null), (.invokevirtual 192, [46, 3, 2, 299], .null), (.nop, [0, 1, 2], .null), (.jsr 0, [3], .null)]),
  (31, [(.ireturn, [], .null)])]
def mj_b193 : List (Nat × List mj_I) := [
  (0, [(.iload 1, [], .null), (.invokestatic 132, [224, 1, 11, 281], .null), (.ifCond .eq 0, [2, 1], .null)]),
  (7, [(.aload 0, [], .null), (.getfield 15, [11, 0, 246], .null), (.getfield 58, [10, 1, 261], .null), (.iload 2, [], .null), (.invokevirtual 164, [29, 2, 2, 290], .null), (.ifCond .ne 0, [3, 2], .null)]),
  (21, [(.nop, [0, 1, 2], .null), (.ldc 0, [], .int (-1)), (.ireturn, [], .null)]),
  (23, [(.aload 0, [], .null), (.getfield 27, [11, 2, 250], .null), (.aload 0, [], .null), (.getfield 15, [11, 0, 246], .null), (.getfield 58, [10, 1, 261], .null), (.invokevirtual 195, [25, 2, 2, 300], .null), (.ldc 0, [], .int 0), (.istore 3, [], .null), (.jsr 0, [4], .null)]),
  (39, [(.iload 3, [], .null), (.iload 1, [], .null), (.if_icmp .ge 0, [6, 5], .null)]),
  (44, [(.aload 0, [], .null), (.getfield 15, [11, 0, 246], .null), (.aload 0, [], .null), (.getfield 27, [11, 2, 250], .null), (.ldc 0, [], .int 0), (.invokevirtual 138, [165, 3, 10, 283], .null), (.pop, [], .null), (.iinc 3 0, [], .int 1), (.goto 0, [4], .null)]),
  (63, [(.nop, [1, 3], .null), (.aload 0, [], .null), (.getfield 27, [11, 2, 250], .null), (.iload 2, [], .null), (.ldc 0, [], .int 1), (.invokevirtual 171, [30, 3, 2, 292], .null), (.ireturn, [], .null)])]
def mj_b194 : List (Nat × List mj_I) := [
  (0, [(.iload 1, [], .null), (.invokestatic 54, [223, 1, 11, 260], .null), (.ifCond .eq 0, [3, 1], .null)]),
  (7, [(.iload 2, [], .null), (.ifCond .lt 0, [3, 2], .null)]),
  (11, [(.iload 2, [], .null), (.ldc 199, [301], .int 1000000), (.if_icmp .le 0, [4, 3], .null)]),
  (17, [(.nop, [0, 1, 2], .null), (.ldc 0, [], .int (-1)), (.ireturn, [], .null)]),
  (19, [(.aload 0, [], .null), (.getfield 15, [11, 0, 246], .null), (.getfield 65, [10, 0, 263], .null), (.iload 1, [], .null), (.iload 2, [], .null), (.invokevirtual 200, [58, 3, 3, 302], .null), (.ireturn, [], .null)])]
def mj_b195 : List (Nat × List mj_I) := [
  (0, [(.iload 1, [], .null), (.invokestatic 54, [223, 1, 11, 260], .null), (.ifCond .ne 0, [2, 1], .null)]),
  (7, [(.nop, [0, 1, 2], .null), (.ldc 0, [], .int (-1)), (.ireturn, [], .null)]),
  (9, [(.iload 2, [], .null), (.nop, [2], .null), (.ifCond .eq 0, [4, 3], .null)]),
  (13, [(.aload 0, [], .null), (.getfield 15, [11, 0, 246], .null), (.getfield 65, [10, 0, 263], .null), (.iload 1, [], .null), (.invokevirtual 203, [60, 2, 3, 303], .null), (.nop, [0, 1], .null), (.goto 0, [5], .null)]),
  (27, [(.aload 0, [], .null), (.getfield 15, [11, 0, 246], .null), (.getfield 65, [10, 0, 263], .null), (.aload 0, [], .null), (.getfield 15, [11, 0, 246], .null), (.getfield 65, [10, 0, 263], .null), (.iload 1, [], .null), (.ldc 0, [], .int 8), (.invokevirtual 200, [58, 3, 3, 302], .null), (.invokevirtual 206, [59, 2, 3, 304], .null), (.nop, [0, 1], .null), (.jsr 0, [5], .null)]),
  (50, [(.ireturn, [], .null)])]
def mj_b196 : List (Nat × List mj_I) := [
  (0, [(.aload 0, [], .null), (.getfield 15, [11, 0, 246], .null), (.getfield 65, [10, 0, 263], .null), (.invokevirtual 209, [61, 1, 3, 305], .null), (.ireturn, [], .null)])]
def mj_b197 : List (Nat × List mj_I) := [
  (0, [(.iload 1, [], .null), (.ifCond .lt 0, [2, 1], .null)]),
  (4, [(.iload 1, [], .null), (.ldc 0, [], .int 8), (.if_icmp .le 0, [3, 2], .null)]),
  (10, [(.nop, [0, 1], .null), (.ldc 0, [], .int (-1)), (.goto 0, [4], .null)]),
  (14, [(.aload 0, [], .null), (.getfield 15, [11, 0, 246], .null), (.getfield 65, [10, 0, 263], .null), (.iload 1, [], .null), (.invokevirtual 212, [63, 2, 3, 306], .null), (.nop, [0, 1], .null), (.jsr 0, [4], .null)]),
  (25, [(.ireturn, [], .null)])]
def mj_b198 : List (Nat × List mj_I) := [
  (0, [(.iload 1, [], .null), (.invokestatic 54, [223, 1, 11, 260], .null), (.ifCond .eq 0, [2, 1], .null)]),
  (7, [(.aload 0, [], .null), (.getfield 15, [11, 0, 246], .null), (.getfield 65, [10, 0, 263], .null), (.iload 1, [], .null), (.invokevirtual 215, [64, 2, 3, 307], .null), (.nop, [0, 1], .null), (.goto 0, [3], .null)]),
  (21, [(.nop, [0, 1], .null), (.ldc 0, [], .int (-1)), (.jsr 0, [3], .null)]),
  (22, [(.ireturn, [], .null)])]
def mj_b199 : List (Nat × List mj_I) := [
  (0, [(.iload 1, [], .null), (.invokestatic 54, [223, 1, 11, 260], .null), (.ifCond .eq 0, [4, 1], .null)]),
  (7, [(.iload 2, [], .null), (.invokestatic 54, [223, 1, 11, 260], .null), (.ifCond .eq 0, [4, 2], .null)]),
  (14, [(.iload 3, [], .null), (.ifCond .lt 0, [4, 3], .null)]),
  (18, [(.iload 3, [], .null), (.ldc 0, [], .int 2), (.if_icmp .le 0, [5, 4], .null)]),
  (23, [(.nop, [0, 1, 2, 3], .null), (.ldc 0, [], .int (-1)), (.ireturn, [], .null)]),
  (25, [(.aload 0, [], .null), (.getfield 15, [11, 0, 246], .null), (.getfield 65, [10, 0, 263], .null), (.iload 1, [], .null), (.iload 2, [], .null), (.iload 3, [], .null), (.invokevirtual 218, [65, 4, 3, 308], .null), (.ireturn, [], .null)])]
def mj_b200 : List (Nat × List mj_I) := [
  (0, [(.iload 1, [], .null), (.invokestatic 54, [223, 1, 11, 260], .null), (.ifCond .eq 0, [2, 1], .null)]),
  (7, [(.aload 0, [], .null), (.getfield 15, [11, 0, 246], .null), (.getfield 65, [10, 0, 263], .null), (.iload 1, [], .null), (.invokevirtual 222, [66, 2, 3, 309], .null), (.nop, [0, 1], .null), (.goto 0, [3], .null)]),
  (21, [(.nop, [0, 1], .null), (.ldc 0, [], .int (-1)), (.jsr 0, [3], .null)]),
  (22, [(.ireturn, [], .null)])]
def mj_b201 : List (Nat × List mj_I) := [
  (0, [(.iload 1, [], .null), (.invokestatic 54, [223, 1, 11, 260], .null), (.ifCond .eq 0, [2, 1], .null)]),
  (7, [(.aload 0, [], .null), (.getfield 15, [11, 0, 246], .null), (.getfield 65, [10, 0, 263], .null), (.iload 1, [], .null), (.invokevirtual 225, [67, 2, 3, 310], .null), (.nop, [0, 1], .null), (.goto 0, [3], .null)]),
  (21, [(.nop, [0, 1], .null), (.ldc 0, [], .int (-1)), (.jsr 0, [3], .null)]),
  (22, [(.ireturn, [], .null)])]
def mj_b202 : List (Nat × List mj_I) := [
  (0, [(.aload 0, [], .null), (.getfield 15, [11, 0, 246], .null), (.getfield 228, [10, 2, 311], .null), (.ldc 0, [], .int 0), (.iload 1, [], .null), (.iload 2, [], .null), (.invokevirtual 234, [15, 4, 1, 312], .null), (.ireturn, [], .null)])]
def mj_b203 : List (Nat × List mj_I) := [
  (0, [(.aload 0, [], .null), (.getfield 15, [11, 0, 246], .null), (.getfield 228, [10, 2, 311], .null), (.ldc 0, [], .int 1), (.iload 1, [], .null), (.iload 2, [], .null), (.invokevirtual 234, [15, 4, 1, 312], .null), (.ireturn, [], .null)])]
def mj_b204 : List (Nat × List mj_I) := [
  (0, [(.iload 1, [], .null), (.ldc 0, [], .int 1), (.if_icmp .lt 0, [2, 1], .null)]),
  (5, [(.iload 1, [], .null), (.ldc 0, [], .int 24), (.if_icmp .le 0, [3, 2], .null)]),
  (11, [(.nop, [0, 1, 2], .null), (.ldc 0, [], .int (-2)), (.ireturn, [], .null)]),
  (14, [(.aload 0, [], .null), (.getfield 15, [11, 0, 246], .null), (.getfield 228, [10, 2, 311], .null), (.iload 1, [], .null), (.iload 2, [], .null), (.invokevirtual 236, [18, 3, 1, 313], .null), (.ireturn, [], .null)])]
def mj_b205 : List (Nat × List mj_I) := [
  (0, [(.iload 1, [], .null), (.nop, [1], .null), (.lookupswitch 0 #[(0, 0), (1, 0)], [3, 1, 2], .null)]),
  (28, [(.aload 0, [], .null), (.getfield 15, [11, 0, 246], .null), (.getfield 228, [10, 2, 311], .null), (.invokevirtual 239, [19, 1, 1, 314], .null), (.ireturn, [], .null)]),
  (39, [(.aload 0, [], .null), (.getfield 15, [11, 0, 246], .null), (.getfield 228, [10, 2, 311], .null), (.invokevirtual 242, [20, 1, 1, 315], .null), (.ireturn, [], .null)]),
  (50, [(.nop, [0], .null), (.ldc 0, [], .int (-1)), (.ireturn, [], .null)])]
def mj_b206 : List (Nat × List mj_I) := [
  (0, [(.aload 0, [], .null), (.getfield 15, [11, 0, 246], .null), (.getfield 245, [10, 3, 316], .null), (.iload 1, [], .null), (.invokevirtual 249, [74, 2, 4, 317], .null), (.ireturn, [], .null)])]
def mj_b207 : List (Nat × List mj_I) := [
  (0, [(.aload 0, [], .null), (.getfield 15, [11, 0, 246], .null), (.getfield 245, [10, 3, 316], .null), (.iload 1, [], .null), (.invokevirtual 253, [75, 2, 4, 318], .null), (.ireturn, [], .null)])]
def mj_b208 : List (Nat × List mj_I) := [
  (0, [(.iload 1, [], .null), (.ifCond .lt 0, [2, 1], .null)]),
  (4, [(.iload 1, [], .null), (.ldc 0, [], .int 3), (.if_icmp .le 0, [3, 2], .null)]),
  (9, [(.nop, [0, 1], .null), (.ldc 0, [], .int (-1)), (.goto 0, [4], .null)]),
  (13, [(.aload 0, [], .null), (.getfield 15, [11, 0, 246], .null), (.getfield 245, [10, 3, 316], .null), (.iload 1, [], .null), (.invokevirtual 256, [76, 2, 4, 319], .null), (.nop, [0, 1], .null), (.jsr 0, [4], .null)]),
  (24, [(.ireturn, [], .null)])]
def mj_b209 : List (Nat × List mj_I) := [
  (0, [(.aload 0, [], .null), (.getfield 15, [11, 0, 246], .null), (.getfield 58, [10, 1, 261], .null), (.iload 1, [], .null), (.invokevirtual 164, [29, 2, 2, 290], .null), (.ifCond .eq 0, [3, 1], .null)]),
  (14, [(.iload 2, [], .null), (.ifCond .lt 0, [3, 2], .null)]),
  (18, [(.iload 2, [], .null), (.ldc 0, [], .int 20), (.if_icmp .le 0, [4, 3], .null)]),
  (24, [(.nop, [0, 1, 2], .null), (.ldc 0, [], .int (-10000)), (.ireturn, [], .null)]),
  (28, [(.aload 0, [], .null), (.getfield 50, [11, 5, 259], .null), (.aload 0, [], .null), (.getfield 15, [11, 0, 246], .null), (.getfield 58, [10, 1, 261], .null), (.aload 0, [], .null), (.getfield 15, [11, 0, 246], .null), (.getfield 65, [10, 0, 263], .null), (.iload 1, [], .null), (.iload 2, [], .null), (.invokevirtual 259, [86, 5, 5, 320], .null), (.aload 0, [], .null), (.getfield 50, [11, 5, 259], .null), (.invokevirtual 263, [87, 1, 5, 321], .null), (.ireturn, [], .null)])]
def mj_b210 : List (Nat × List mj_I) := [
  (0, [(.aload 0, [], .null), (.getfield 15, [11, 0, 246], .null), (.getfield 58, [10, 1, 261], .null), (.iload 1, [], .null), (.invokevirtual 164, [29, 2, 2, 290], .null), (.ifCond .eq 0, [3, 1], .null)]),
  (14, [(.iload 2, [], .null), (.ldc 0, [], .int 1), (.if_icmp .lt 0, [3, 2], .null)]),
  (19, [(.iload 2, [], .null), (.ldc 0, [], .int 20), (.if_icmp .le 0, [4, 3], .null)]),
  (25, [(.nop, [0, 1, 2], .null), (.ldc 0, [], .int (-1)), (.ireturn, [], .null)]),
  (27, [(.aload 0, [], .null), (.getfield 50, [11, 5, 259], .null), (.aload 0, [], .null), (.getfield 15, [11, 0, 246], .null), (.getfield 58, [10, 1, 261], .null), (.aload 0, [], .null), (.getfield 15, [11, 0, 246], .null), (.getfield 65, [10, 0, 263], .null), (.iload 1, [], .null), (.iload 2, [], .null), (.ldc 0, [], .int 1), (.isub, [], .null), (.invokevirtual 259, [86, 5, 5, 320], .null), (.aload 0, [], .null), (.getfield 50, [11, 5, 259], .null), (.invokevirtual 266, [88, 1, 5, 322], .null), (.ireturn, [], .null)])]
def mj_b211 : List (Nat × List mj_I) := [
  (0, [(.aload 0, [], .null), (.getfield 15, [11, 0, 246], .null), (.getfield 58, [10, 1, 261], .null), (.iload 1, [], .null), (.invokevirtual 164, [29, 2, 2, 290], .null), (.ifCond .eq 0, [5, 1], .null)]),
  (14, [(.iload 2, [], .null), (.ifCond .lt 0, [5, 2], .null)]),
  (18, [(.iload 2, [], .null), (.ldc 0, [], .int 6), (.if_icmp .gt 0, [5, 3], .null)]),
  (24, [(.iload 3, [], .null), (.ifCond .lt 0, [5, 4], .null)]),
  (28, [(.iload 3, [], .null), (.ldc 0, [], .int 8), (.if_icmp .le 0, [6, 5], .null)]),
  (34, [(.nop, [0, 1, 2, 3, 4], .null), (.ldc 269, [323], .long (-1)), (.lreturn, [], .null)]),
  (38, [(.aload 0, [], .null), (.getfield 15, [11, 0, 246], .null), (.iload 1, [], .null), (.invokevirtual 177, [158, 2, 10, 294], .null), (.istore 5, [], .null), (.aload 0, [], .null), (.getfield 50, [11, 5, 259], .null), (.aload 0, [], .null), (.getfield 15, [11, 0, 246], .null), (.getfield 58, [10, 1, 261], .null), (.iload 1, [], .null), (.ldc 0, [], .int 1), (.invokevirtual 171, [30, 3, 2, 292], .null), (.iload 5, [], .null), (.iload 2, [], .null), (.iload 3, [], .null), (.iload 4, [], .null), (.invokevirtual 271, [91, 6, 5, 324], .null), (.lreturn, [], .null)])]
def mj_b212 : List (Nat × List mj_I) := [
  (0, [(.aload 0, [], .null), (.getfield 15, [11, 0, 246], .null), (.getfield 58, [10, 1, 261], .null), (.iload 1, [], .null), (.invokevirtual 164, [29, 2, 2, 290], .null), (.ifCond .ne 0, [2, 1], .null)]),
  (14, [(.nop, [0, 1, 2], .null), (.ldc 0, [], .int (-1)), (.ireturn, [], .null)]),
  (16, [(.aload 0, [], .null), (.getfield 15, [11, 0, 246], .null), (.iload 1, [], .null), (.invokevirtual 177, [158, 2, 10, 294], .null), (.istore 3, [], .null), (.aload 0, [], .null), (.getfield 50, [11, 5, 259], .null), (.aload 0, [], .null), (.getfield 15, [11, 0, 246], .null), (.getfield 58, [10, 1, 261], .null), (.iload 1, [], .null), (.ldc 0, [], .int 1), (.invokevirtual 171, [30, 3, 2, 292], .null), (.iload 3, [], .null), (.iload 2, [], .null), (.invokevirtual 275, [93, 4, 5, 325], .null), (.ireturn, [], .null)])]
def mj_b213 : List (Nat × List mj_I) := [
  (0, [(.aload 0, [], .null), (.getfield 15, [11, 0, 246], .null), (.iload 1, [], .null), (.iload 2, [], .null), (.invokevirtual 279, [169, 3, 10, 326], .null), (.ireturn, [], .null)])]
def mj_b214 : List (Nat × List mj_I) := [
  (0, [(.aload 0, [], .null), (.getfield 15, [11, 0, 246], .null), (.invokevirtual 282, [170, 1, 10, 327], .null), (.ireturn, [], .null)])]
def mj_b215 : List (Nat × List mj_I) := [
  (0, [(.aload 0, [], .null), (.getfield 15, [11, 0, 246], .null), (.getfield 58, [10, 1, 261], .null), (.invokevirtual 285, [48, 1, 2, 328], .null), (.ireturn, [], .null)])]
def mj_b216 : List (Nat × List mj_I) := [
  (0, [(.aload 0, [], .null), (.getfield 15, [11, 0, 246], .null), (.getfield 58, [10, 1, 261], .null), (.invokevirtual 288, [49, 1, 2, 329], .null), (.ireturn, [], .null)])]
def mj_b217 : List (Nat × List mj_I) := [
  (0, [(.aload 0, [], .null), (.getfield 15, [11, 0, 246], .null), (.getfield 58, [10, 1, 261], .null), (.aload 0, [], .null), (.getfield 15, [11, 0, 246], .null), (.getfield 65, [10, 0, 263], .null), (.invokevirtual 291, [50, 2, 2, 330], .null), (.ireturn, [], .null)])]
def mj_b218 : List (Nat × List mj_I) := [
  (0, [(.aload 0, [], .null), (.getfield 15, [11, 0, 246], .null), (.getfield 58, [10, 1, 261], .null), (.aload 0, [], .null), (.getfield 15, [11, 0, 246], .null), (.getfield 65, [10, 0, 263], .null), (.invokevirtual 295, [51, 2, 2, 331], .null), (.ireturn, [], .null)])]
def mj_b219 : List (Nat × List mj_I) := [
  (0, [(.iload 1, [], .null), (.ifCond .lt 0, [2, 1], .null)]),
  (4, [(.iload 1, [], .null), (.ldc 0, [], .int 2), (.if_icmp .le 0, [3, 2], .null)]),
  (9, [(.nop, [0, 1], .null), (.ldc 0, [], .int (-2)), (.goto 0, [4], .null)]),
  (14, [(.aload 0, [], .null), (.getfield 15, [11, 0, 246], .null), (.getfield 58, [10, 1, 261], .null), (.iload 1, [], .null), (.invokevirtual 298, [47, 2, 2, 332], .null), (.nop, [0, 1], .null), (.jsr 0, [4], .null)]),
  (25, [(.ireturn, [], .null)])]
def mj_b220 : List (Nat × List mj_I) := [
  (0, [(.aload 0, [], .null), (.getfield 21, [11, 1, 247], .null), (.aload 0, [], .null), (.getfield 15, [11, 0, 246], .null), (.invokevirtual 301, [148, 2, 10, 333], .null), (.aload 0, [], .null), (.getfield 15, [11, 0, 246], .null), (.getfield 58, [10, 1, 261], .null), (.ldc 0, [], .int 1), (.invokevirtual 135, [28, 2, 2, 282], .null), (.ireturn, [], .null)])]
def mj_b221 : List (Nat × List mj_I) := [
  (0, [(.aload 0, [], .null), (.getfield 15, [11, 0, 246], .null), (.aload 0, [], .null), (.getfield 21, [11, 1, 247], .null), (.invokevirtual 301, [148, 2, 10, 333], .null), (.aload 0, [], .null), (.getfield 15, [11, 0, 246], .null), (.getfield 58, [10, 1, 261], .null), (.ldc 0, [], .int 1), (.invokevirtual 135, [28, 2, 2, 282], .null), (.ireturn, [], .null)])]
def mj_b222 : List (Nat × List mj_I) := [
  (0, [(.iload 1, [], .null), (.nop, [1], .null), (.tableswitch 0 0 8 #[], [10, 1, 2, 3, 4, 5, 6, 7, 8, 9], .null)]),
  (52, [(.aload 0, [], .null), (.getfield 15, [11, 0, 246], .null), (.getfield 58, [10, 1, 261], .null), (.ldc 0, [], .int 0), (.invokevirtual 135, [28, 2, 2, 282], .null), (.ireturn, [], .null)]),
  (64, [(.aload 0, [], .null), (.getfield 15, [11, 0, 246], .null), (.invokevirtual 93, [149, 1, 10, 270], .null), (.ireturn, [], .null)]),
  (72, [(.aload 0, [], .null), (.getfield 15, [11, 0, 246], .null), (.invokevirtual 304, [150, 1, 10, 334], .null), (.ireturn, [], .null)]),
  (80, [(.aload 0, [], .null), (.getfield 15, [11, 0, 246], .null), (.invokevirtual 307, [152, 1, 10, 335], .null), (.ireturn, [], .null)]),
  (88, [(.aload 0, [], .null), (.getfield 15, [11, 0, 246], .null), (.getfield 228, [10, 2, 311], .null), (.ldc 0, [], .int 0), (.invokevirtual 310, [14, 2, 1, 336], .null), (.ireturn, [], .null)]),
  (100, [(.aload 0, [], .null), (.getfield 15, [11, 0, 246], .null), (.getfield 228, [10, 2, 311], .null), (.ldc 0, [], .int 1), (.invokevirtual 310, [14, 2, 1, 336], .null), (.ireturn, [], .null)]),
  (112, [(.aload 0, [], .null), (.getfield 15, [11, 0, 246], .null), (.getfield 245, [10, 3, 316], .null), (.invokevirtual 313, [73, 1, 4, 337], .null), (.ireturn, [], .null)]),
  (123, [(.aload 0, [], .null), (.getfield 15, [11, 0, 246], .null), (.invokevirtual 316, [151, 1, 10, 338], .null), (.ireturn, [], .null)]),
  (131, [(.aload 0, [], .null), (.getfield 34, [11, 3, 253], .null), (.invokevirtual 86, [127, 1, 8, 268], .null), (.ireturn, [], .null)]),
  (139, [(.nop, [0], .null), (.ldc 0, [], .int (-2)), (.ireturn, [], .null)])]
def mj_b223 : List (Nat × List mj_I) := [
  (0, [(.iload 0, [], .null), (.ifCond .lt 0, [3, 1], .null)]),
  (4, [(.iload 0, [], .null), (.ldc 0, [], .int 8), (.nop, [0], .null), (.if_icmp .ge 0, [3, 2], .null)]),
  (10, [(.ldc 0, [], .int 1), (.goto 0, [4], .null)]),
  (14, [(.nop, [0], .null), (.ldc 0, [], .int 0), (.jsr 0, [4], .null)]),
  (15, [(.ireturn, [1], .null)])]
def mj_b224 : List (Nat × List mj_I) := [
  (0, [(.iload 0, [], .null), (.ldc 0, [], .int 1), (.if_icmp .lt 0, [3, 1], .null)]),
  (5, [(.iload 0, [], .null), (.ldc 0, [], .int 60), (.nop, [0], .null), (.if_icmp .gt 0, [3, 2], .null)]),
  (11, [(.ldc 0, [], .int 1), (.goto 0, [4], .null)]),
  (15, [(.nop, [0], .null), (.ldc 0, [], .int 0), (.jsr 0, [4], .null)]),
  (16, [(.ireturn, [1], .null)])]
def mj_b225 : List (Nat × List mj_I) := [
  (0, [(.iload 2, [], .null), (.i2l, [], .null), (.iload 3, [], .null), (.i2l, [], .null), (.lload 0, [], .null), (.invokedynamic 319, [3, 2, 339], .null), (.invokedynamic 325, [2, 2, 340], .null), (.l2i, [], .null), (.ireturn, [], .null)])]
def mj_b226 : List (Nat × List mj_I) := [
  (0, [(.aload 0, [], .null), (.athrow, [1, 341], .null), (.aload 0, [], .null), (.ldc 0, [], .int 1763), (.newarray .int, [0, 1], .null), (.putfield 7, [12, 0, 3, 342], .null), (.aload 0, [], .null), (.ldc 0, [], .int 1763), (.newarray .int, [0, 1], .null), (.putfield 13, [12, 1, 3, 343], .null), (.aload 0, [], .null), (.ldc 0, [], .int 2724), (.newarray .int, [0, 1], .null), (.putfield 16, [12, 2, 3, 344], .null), (.aload 0, [], .null), (.ldc 0, [], .int 300), (.newarray .int, [0, 1], .null), (.putfield 19, [12, 3, 3, 345], .null), (.aload 0, [], .null), (.ldc 0, [], .int (-1)), (.putfield 22, [12, 5, 0, 346], .null), (.aload 0, [], .null), (.ldc 0, [], .int (-1)), (.putfield 26, [12, 6, 0, 347], .null), (.aload 0, [], .null), (.ldc 0, [], .int 160), (.newarray .int, [0, 1], .null), (.putfield 29, [12, 15, 3, 348], .null), (.aload 0, [], .null), (.ldc 0, [], .int 8), (.newarray .int, [0, 1], .null), (.putfield 32, [12, 20, 3, 349], .null), (.aload 0, [], .null), (.ldc 0, [], .int 330), (.newarray .long, [3, 88], .null), (.putfield 35, [12, 21, 3, 350], .null), (.aload 0, [], .null), (.ldc 0, [], .int 330), (.newarray .boolean, [2, 351], .null), (.putfield 39, [12, 22, 3, 352], .null), (.aload 0, [], .null), (.ldc 0, [], .int 1), (.putfield 43, [12, 23, 1, 353], .null), (.aload 0, [], .null), (.ldc 0, [], .int 31), (.newarray .int, [0, 1], .null), (.putfield 47, [12, 25, 3, 354], .null), (.aload 0, [], .null), (.ldc 0, [], .int 8), (.newarray .int, [0, 1], .null), (.putfield 50, [12, 26, 3, 355], .null), (.aload 0, [], .null), (.ldc 0, [], .int 49), (.newarray .int, [0, 1], .null), (.putfield 53, [12, 27, 3, 356], .null), (.aload 0, [], .null), (.ldc 0, [], .int 144), (.newarray .int, [0, 1], .null), (.putfield 56, [12, 28, 3, 357], .null), (.aload 0, [], .null), (.ldc 0, [], .int 8), (.newarray .int, [0, 1], .null), (.putfield 59, [12, 29, 3, 358], .null), (.aload 0, [], .null), (.ldc 0, [], .int 9), (.newarray .int, [0, 1], .null), (.putfield 62, [12, 30, 3, 359], .null), (.aload 0, [], .null), (.ldc 0, [], .int 3969), (.newarray .int, [0, 1], .null), (.putfield 65, [12, 31, 3, 360], .null), (.aload 0, [], .null), (.ldc 0, [], .int 9), (.newarray .long, [3, 88], .null), (.putfield 68, [12, 32, 3, 361], .null), (.aload 0, [], .null), (.getfield 7, [12, 0, 342], .null), (.ldc 0, [], .int 9), (.ldc 0, [], .int 383), (.iastore, [], .null), (.aload 0, [], .null), (.getfield 7, [12, 0, 342], .null), (.ldc 0, [], .int 2), (.ldc 0, [], .int (-1)), (.iastore, [], .null), (.ldc 0, [], .int 0), (.istore 1, [], .null), (.jsr 0, [1], .null)]),
  (175, [(.iload 1, [], .null), (.ldc 0, [], .int 8), (.if_icmp .ge 0, [3, 2], .null)]),
  (181, [(.aload 0, [], .null), (.getfield 7, [12, 0, 342], .null), (.ldc 0, [], .int 41), (.iload 1, [], .null), (.iadd, [], .null), (.iload 1, [], .null), (.iastore, [], .null), (.iinc 1 0, [], .int 1), (.goto 0, [1], .null)]),
  (197, [(.nop, [1], .null), (.aload 0, [], .null), (.getfield 7, [12, 0, 342], .null), (.aload 0, [], .null), (.getfield 13, [12, 1, 343], .null), (.invokestatic 71, [227, 2, 12, 362], .null), (.return_, [], .null)])]
def mj_b227 : List (Nat × List mj_I) := [
  (0, [(.ldc 0, [], .int 0), (.istore 2, [], .null), (.jsr 0, [1], .null)]),
  (2, [(.iload 2, [], .null), (.ldc 0, [], .int 1763), (.if_icmp .ge 0, [3, 2], .null)]),
  (9, [(.aload 1, [], .null), (.iload 2, [], .null), (.aload 0, [], .null), (.iload 2, [], .null), (.iaload, [], .null), (.iastore, [], .null), (.iinc 2 0, [], .int 1), (.goto 0, [1], .null)]),
  (21, [(.nop, [0, 1, 2], .null), (.return_, [], .null)])]
def mj_b228 : List (Nat × List mj_I) := [
  (0, [(.iload 0, [], .null), (.iload 1, [], .null), (.nop, [1], .null), (.if_icmp .lt 0, [3, 1], .null)]),
  (5, [(.iload 0, [], .null), (.iload 2, [], .null), (.nop, [0, 2], .null), (.if_icmp .gt 0, [3, 2], .null)]),
  (10, [(.ldc 0, [], .int 1), (.goto 0, [4], .null)]),
  (14, [(.nop, [0, 2], .null), (.ldc 0, [], .int 0), (.jsr 0, [4], .null)]),
  (15, [(.ireturn, [1], .null)])]
def mj_b229 : List (Nat × List mj_I) := [
  (0, [(.lload 0, [], .null), (.iload 2, [], .null), (.i2l, [], .null), (.lcmp, [], .null), (.ifCond .ge 0, [2, 1], .null)]),
  (7, [(.nop, [0, 3], .null), (.iload 2, [], .null), (.nop, [2], .null), (.goto 0, [5], .null)]),
  (11, [(.nop, [2], .null), (.lload 0, [], .null), (.iload 3, [], .null), (.i2l, [], .null), (.lcmp, [], .null), (.ifCond .le 0, [4, 3], .null)]),
  (18, [(.nop, [0], .null), (.iload 3, [], .null), (.nop, [3], .null), (.goto 0, [5], .null)]),
  (22, [(.nop, [3], .null), (.lload 0, [], .null), (.l2i, [], .null), (.nop, [0], .null), (.jsr 0, [5], .null)]),
  (24, [(.ireturn, [], .null)])]
def mj_b230 : List (Nat × List mj_I) := [
  (0, [(.iload 0, [], .null), (.iload 1, [], .null), (.ishr, [], .null), (.ldc 0, [], .int 1), (.iand, [], .null), (.ldc 0, [], .int 1), (.nop, [0, 1], .null), (.if_icmp .ne 0, [2, 1], .null)]),
  (9, [(.ldc 0, [], .int 1), (.goto 0, [3], .null)]),
  (13, [(.ldc 0, [], .int 0), (.jsr 0, [3], .null)]),
  (14, [(.ireturn, [1], .null)])]
def mj_b231 : List (Nat × List mj_I) := [
  (0, [(.ldc 0, [], .int 0), (.istore 1, [], .null), (.iload 0, [], .null), (.istore 2, [], .null), (.nop, [0], .null), (.jsr 0, [1], .null)]),
  (4, [(.iload 2, [], .null), (.ifCond .eq 0, [3, 2], .null)]),
  (8, [(.iinc 1 0, [], .int 1), (.iload 2, [], .null), (.iload 2, [], .null), (.ldc 0, [], .int 1), (.isub, [], .null), (.iand, [], .null), (.istore 2, [], .null), (.goto 0, [1], .null)]),
  (20, [(.nop, [2], .null), (.iload 1, [], .null), (.ireturn, [], .null)])]
def mj_b232 : List (Nat × List mj_I) := [
  (0, [(.iload 1, [], .null), (.ldc 0, [], .int 0), (.aload 0, [], .null), (.getfield 7, [12, 0, 342], .null), (.ldc 0, [], .int 0), (.iaload, [], .null), (.ldc 0, [], .int 1), (.isub, [], .null), (.invokestatic 75, [228, 3, 12, 363], .null), (.ireturn, [1], .null)])]
def mj_b233 : List (Nat × List mj_I) := [
  (0, [(.iload 0, [], .null), (.ldc 0, [], .int 0), (.ldc 0, [], .int 7), (.invokestatic 75, [228, 3, 12, 363], .null), (.ireturn, [1], .null)])]
def mj_b234 : List (Nat × List mj_I) := [
  (0, [(.aload 0, [], .null), (.getfield 7, [12, 0, 342], .null), (.ldc 0, [], .int 11), (.ldc 0, [], .int 4), (.iload 1, [], .null), (.imul, [], .null), (.iadd, [], .null), (.iload 2, [], .null), (.iadd, [], .null), (.iaload, [], .null), (.ireturn, [], .null)])]
def mj_b235 : List (Nat × List mj_I) := [
  (0, [(.aload 0, [], .null), (.getfield 7, [12, 0, 342], .null), (.ldc 0, [], .int 11), (.ldc 0, [], .int 4), (.iload 1, [], .null), (.imul, [], .null), (.iadd, [], .null), (.iload 2, [], .null), (.iadd, [], .null), (.iload 3, [], .null), (.iastore, [], .null), (.return_, [], .null)])]
def mj_b236 : List (Nat × List mj_I) := [
  (0, [(.iload 1, [], .null), (.istore 3, [], .null), (.ldc 0, [], .int 0), (.istore 4, [], .null), (.nop, [1], .null), (.jsr 0, [1], .null)]),
  (5, [(.iload 4, [], .null), (.iload 2, [], .null), (.if_icmp .ge 0, [3, 2], .null)]),
  (11, [(.aload 0, [], .null), (.getfield 7, [12, 0, 342], .null), (.ldc 0, [], .int 41), (.iload 3, [], .null), (.iadd, [], .null), (.iaload, [], .null), (.istore 3, [], .null), (.iinc 4 0, [], .int 1), (.goto 0, [1], .null)]),
  (27, [(.nop, [0, 2, 4], .null), (.iload 3, [], .null), (.ireturn, [], .null)])]
def mj_b237 : List (Nat × List mj_I) := [
  (0, [(.aload 0, [], .null), (.aload 0, [], .null), (.iload 1, [], .null), (.ldc 0, [], .int 0), (.invokevirtual 79, [234, 3, 12, 364], .null), (.aload 0, [], .null), (.iload 1, [], .null), (.ldc 0, [], .int 1), (.invokevirtual 79, [234, 3, 12, 364], .null), (.invokevirtual 83, [236, 3, 12, 365], .null), (.ireturn, [], .null)])]
def mj_b238 : List (Nat × List mj_I) := [
  (0, [(.ldc 0, [], .int 0), (.istore 2, [], .null), (.ldc 0, [], .int 0), (.istore 3, [], .null), (.jsr 0, [1], .null)]),
  (4, [(.iload 3, [], .null), (.aload 0, [], .null), (.getfield 7, [12, 0, 342], .null), (.ldc 0, [], .int 0), (.iaload, [], .null), (.if_icmp .ge 0, [6, 2], .null)]),
  (14, [(.iload 2, [], .null), (.aload 0, [], .null), (.iload 3, [], .null), (.invokevirtual 86, [237, 2, 12, 366], .null), (.iload 1, [], .null), (.nop, [2], .null), (.if_icmp .ne 0, [4, 3], .null)]),
  (24, [(.ldc 0, [], .int 1), (.iload 3, [], .null), (.ishl, [], .null), (.goto 0, [5], .null)]),
  (30, [(.ldc 0, [], .int 0), (.jsr 0, [5], .null)]),
  (31, [(.ior, [], .null), (.istore 2, [], .null), (.iinc 3 0, [], .int 1), (.goto 0, [1], .null)]),
  (39, [(.nop, [0, 1, 3], .null), (.iload 2, [], .null), (.ireturn, [], .null)])]
def mj_b239 : List (Nat × List mj_I) := [
  (0, [(.iload 1, [], .null), (.invokestatic 90, [233, 1, 12, 367], .null), (.ifCond .eq 0, [3, 1], .null)]),
  (7, [(.iload 2, [], .null), (.ldc 0, [], .int 0), (.ldc 0, [], .int 99), (.invokestatic 75, [228, 3, 12, 363], .null), (.ifCond .eq 0, [3, 2], .null)]),
  (17, [(.aload 0, [], .null), (.getfield 7, [12, 0, 342], .null), (.ldc 0, [], .int 0), (.iaload, [], .null), (.ldc 0, [], .int 5), (.if_icmp .ne 0, [4, 3], .null)]),
  (27, [(.nop, [0, 1, 2], .null), (.ldc 0, [], .int (-1)), (.ireturn, [], .null)]),
  (29, [(.aload 0, [], .null), (.getfield 7, [12, 0, 342], .null), (.ldc 0, [], .int 0), (.iaload, [], .null), (.istore 3, [], .null), (.aload 0, [], .null), (.getfield 7, [12, 0, 342], .null), (.ldc 0, [], .int 31), (.ldc 0, [], .int 2), (.iload 3, [], .null), (.imul, [], .null), (.iadd, [], .null), (.iload 1, [], .null), (.iastore, [], .null), (.aload 0, [], .null), (.getfield 7, [12, 0, 342], .null), (.ldc 0, [], .int 31), (.ldc 0, [], .int 2), (.iload 3, [], .null), (.imul, [], .null), (.iadd, [], .null), (.ldc 0, [], .int 1), (.iadd, [], .null), (.iload 2, [], .null), (.iastore, [], .null), (.aload 0, [], .null), (.iload 3, [], .null), (.invokevirtual 94, [240, 2, 12, 368], .null), (.aload 0, [], .null), (.getfield 7, [12, 0, 342], .null), (.ldc 0, [], .int 0), (.dup2, [], .null), (.iaload, [], .null), (.ldc 0, [], .int 1), (.iadd, [], .null), (.iastore, [], .null), (.iload 3, [], .null), (.ireturn, [], .null)])]
def mj_b240 : List (Nat × List mj_I) := [
  (0, [(.aload 0, [], .null), (.iload 1, [], .null), (.ldc 0, [], .int 0), (.aload 0, [], .null), (.getfield 7, [12, 0, 342], .null), (.ldc 0, [], .int 31), (.ldc 0, [], .int 2), (.iload 1, [], .null), (.imul, [], .null), (.iadd, [], .null), (.iaload, [], .null), (.invokevirtual 98, [235, 4, 12, 369], .null), (.aload 0, [], .null), (.iload 1, [], .null), (.ldc 0, [], .int 1), (.ldc 0, [], .int 0), (.invokevirtual 98, [235, 4, 12, 369], .null), (.aload 0, [], .null), (.iload 1, [], .null), (.ldc 0, [], .int 2), (.aload 0, [], .null), (.getfield 7, [12, 0, 342], .null), (.ldc 0, [], .int 31), (.ldc 0, [], .int 2), (.iload 1, [], .null), (.imul, [], .null), (.iadd, [], .null), (.ldc 0, [], .int 1), (.iadd, [], .null), (.iaload, [], .null), (.invokevirtual 98, [235, 4, 12, 369], .null), (.aload 0, [], .null), (.iload 1, [], .null), (.ldc 0, [], .int 3), (.ldc 0, [], .int 0), (.invokevirtual 98, [235, 4, 12, 369], .null), (.return_, [], .null)])]
def mj_b241 : List (Nat × List mj_I) := [
  (0, [(.iload 1, [], .null), (.invokestatic 90, [233, 1, 12, 367], .null), (.ifCond .eq 0, [2, 1], .null)]),
  (7, [(.iload 2, [], .null), (.invokestatic 90, [233, 1, 12, 367], .null), (.ifCond .ne 0, [3, 2], .null)]),
  (14, [(.nop, [0, 1, 2], .null), (.ldc 0, [], .int 0), (.ireturn, [1], .null)]),
  (16, [(.aload 0, [], .null), (.getfield 7, [12, 0, 342], .null), (.ldc 0, [], .int 41), (.iload 1, [], .null), (.iadd, [], .null), (.iload 2, [], .null), (.iastore, [], .null), (.ldc 0, [], .int 1), (.ireturn, [1], .null)])]
def mj_b242 : List (Nat × List mj_I) := [
  (0, [(.iload 1, [], .null), (.invokestatic 90, [233, 1, 12, 367], .null), (.ifCond .eq 0, [2, 1], .null)]),
  (7, [(.iload 2, [], .null), (.ldc 0, [], .int (-9)), (.ldc 0, [], .int 9), (.invokestatic 75, [228, 3, 12, 363], .null), (.ifCond .ne 0, [3, 2], .null)]),
  (18, [(.nop, [0, 1, 2], .null), (.ldc 0, [], .int 0), (.ireturn, [1], .null)]),
  (20, [(.aload 0, [], .null), (.getfield 7, [12, 0, 342], .null), (.ldc 0, [], .int 49), (.iload 1, [], .null), (.iadd, [], .null), (.iload 2, [], .null), (.iastore, [], .null), (.ldc 0, [], .int 1), (.ireturn, [1], .null)])]
def mj_b243 : List (Nat × List mj_I) := [
  (0, [(.ldc 0, [], .int 24), (.istore 2, [], .null), (.jsr 0, [1], .null)]),
  (3, [(.iload 2, [], .null), (.ifCond .lt 0, [3, 2], .null)]),
  (7, [(.aload 0, [], .null), (.getfield 19, [12, 3, 345], .null), (.aload 0, [], .null), (.getfield 102, [12, 4, 370], .null), (.iload 1, [], .null), (.iload 2, [], .null), (.ishr, [], .null), (.ldc 0, [], .int 255), (.iand, [], .null), (.iastore, [], .null), (.aload 0, [], .null), (.dup, [], .null), (.getfield 102, [12, 4, 370], .null), (.ldc 0, [], .int 1), (.iadd, [], .null), (.putfield 102, [12, 4, 0, 370], .null), (.iinc 2 0, [], .int (-8)), (.goto 0, [1], .null)]),
  (39, [(.nop, [0, 1, 2], .null), (.return_, [], .null)])]
def mj_b244 : List (Nat × List mj_I) := [
  (0, [(.aload 0, [], .null), (.getfield 102, [12, 4, 370], .null), (.ldc 0, [], .int 20), (.iadd, [], .null), (.ldc 0, [], .int 300), (.if_icmp .le 0, [2, 1], .null)]),
  (13, [(.nop, [0, 1, 2, 3, 4, 5], .null), (.ldc 0, [], .int (-1)), (.ireturn, [], .null)]),
  (15, [(.aload 0, [], .null), (.iload 1, [], .null), (.invokevirtual 105, [243, 2, 12, 371], .null), (.aload 0, [], .null), (.iload 2, [], .null), (.invokevirtual 105, [243, 2, 12, 371], .null), (.aload 0, [], .null), (.iload 3, [], .null), (.invokevirtual 105, [243, 2, 12, 371], .null), (.aload 0, [], .null), (.iload 4, [], .null), (.invokevirtual 105, [243, 2, 12, 371], .null), (.aload 0, [], .null), (.iload 5, [], .null), (.invokevirtual 105, [243, 2, 12, 371], .null), (.aload 0, [], .null), (.getfield 102, [12, 4, 370], .null), (.ireturn, [], .null)])]
def mj_b245 : List (Nat × List mj_I) := [
  (0, [(.iload 1, [], .null), (.ldc 0, [], .int 0), (.aload 0, [], .null), (.getfield 102, [12, 4, 370], .null), (.invokestatic 75, [228, 3, 12, 363], .null), (.ifCond .ne 0, [2, 1], .null)]),
  (12, [(.nop, [0, 1], .null), (.ldc 0, [], .int (-1)), (.ireturn, [], .null)]),
  (14, [(.aload 0, [], .null), (.iload 1, [], .null), (.putfield 102, [12, 4, 0, 370], .null), (.iload 1, [], .null), (.ireturn, [], .null)])]
def mj_b246 : List (Nat × List mj_I) := [
  (0, [(.iload 1, [], .null), (.aload 0, [], .null), (.getfield 102, [12, 4, 370], .null), (.if_icmp .ge 0, [2, 1], .null)]),
  (8, [(.aload 0, [], .null), (.getfield 19, [12, 3, 345], .null), (.iload 1, [], .null), (.iaload, [], .null), (.nop, [0, 1], .null), (.goto 0, [3], .null)]),
  (17, [(.nop, [0, 1], .null), (.ldc 0, [], .int (-1)), (.jsr 0, [3], .null)]),
  (18, [(.ireturn, [], .null)])]
def mj_b247 : List (Nat × List mj_I) := [
  (0, [(.iload 0, [], .null), (.ldc 0, [], .int 97), (.if_icmp .lt 0, [2, 1], .null)]),
  (6, [(.iload 0, [], .null), (.ldc 0, [], .int 122), (.if_icmp .le 0, [4, 2], .null)]),
  (12, [(.iload 0, [], .null), (.ldc 0, [], .int 65), (.if_icmp .lt 0, [5, 3], .null)]),
  (18, [(.iload 0, [], .null), (.ldc 0, [], .int 90), (.nop, [0], .null), (.if_icmp .gt 0, [5, 4], .null)]),
  (24, [(.nop, [0], .null), (.ldc 0, [], .int 1), (.goto 0, [6], .null)]),
  (28, [(.nop, [0], .null), (.ldc 0, [], .int 0), (.jsr 0, [6], .null)]),
  (29, [(.ireturn, [1], .null)])]
def mj_b248 : List (Nat × List mj_I) := [
  (0, [(.iload 0, [], .null), (.ldc 0, [], .int 48), (.if_icmp .lt 0, [3, 1], .null)]),
  (6, [(.iload 0, [], .null), (.ldc 0, [], .int 57), (.nop, [0], .null), (.if_icmp .gt 0, [3, 2], .null)]),
  (12, [(.ldc 0, [], .int 1), (.goto 0, [4], .null)]),
  (16, [(.nop, [0], .null), (.ldc 0, [], .int 0), (.jsr 0, [4], .null)]),
  (17, [(.ireturn, [1], .null)])]
def mj_b249 : List (Nat × List mj_I) := [
  (0, [(.iload 0, [], .null), (.nop, [0], .null), (.tableswitch 0 35 62 #[], [2, 1, 2, 2, 2, 2, 1, 1, 1, 1, 2, 1, 2, 1, 2, 2, 2, 2, 2, 2, 2, 2, 2, 2, 1, 1, 1, 1, 1], .null)]),
  (128, [(.ldc 0, [], .int 1), (.ireturn, [1], .null)]),
  (130, [(.ldc 0, [], .int 0), (.ireturn, [1], .null)])]
def mj_b250 : List (Nat × List mj_I) := [
  (0, [(.aload 0, [], .null), (.aload 0, [], .null), (.getfield 108, [12, 7, 372], .null), (.invokevirtual 111, [246, 2, 12, 373], .null), (.ldc 0, [], .int 32), (.if_icmp .eq 0, [2, 1], .null)]),
  (13, [(.aload 0, [], .null), (.aload 0, [], .null), (.getfield 108, [12, 7, 372], .null), (.invokevirtual 111, [246, 2, 12, 373], .null), (.ldc 0, [], .int 10), (.if_icmp .ne 0, [3, 2], .null)]),
  (26, [(.aload 0, [], .null), (.dup, [], .null), (.getfield 108, [12, 7, 372], .null), (.ldc 0, [], .int 1), (.iadd, [], .null), (.putfield 108, [12, 7, 0, 372], .null), (.goto 0, [0], .null)]),
  (39, [(.aload 0, [], .null), (.aload 0, [], .null), (.getfield 108, [12, 7, 372], .null), (.putfield 114, [12, 8, 0, 374], .null), (.aload 0, [], .null), (.aload 0, [], .null), (.getfield 108, [12, 7, 372], .null), (.invokevirtual 111, [246, 2, 12, 373], .null), (.istore 1, [], .null), (.iload 1, [], .null), (.ifCond .ge 0, [5, 4], .null)]),
  (60, [(.nop, [1], .null), (.aload 0, [], .null), (.ldc 0, [], .int 0), (.putfield 117, [12, 9, 0, 375], .null), (.nop, [0], .null), (.goto 0, [29], .null)]),
  (68, [(.iload 1, [], .null), (.invokestatic 120, [248, 1, 12, 376], .null), (.ifCond .eq 0, [12, 6], .null)]),
  (75, [(.nop, [1], .null), (.aload 0, [], .null), (.ldc 0, [], .int 1), (.putfield 117, [12, 9, 0, 375], .null), (.aload 0, [], .null), (.ldc 0, [], .int 0), (.putfield 123, [12, 10, 0, 377], .null), (.jsr 0, [7], .null)]),
  (85, [(.aload 0, [], .null), (.aload 0, [], .null), (.getfield 108, [12, 7, 372], .null), (.invokevirtual 111, [246, 2, 12, 373], .null), (.invokestatic 120, [248, 1, 12, 376], .null), (.ifCond .eq 0, [29, 8], .null)]),
  (99, [(.aload 0, [], .null), (.aload 0, [], .null), (.getfield 123, [12, 10, 377], .null), (.ldc 126, [378], .int 99999), (.if_icmp .le 0, [10, 9], .null)]),
  (109, [(.aload 0, [], .null), (.getfield 123, [12, 10, 377], .null), (.goto 0, [11], .null)]),
  (116, [(.ldc 0, [], .int 10), (.aload 0, [], .null), (.getfield 123, [12, 10, 377], .null), (.imul, [], .null), (.aload 0, [], .null), (.aload 0, [], .null), (.getfield 108, [12, 7, 372], .null), (.invokevirtual 111, [246, 2, 12, 373], .null), (.iadd, [], .null), (.ldc 0, [], .int 48), (.isub, [], .null), (.jsr 0, [11], .null)]),
  (135, [(.putfield 123, [12, 10, 0, 377], .null), (.aload 0, [], .null), (.dup, [], .null), (.getfield 108, [12, 7, 372], .null), (.ldc 0, [], .int 1), (.iadd, [], .null), (.putfield 108, [12, 7, 0, 372], .null), (.goto 0, [7], .null)]),
  (151, [(.iload 1, [], .null), (.invokestatic 127, [247, 1, 12, 379], .null), (.ifCond .eq 0, [19, 13], .null)]),
  (158, [(.nop, [1], .null), (.aload 0, [], .null), (.ldc 0, [], .int 2), (.putfield 117, [12, 9, 0, 375], .null), (.aload 0, [], .null), (.ldc 0, [], .long 0), (.putfield 130, [12, 11, 2, 380], .null), (.jsr 0, [14], .null)]),
  (168, [(.aload 0, [], .null), (.aload 0, [], .null), (.getfield 108, [12, 7, 372], .null), (.invokevirtual 111, [246, 2, 12, 373], .null), (.invokestatic 127, [247, 1, 12, 379], .null), (.ifCond .eq 0, [29, 15], .null)]),
  (182, [(.aload 0, [], .null), (.aload 0, [], .null), (.getfield 130, [12, 11, 380], .null), (.ldc 0, [], .int 48), (.lshr, [], .null), (.ldc 0, [], .long 0), (.lcmp, [], .null), (.ifCond .eq 0, [17, 16], .null)]),
  (195, [(.ldc 134, [381], .long 1152921504606846976), (.goto 0, [18], .null)]),
  (201, [(.aload 0, [], .null), (.getfield 130, [12, 11, 380], .null), (.ldc 0, [], .int 8), (.lshl, [], .null), (.aload 0, [], .null), (.aload 0, [], .null), (.getfield 108, [12, 7, 372], .null), (.invokevirtual 111, [246, 2, 12, 373], .null), (.i2l, [], .null), (.lor, [], .null), (.jsr 0, [18], .null)]),
  (218, [(.putfield 130, [12, 11, 2, 380], .null), (.aload 0, [], .null), (.dup, [], .null), (.getfield 108, [12, 7, 372], .null), (.ldc 0, [], .int 1), (.iadd, [], .null), (.putfield 108, [12, 7, 0, 372], .null), (.goto 0, [14], .null)]),
  (234, [(.aload 0, [], .null), (.iload 1, [], .null), (.invokestatic 136, [249, 1, 12, 382], .null), (.ifCond .eq 0, [21, 20], .null)]),
  (242, [(.iload 1, [], .null), (.goto 0, [22], .null)]),
  (246, [(.ldc 0, [], .int 3), (.jsr 0, [22], .null)]),
  (247, [(.putfield 117, [12, 9, 0, 375], .null), (.aload 0, [], .null), (.dup, [], .null), (.getfield 108, [12, 7, 372], .null), (.ldc 0, [], .int 1), (.iadd, [], .null), (.putfield 108, [12, 7, 0, 372], .null), (.iload 1, [], .null), (.ldc 0, [], .int 60), (.if_icmp .eq 0, [24, 23], .null)]),
  (266, [(.iload 1, [], .null), (.ldc 0, [], .int 62), (.if_icmp .ne 0, [29, 24], .null)]),
  (272, [(.aload 0, [], .null), (.aload 0, [], .null), (.getfield 108, [12, 7, 372], .null), (.invokevirtual 111, [246, 2, 12, 373], .null), (.ldc 0, [], .int 61), (.if_icmp .ne 0, [29, 25], .null)]),
  (285, [(.aload 0, [], .null), (.iload 1, [], .null), (.ldc 0, [], .int 60), (.nop, [1], .null), (.if_icmp .ne 0, [27, 26], .null)]),
  (292, [(.ldc 0, [], .int 4), (.goto 0, [28], .null)]),
  (296, [(.ldc 0, [], .int 5), (.jsr 0, [28], .null)]),
  (297, [(.putfield 117, [12, 9, 0, 375], .null), (.aload 0, [], .null), (.dup, [], .null), (.getfield 108, [12, 7, 372], .null), (.ldc 0, [], .int 1), (.iadd, [], .null), (.putfield 108, [12, 7, 0, 372], .null), (.nop, [0], .null), (.jsr 0, [29], .null)]),
  (310, [(.nop, [0, 1], .null), (.return_, [], .null)])]
def mj_b251 : List (Nat × List mj_I) := [
  (0, [(.iload 0, [], .null), (.i2l, [], .null), (.ldc 0, [], .int 8), (.lshl, [], .null), (.iload 1, [], .null), (.i2l, [], .null), (.lor, [], .null), (.lreturn, [], .null)])]
def mj_b252 : List (Nat × List mj_I) := [
  (0, [(.iload 0, [], .null), (.iload 1, [], .null), (.invokestatic 139, [251, 2, 12, 383], .null), (.ldc 0, [], .int 8), (.lshl, [], .null), (.iload 2, [], .null), (.i2l, [], .null), (.lor, [], .null), (.lreturn, [], .null)])]
def mj_b253 : List (Nat × List mj_I) := [
  (0, [(.iload 0, [], .null), (.iload 1, [], .null), (.iload 2, [], .null), (.invokestatic 143, [252, 3, 12, 384], .null), (.ldc 0, [], .int 8), (.lshl, [], .null), (.iload 3, [], .null), (.i2l, [], .null), (.lor, [], .null), (.lreturn, [], .null)])]
def mj_b254 : List (Nat × List mj_I) := [
  (0, [(.iload 0, [], .null), (.iload 1, [], .null), (.iload 2, [], .null), (.iload 3, [], .null), (.invokestatic 147, [253, 4, 12, 385], .null), (.ldc 0, [], .int 8), (.lshl, [], .null), (.iload 4, [], .null), (.i2l, [], .null), (.lor, [], .null), (.lreturn, [], .null)])]
def mj_b255 : List (Nat × List mj_I) := [
  (0, [(.iload 0, [], .null), (.iload 1, [], .null), (.iload 2, [], .null), (.iload 3, [], .null), (.iload 4, [], .null), (.invokestatic 151, [254, 5, 12, 386], .null), (.ldc 0, [], .int 8), (.lshl, [], .null), (.iload 5, [], .null), (.i2l, [], .null), (.lor, [], .null), (.lreturn, [], .null)])]
def mj_b256 : List (Nat × List mj_I) := [
  (0, [(.aload 0, [], .null), (.getfield 117, [12, 9, 375], .null), (.ldc 0, [], .int 2), (.if_icmp .ne 0, [3, 1], .null)]),
  (8, [(.aload 0, [], .null), (.getfield 130, [12, 11, 380], .null), (.lload 1, [], .null), (.lcmp, [], .null), (.nop, [0, 1], .null), (.ifCond .ne 0, [3, 2], .null)]),
  (17, [(.ldc 0, [], .int 1), (.goto 0, [4], .null)]),
  (21, [(.nop, [0, 1], .null), (.ldc 0, [], .int 0), (.jsr 0, [4], .null)]),
  (22, [(.ireturn, [1], .null)])]
def mj_b257 : List (Nat × List mj_I) := [
  (0, [(.aload 0, [], .null), (.getfield 16, [12, 2, 344], .null), (.aload 0, [], .null), (.getfield 155, [12, 12, 387], .null), (.ldc 0, [], .int 73), (.iadd, [], .null), (.ldc 0, [], .int 2), (.aload 0, [], .null), (.getfield 158, [12, 13, 388], .null), (.imul, [], .null), (.iadd, [], .null), (.iload 1, [], .null), (.iastore, [], .null), (.aload 0, [], .null), (.getfield 16, [12, 2, 344], .null), (.aload 0, [], .null), (.getfield 155, [12, 12, 387], .null), (.ldc 0, [], .int 73), (.iadd, [], .null), (.ldc 0, [], .int 2), (.aload 0, [], .null), (.getfield 158, [12, 13, 388], .null), (.imul, [], .null), (.iadd, [], .null), (.ldc 0, [], .int 1), (.iadd, [], .null), (.iload 2, [], .null), (.iastore, [], .null), (.aload 0, [], .null), (.dup, [], .null), (.getfield 158, [12, 13, 388], .null), (.ldc 0, [], .int 1), (.iadd, [], .null), (.putfield 158, [12, 13, 0, 388], .null), (.return_, [], .null)])]
def mj_b258 : List (Nat × List mj_I) := [
  (0, [(.aload 0, [], .null), (.getfield 117, [12, 9, 375], .null), (.ldc 0, [], .int 2), (.if_icmp .ne 0, [5, 1], .null)]),
  (8, [(.aload 0, [], .null), (.getfield 108, [12, 7, 372], .null), (.aload 0, [], .null), (.getfield 114, [12, 8, 374], .null), (.isub, [], .null), (.ldc 0, [], .int 7), (.if_icmp .ne 0, [5, 2], .null)]),
  (22, [(.aload 0, [], .null), (.aload 0, [], .null), (.getfield 114, [12, 8, 374], .null), (.invokevirtual 111, [246, 2, 12, 373], .null), (.aload 0, [], .null), (.aload 0, [], .null), (.getfield 114, [12, 8, 374], .null), (.ldc 0, [], .int 1), (.iadd, [], .null), (.invokevirtual 111, [246, 2, 12, 373], .null), (.aload 0, [], .null), (.aload 0, [], .null), (.getfield 114, [12, 8, 374], .null), (.ldc 0, [], .int 2), (.iadd, [], .null), (.invokevirtual 111, [246, 2, 12, 373], .null), (.aload 0, [], .null), (.aload 0, [], .null), (.getfield 114, [12, 8, 374], .null), (.ldc 0, [], .int 3), (.iadd, [], .null), (.invokevirtual 111, [246, 2, 12, 373], .null), (.invokestatic 147, [253, 4, 12, 385], .null), (.ldc 0, [], .int 114), (.ldc 0, [], .int 101), (.ldc 0, [], .int 116), (.ldc 0, [], .int 117), (.invokestatic 147, [253, 4, 12, 385], .null), (.lcmp, [], .null), (.ifCond .ne 0, [5, 3], .null)]),
  (78, [(.aload 0, [], .null), (.aload 0, [], .null), (.getfield 114, [12, 8, 374], .null), (.ldc 0, [], .int 4), (.iadd, [], .null), (.invokevirtual 111, [246, 2, 12, 373], .null), (.aload 0, [], .null), (.aload 0, [], .null), (.getfield 114, [12, 8, 374], .null), (.ldc 0, [], .int 5), (.iadd, [], .null), (.invokevirtual 111, [246, 2, 12, 373], .null), (.aload 0, [], .null), (.aload 0, [], .null), (.getfield 114, [12, 8, 374], .null), (.ldc 0, [], .int 6), (.iadd, [], .null), (.invokevirtual 111, [246, 2, 12, 373], .null), (.invokestatic 143, [252, 3, 12, 384], .null), (.ldc 0, [], .int 114), (.ldc 0, [], .int 110), (.ldc 0, [], .int 115), (.invokestatic 143, [252, 3, 12, 384], .null), (.lcmp, [], .null), (.nop, [0], .null), (.ifCond .ne 0, [5, 4], .null)]),
  (125, [(.ldc 0, [], .int 1), (.goto 0, [6], .null)]),
  (129, [(.nop, [0], .null), (.ldc 0, [], .int 0), (.jsr 0, [6], .null)]),
  (130, [(.ireturn, [1], .null)])]
def mj_b259 : List (Nat × List mj_I) := [
  (0, [(.aload 0, [], .null), (.getfield 117, [12, 9, 375], .null), (.ldc 0, [], .int 2), (.if_icmp .eq 0, [2, 1], .null)]),
  (8, [(.nop, [0], .null), (.ldc 0, [], .int (-1)), (.ireturn, [], .null)]),
  (10, [(.aload 0, [], .null), (.getfield 130, [12, 11, 380], .null), (.ldc 0, [], .int 104), (.ldc 0, [], .int 111), (.ldc 0, [], .int 117), (.ldc 0, [], .int 114), (.invokestatic 147, [253, 4, 12, 385], .null), (.lcmp, [], .null), (.ifCond .ne 0, [4, 3], .null)]),
  (29, [(.nop, [0], .null), (.ldc 0, [], .int 0), (.ireturn, [], .null)]),
  (31, [(.aload 0, [], .null), (.getfield 130, [12, 11, 380], .null), (.ldc 0, [], .int 119), (.ldc 0, [], .int 104), (.ldc 0, [], .int 111), (.invokestatic 143, [252, 3, 12, 384], .null), (.lcmp, [], .null), (.ifCond .ne 0, [6, 5], .null)]),
  (48, [(.nop, [0], .null), (.ldc 0, [], .int 1), (.ireturn, [], .null)]),
  (50, [(.aload 0, [], .null), (.getfield 130, [12, 11, 380], .null), (.ldc 0, [], .int 112), (.ldc 0, [], .int 108), (.ldc 0, [], .int 97), (.ldc 0, [], .int 99), (.ldc 0, [], .int 101), (.invokestatic 151, [254, 5, 12, 386], .null), (.lcmp, [], .null), (.ifCond .ne 0, [8, 7], .null)]),
  (71, [(.nop, [0], .null), (.ldc 0, [], .int 2), (.ireturn, [], .null)]),
  (73, [(.aload 0, [], .null), (.getfield 130, [12, 11, 380], .null), (.ldc 0, [], .int 100), (.ldc 0, [], .int 101), (.ldc 0, [], .int 112), (.ldc 0, [], .int 116), (.ldc 0, [], .int 104), (.invokestatic 151, [254, 5, 12, 386], .null), (.lcmp, [], .null), (.ifCond .ne 0, [10, 9], .null)]),
  (94, [(.nop, [0], .null), (.ldc 0, [], .int 3), (.ireturn, [], .null)]),
  (96, [(.aload 0, [], .null), (.getfield 130, [12, 11, 380], .null), (.ldc 0, [], .int 99), (.ldc 0, [], .int 108), (.ldc 0, [], .int 111), (.ldc 0, [], .int 118), (.ldc 0, [], .int 101), (.ldc 0, [], .int 115), (.invokestatic 161, [255, 6, 12, 389], .null), (.lcmp, [], .null), (.ifCond .ne 0, [12, 11], .null)]),
  (119, [(.nop, [0], .null), (.ldc 0, [], .int 4), (.ireturn, [], .null)]),
  (121, [(.aload 0, [], .null), (.getfield 130, [12, 11, 380], .null), (.ldc 0, [], .int 119), (.ldc 0, [], .int 105), (.ldc 0, [], .int 116), (.ldc 0, [], .int 104), (.invokestatic 147, [253, 4, 12, 385], .null), (.lcmp, [], .null), (.ifCond .ne 0, [14, 13], .null)]),
  (140, [(.nop, [0], .null), (.ldc 0, [], .int 5), (.ireturn, [], .null)]),
  (142, [(.aload 0, [], .null), (.getfield 130, [12, 11, 380], .null), (.ldc 0, [], .int 106), (.ldc 0, [], .int 111), (.ldc 0, [], .int 121), (.invokestatic 143, [252, 3, 12, 384], .null), (.lcmp, [], .null), (.ifCond .ne 0, [16, 15], .null)]),
  (159, [(.nop, [0], .null), (.ldc 0, [], .int 6), (.goto 0, [19], .null)]),
  (164, [(.aload 0, [], .null), (.getfield 130, [12, 11, 380], .null), (.ldc 0, [], .int 115), (.ldc 0, [], .int 105), (.ldc 0, [], .int 110), (.ldc 0, [], .int 99), (.ldc 0, [], .int 101), (.invokestatic 151, [254, 5, 12, 386], .null), (.lcmp, [], .null), (.nop, [0], .null), (.ifCond .ne 0, [18, 17], .null)]),
  (185, [(.ldc 0, [], .int 7), (.goto 0, [19], .null)]),
  (190, [(.ldc 0, [], .int (-1)), (.jsr 0, [19], .null)]),
  (191, [(.ireturn, [], .null)])]
def mj_b260 : List (Nat × List mj_I) := [
  (0, [(.iload 1, [], .null), (.ldc 0, [], .int 6), (.if_icmp .lt 0, [5, 1], .null)]),
  (6, [(.iload 1, [], .null), (.ldc 0, [], .int 6), (.nop, [1], .null), (.if_icmp .ne 0, [4, 2], .null)]),
  (12, [(.aload 0, [], .null), (.getfield 165, [12, 14, 390], .null), (.nop, [0], .null), (.ifCond .ne 0, [6, 3], .null)]),
  (19, [(.goto 0, [5], .null)]),
  (22, [(.aload 0, [], .null), (.getfield 165, [12, 14, 390], .null), (.ldc 0, [], .int 1), (.nop, [0], .null), (.if_icmp .ne 0, [6, 5], .null)]),
  (30, [(.nop, [0, 1], .null), (.ldc 0, [], .int 1), (.goto 0, [7], .null)]),
  (34, [(.ldc 0, [], .int 0), (.jsr 0, [7], .null)]),
  (35, [(.ireturn, [1], .null)])]
def mj_b261 : List (Nat × List mj_I) := [
  (0, [(.iload 0, [], .null), (.ldc 0, [], .int 40), (.if_icmp .lt 0, [2, 1], .null)]),
  (6, [(.nop, [0], .null), (.ldc 0, [], .int 0), (.goto 0, [15], .null)]),
  (10, [(.iload 0, [], .null), (.ldc 0, [], .int 22), (.if_icmp .ne 0, [4, 3], .null)]),
  (16, [(.nop, [0], .null), (.ldc 0, [], .int 1), (.goto 0, [15], .null)]),
  (20, [(.iload 0, [], .null), (.ldc 0, [], .int 21), (.if_icmp .ne 0, [6, 5], .null)]),
  (26, [(.nop, [0], .null), (.ldc 0, [], .int 2), (.goto 0, [15], .null)]),
  (30, [(.iload 0, [], .null), (.ldc 0, [], .int 20), (.if_icmp .ne 0, [8, 7], .null)]),
  (36, [(.nop, [0], .null), (.ldc 0, [], .int 3), (.goto 0, [15], .null)]),
  (40, [(.iload 0, [], .null), (.ldc 0, [], .int 10), (.if_icmp .lt 0, [10, 9], .null)]),
  (46, [(.nop, [0], .null), (.ldc 0, [], .int 4), (.goto 0, [15], .null)]),
  (50, [(.iload 0, [], .null), (.ldc 0, [], .int 8), (.if_icmp .lt 0, [12, 11], .null)]),
  (56, [(.nop, [0], .null), (.ldc 0, [], .int 6), (.goto 0, [15], .null)]),
  (61, [(.iload 0, [], .null), (.ldc 0, [], .int 6), (.nop, [0], .null), (.if_icmp .lt 0, [14, 13], .null)]),
  (67, [(.ldc 0, [], .int 5), (.goto 0, [15], .null)]),
  (71, [(.ldc 0, [], .int 7), (.jsr 0, [15], .null)]),
  (73, [(.ireturn, [], .null)])]
def mj_b262 : List (Nat × List mj_I) := [
  (0, [(.aload 0, [], .null), (.getfield 168, [12, 16, 391], .null), (.ifCond .le 0, [5, 1], .null)]),
  (7, [(.aload 0, [], .null), (.getfield 29, [12, 15, 348], .null), (.aload 0, [], .null), (.getfield 168, [12, 16, 391], .null), (.ldc 0, [], .int 1), (.isub, [], .null), (.iaload, [], .null), (.invokestatic 171, [261, 1, 12, 392], .null), (.iload 1, [], .null), (.if_icmp .lt 0, [5, 2], .null)]),
  (25, [(.aload 0, [], .null), (.dup, [], .null), (.getfield 168, [12, 16, 391], .null), (.ldc 0, [], .int 1), (.isub, [], .null), (.putfield 168, [12, 16, 0, 391], .null), (.aload 0, [], .null), (.aload 0, [], .null), (.getfield 29, [12, 15, 348], .null), (.aload 0, [], .null), (.getfield 168, [12, 16, 391], .null), (.iaload, [], .null), (.ldc 0, [], .int 0), (.invokevirtual 174, [257, 3, 12, 393], .null), (.aload 0, [], .null), (.getfield 29, [12, 15, 348], .null), (.aload 0, [], .null), (.getfield 168, [12, 16, 391], .null), (.iaload, [], .null), (.invokestatic 171, [261, 1, 12, 392], .null), (.ldc 0, [], .int 7), (.if_icmp .eq 0, [4, 3], .null)]),
  (66, [(.aload 0, [], .null), (.getfield 29, [12, 15, 348], .null), (.aload 0, [], .null), (.getfield 168, [12, 16, 391], .null), (.iaload, [], .null), (.ldc 0, [], .int 20), (.if_icmp .ne 0, [0, 4], .null)]),
  (80, [(.aload 0, [], .null), (.dup, [], .null), (.getfield 178, [12, 17, 394], .null), (.ldc 0, [], .int 1), (.isub, [], .null), (.putfield 178, [12, 17, 0, 394], .null), (.goto 0, [0], .null)]),
  (93, [(.nop, [0, 1], .null), (.return_, [], .null)])]
def mj_b263 : List (Nat × List mj_I) := [
  (0, [(.aload 0, [], .null), (.getfield 168, [12, 16, 391], .null), (.ldc 0, [], .int 1), (.isub, [], .null), (.istore 1, [], .null), (.jsr 0, [1], .null)]),
  (7, [(.iload 1, [], .null), (.ifCond .lt 0, [4, 2], .null)]),
  (11, [(.aload 0, [], .null), (.getfield 29, [12, 15, 348], .null), (.iload 1, [], .null), (.iaload, [], .null), (.ldc 0, [], .int 40), (.if_icmp .ge 0, [4, 3], .null)]),
  (22, [(.iinc 1 0, [], .int (-1)), (.goto 0, [1], .null)]),
  (28, [(.nop, [0], .null), (.iload 1, [], .null), (.ireturn, [], .null)])]
def mj_b264 : List (Nat × List mj_I) := [
  (0, [(.aload 0, [], .null), (.invokevirtual 181, [263, 1, 12, 395], .null), (.ifCond .ge 0, [2, 1], .null)]),
  (7, [(.nop, [0], .null), (.ldc 0, [], .int (-1)), (.goto 0, [3], .null)]),
  (11, [(.aload 0, [], .null), (.getfield 29, [12, 15, 348], .null), (.aload 0, [], .null), (.invokevirtual 181, [263, 1, 12, 395], .null), (.iaload, [], .null), (.nop, [0], .null), (.jsr 0, [3], .null)]),
  (20, [(.ireturn, [], .null)])]
def mj_b265 : List (Nat × List mj_I) := [
  (0, [(.aload 0, [], .null), (.getfield 168, [12, 16, 391], .null), (.ldc 0, [], .int 1), (.isub, [], .null), (.istore 1, [], .null), (.jsr 0, [1], .null)]),
  (7, [(.iload 1, [], .null), (.ifCond .lt 0, [4, 2], .null)]),
  (11, [(.aload 0, [], .null), (.getfield 29, [12, 15, 348], .null), (.iload 1, [], .null), (.iaload, [], .null), (.invokestatic 171, [261, 1, 12, 392], .null), (.ldc 0, [], .int 4), (.if_icmp .le 0, [4, 3], .null)]),
  (24, [(.iinc 1 0, [], .int (-1)), (.goto 0, [1], .null)]),
  (30, [(.iload 1, [], .null), (.ifCond .lt 0, [7, 5], .null)]),
  (34, [(.aload 0, [], .null), (.getfield 29, [12, 15, 348], .null), (.iload 1, [], .null), (.iaload, [], .null), (.invokestatic 171, [261, 1, 12, 392], .null), (.ldc 0, [], .int 4), (.nop, [0, 1], .null), (.if_icmp .ne 0, [7, 6], .null)]),
  (47, [(.ldc 0, [], .int 1), (.goto 0, [8], .null)]),
  (51, [(.nop, [0, 1], .null), (.ldc 0, [], .int 0), (.jsr 0, [8], .null)]),
  (52, [(.ireturn, [1], .null)])]
def mj_b266 : List (Nat × List mj_I) := [
  (0, [(.aload 0, [], .null), (.invokevirtual 185, [264, 1, 12, 396], .null), (.ldc 0, [], .int 41), (.if_icmp .ne 0, [4, 1], .null)]),
  (9, [(.aload 0, [], .null), (.getfield 29, [12, 15, 348], .null), (.aload 0, [], .null), (.getfield 168, [12, 16, 391], .null), (.ldc 0, [], .int 1), (.isub, [], .null), (.iaload, [], .null), (.ldc 0, [], .int 40), (.if_icmp .ge 0, [3, 2], .null)]),
  (25, [(.aload 0, [], .null), (.getfield 29, [12, 15, 348], .null), (.aload 0, [], .null), (.getfield 168, [12, 16, 391], .null), (.ldc 0, [], .int 1), (.isub, [], .null), (.iaload, [], .null), (.invokestatic 171, [261, 1, 12, 392], .null), (.ldc 0, [], .int 1), (.ldc 0, [], .int 3), (.invokestatic 75, [228, 3, 12, 363], .null), (.nop, [0], .null), (.ifCond .eq 0, [4, 3], .null)]),
  (47, [(.nop, [0], .null), (.ldc 0, [], .int 1), (.goto 0, [5], .null)]),
  (51, [(.nop, [0], .null), (.ldc 0, [], .int 0), (.jsr 0, [5], .null)]),
  (52, [(.ireturn, [1], .null)])]
def mj_b267 : List (Nat × List mj_I) := [
  (0, [(.aload 0, [], .null), (.getfield 178, [12, 17, 394], .null), (.ldc 0, [], .int 8), (.if_icmp .ne 0, [2, 1], .null)]),
  (9, [(.nop, [0, 1], .null), (.ldc 0, [], .int 3), (.ireturn, [], .null)]),
  (11, [(.aload 0, [], .null), (.dup, [], .null), (.getfield 178, [12, 17, 394], .null), (.ldc 0, [], .int 1), (.iadd, [], .null), (.putfield 178, [12, 17, 0, 394], .null), (.aload 0, [], .null), (.getfield 29, [12, 15, 348], .null), (.aload 0, [], .null), (.getfield 168, [12, 16, 391], .null), (.iload 1, [], .null), (.iastore, [], .null), (.aload 0, [], .null), (.dup, [], .null), (.getfield 168, [12, 16, 391], .null), (.ldc 0, [], .int 1), (.iadd, [], .null), (.putfield 168, [12, 16, 0, 391], .null), (.aload 0, [], .null), (.invokevirtual 188, [250, 1, 12, 397], .null), (.ldc 0, [], .int 0), (.ireturn, [], .null)])]
def mj_b268 : List (Nat × List mj_I) := [
  (0, [(.aload 0, [], .null), (.getfield 117, [12, 9, 375], .null), (.ldc 0, [], .int 1), (.if_icmp .ne 0, [3, 1], .null)]),
  (8, [(.aload 0, [], .null), (.getfield 123, [12, 10, 377], .null), (.ldc 0, [], .int 9999), (.if_icmp .le 0, [3, 2], .null)]),
  (18, [(.nop, [0], .null), (.ldc 0, [], .int 2), (.ireturn, [], .null)]),
  (20, [(.aload 0, [], .null), (.invokevirtual 191, [259, 1, 12, 398], .null), (.istore 1, [], .null), (.iload 1, [], .null), (.ifCond .lt 0, [6, 4], .null)]),
  (29, [(.aload 0, [], .null), (.iload 1, [], .null), (.invokevirtual 194, [260, 2, 12, 399], .null), (.ifCond .ne 0, [6, 5], .null)]),
  (37, [(.nop, [0, 1], .null), (.ldc 0, [], .int 5), (.ireturn, [], .null)]),
  (39, [(.aload 0, [], .null), (.getfield 117, [12, 9, 375], .null), (.ldc 0, [], .int 1), (.if_icmp .eq 0, [8, 7], .null)]),
  (47, [(.iload 1, [], .null), (.ifCond .lt 0, [15, 8], .null)]),
  (51, [(.aload 0, [], .null), (.aload 0, [], .null), (.getfield 117, [12, 9, 375], .null), (.ldc 0, [], .int 1), (.if_icmp .ne 0, [10, 9], .null)]),
  (60, [(.ldc 0, [], .int 0), (.goto 0, [11], .null)]),
  (64, [(.ldc 0, [], .int 1), (.jsr 0, [11], .null)]),
  (65, [(.aload 0, [], .null), (.getfield 117, [12, 9, 375], .null), (.ldc 0, [], .int 1), (.if_icmp .ne 0, [13, 12], .null)]),
  (73, [(.nop, [1], .null), (.aload 0, [], .null), (.getfield 123, [12, 10, 377], .null), (.goto 0, [14], .null)]),
  (80, [(.iload 1, [], .null), (.nop, [1], .null), (.jsr 0, [14], .null)]),
  (81, [(.invokevirtual 174, [257, 3, 12, 393], .null), (.aload 0, [], .null), (.invokevirtual 188, [250, 1, 12, 397], .null), (.aload 0, [], .null), (.ldc 0, [], .int 1), (.putfield 197, [12, 18, 1, 400], .null), (.aload 0, [], .null), (.ldc 0, [], .int 7), (.invokevirtual 200, [262, 2, 12, 401], .null), (.ldc 0, [], .int 0), (.ireturn, [], .null)]),
  (101, [(.nop, [1], .null), (.aload 0, [], .null), (.getfield 117, [12, 9, 375], .null), (.ldc 0, [], .int 40), (.if_icmp .ne 0, [17, 16], .null)]),
  (110, [(.aload 0, [], .null), (.ldc 0, [], .int 40), (.invokevirtual 203, [267, 2, 12, 402], .null), (.ireturn, [], .null)]),
  (117, [(.aload 0, [], .null), (.getfield 117, [12, 9, 375], .null), (.ldc 0, [], .int 45), (.if_icmp .ne 0, [19, 18], .null)]),
  (126, [(.aload 0, [], .null), (.ldc 0, [], .int 5), (.invokevirtual 203, [267, 2, 12, 402], .null), (.ireturn, [], .null)]),
  (132, [(.aload 0, [], .null), (.ldc 0, [], .int 98), (.ldc 0, [], .int 101), (.ldc 0, [], .int 104), (.ldc 0, [], .int 105), (.ldc 0, [], .int 110), (.ldc 0, [], .int 100), (.invokestatic 161, [255, 6, 12, 389], .null), (.invokevirtual 206, [256, 2, 12, 403], .null), (.ifCond .eq 0, [21, 20], .null)]),
  (154, [(.aload 0, [], .null), (.ldc 0, [], .int 2), (.invokevirtual 203, [267, 2, 12, 402], .null), (.ireturn, [], .null)]),
  (160, [(.aload 0, [], .null), (.ldc 0, [], .int 100), (.ldc 0, [], .int 101), (.ldc 0, [], .int 101), (.ldc 0, [], .int 112), (.invokestatic 147, [253, 4, 12, 385], .null), (.invokevirtual 206, [256, 2, 12, 403], .null), (.ifCond .eq 0, [23, 22], .null)]),
  (178, [(.aload 0, [], .null), (.ldc 0, [], .int 4), (.invokevirtual 203, [267, 2, 12, 402], .null), (.ireturn, [], .null)]),
  (184, [(.aload 0, [], .null), (.ldc 0, [], .int 105), (.ldc 0, [], .int 102), (.invokestatic 139, [251, 2, 12, 383], .null), (.invokevirtual 206, [256, 2, 12, 403], .null), (.ifCond .eq 0, [25, 24], .null)]),
  (198, [(.aload 0, [], .null), (.ldc 0, [], .int 41), (.invokevirtual 203, [267, 2, 12, 402], .null), (.ireturn, [], .null)]),
  (205, [(.aload 0, [], .null), (.ldc 0, [], .int 110), (.ldc 0, [], .int 111), (.ldc 0, [], .int 116), (.invokestatic 143, [252, 3, 12, 384], .null), (.invokevirtual 206, [256, 2, 12, 403], .null), (.ifCond .eq 0, [28, 26], .null)]),
  (221, [(.aload 0, [], .null), (.invokevirtual 210, [266, 1, 12, 404], .null), (.ifCond .eq 0, [28, 27], .null)]),
  (228, [(.aload 0, [], .null), (.ldc 0, [], .int 20), (.invokevirtual 203, [267, 2, 12, 402], .null), (.nop, [0], .null), (.goto 0, [29], .null)]),
  (237, [(.nop, [0], .null), (.ldc 0, [], .int 1), (.jsr 0, [29], .null)]),
  (238, [(.ireturn, [], .null)])]
def mj_b269 : List (Nat × List mj_I) := [
  (0, [(.aload 0, [], .null), (.getfield 117, [12, 9, 375], .null), (.ldc 0, [], .int 60), (.if_icmp .ne 0, [2, 1], .null)]),
  (9, [(.nop, [0], .null), (.ldc 0, [], .int 10), (.goto 0, [13], .null)]),
  (14, [(.aload 0, [], .null), (.getfield 117, [12, 9, 375], .null), (.ldc 0, [], .int 4), (.if_icmp .ne 0, [4, 3], .null)]),
  (22, [(.nop, [0], .null), (.ldc 0, [], .int 11), (.goto 0, [13], .null)]),
  (27, [(.aload 0, [], .null), (.getfield 117, [12, 9, 375], .null), (.ldc 0, [], .int 62), (.if_icmp .ne 0, [6, 5], .null)]),
  (36, [(.nop, [0], .null), (.ldc 0, [], .int 12), (.goto 0, [13], .null)]),
  (41, [(.aload 0, [], .null), (.getfield 117, [12, 9, 375], .null), (.ldc 0, [], .int 5), (.if_icmp .ne 0, [8, 7], .null)]),
  (49, [(.nop, [0], .null), (.ldc 0, [], .int 13), (.goto 0, [13], .null)]),
  (54, [(.aload 0, [], .null), (.getfield 117, [12, 9, 375], .null), (.ldc 0, [], .int 61), (.if_icmp .ne 0, [10, 9], .null)]),
  (63, [(.nop, [0], .null), (.ldc 0, [], .int 14), (.goto 0, [13], .null)]),
  (68, [(.aload 0, [], .null), (.getfield 117, [12, 9, 375], .null), (.ldc 0, [], .int 35), (.nop, [0], .null), (.if_icmp .ne 0, [12, 11], .null)]),
  (77, [(.ldc 0, [], .int 15), (.goto 0, [13], .null)]),
  (82, [(.ldc 0, [], .int (-1)), (.jsr 0, [13], .null)]),
  (83, [(.ireturn, [], .null)])]
def mj_b270 : List (Nat × List mj_I) := [
  (0, [(.aload 0, [], .null), (.getfield 117, [12, 9, 375], .null), (.ldc 0, [], .int 43), (.if_icmp .ne 0, [2, 1], .null)]),
  (9, [(.nop, [0], .null), (.ldc 0, [], .int 6), (.ireturn, [], .null)]),
  (12, [(.aload 0, [], .null), (.getfield 117, [12, 9, 375], .null), (.ldc 0, [], .int 45), (.if_icmp .ne 0, [4, 3], .null)]),
  (21, [(.nop, [0], .null), (.ldc 0, [], .int 7), (.ireturn, [], .null)]),
  (24, [(.aload 0, [], .null), (.getfield 117, [12, 9, 375], .null), (.ldc 0, [], .int 42), (.if_icmp .ne 0, [6, 5], .null)]),
  (33, [(.nop, [0], .null), (.ldc 0, [], .int 8), (.ireturn, [], .null)]),
  (36, [(.aload 0, [], .null), (.getfield 117, [12, 9, 375], .null), (.ldc 0, [], .int 47), (.if_icmp .ne 0, [8, 7], .null)]),
  (45, [(.nop, [0], .null), (.ldc 0, [], .int 9), (.ireturn, [], .null)]),
  (48, [(.aload 0, [], .null), (.invokevirtual 185, [264, 1, 12, 396], .null), (.ldc 0, [], .int 41), (.if_icmp .eq 0, [10, 9], .null)]),
  (57, [(.nop, [0], .null), (.ldc 0, [], .int (-1)), (.ireturn, [], .null)]),
  (59, [(.aload 0, [], .null), (.invokevirtual 214, [265, 1, 12, 405], .null), (.ifCond .ne 0, [12, 11], .null)]),
  (66, [(.aload 0, [], .null), (.invokevirtual 217, [269, 1, 12, 406], .null), (.ireturn, [], .null)]),
  (71, [(.aload 0, [], .null), (.ldc 0, [], .int 97), (.ldc 0, [], .int 110), (.ldc 0, [], .int 100), (.invokestatic 143, [252, 3, 12, 384], .null), (.invokevirtual 206, [256, 2, 12, 403], .null), (.ifCond .eq 0, [14, 13], .null)]),
  (87, [(.nop, [0], .null), (.ldc 0, [], .int 21), (.goto 0, [17], .null)]),
  (92, [(.aload 0, [], .null), (.ldc 0, [], .int 111), (.ldc 0, [], .int 114), (.invokestatic 139, [251, 2, 12, 383], .null), (.invokevirtual 206, [256, 2, 12, 403], .null), (.nop, [0], .null), (.ifCond .eq 0, [16, 15], .null)]),
  (106, [(.ldc 0, [], .int 22), (.goto 0, [17], .null)]),
  (111, [(.ldc 0, [], .int (-1)), (.jsr 0, [17], .null)]),
  (112, [(.ireturn, [], .null)])]
def mj_b271 : List (Nat × List mj_I) := [
  (0, [(.iload 1, [], .null), (.nop, [1], .null), (.tableswitch 0 40 43 #[], [18, 1, 5, 10, 14], .null)]),
  (32, [(.aload 0, [], .null), (.getfield 117, [12, 9, 375], .null), (.ldc 0, [], .int 41), (.nop, [0], .null), (.if_icmp .ne 0, [3, 2], .null)]),
  (41, [(.ldc 0, [], .int 0), (.goto 0, [4], .null)]),
  (45, [(.ldc 0, [], .int (-1)), (.jsr 0, [4], .null)]),
  (46, [(.ireturn, [], .null)]),
  (47, [(.aload 0, [], .null), (.ldc 0, [], .int 116), (.ldc 0, [], .int 104), (.ldc 0, [], .int 101), (.ldc 0, [], .int 110), (.invokestatic 147, [253, 4, 12, 385], .null), (.invokevirtual 206, [256, 2, 12, 403], .null), (.ifCond .eq 0, [8, 6], .null)]),
  (65, [(.aload 0, [], .null), (.invokevirtual 214, [265, 1, 12, 405], .null), (.nop, [0], .null), (.ifCond .eq 0, [8, 7], .null)]),
  (72, [(.ldc 0, [], .int 42), (.goto 0, [9], .null)]),
  (77, [(.nop, [0], .null), (.ldc 0, [], .int (-1)), (.jsr 0, [9], .null)]),
  (78, [(.ireturn, [], .null)]),
  (79, [(.aload 0, [], .null), (.ldc 0, [], .int 101), (.ldc 0, [], .int 108), (.ldc 0, [], .int 115), (.ldc 0, [], .int 101), (.invokestatic 147, [253, 4, 12, 385], .null), (.invokevirtual 206, [256, 2, 12, 403], .null), (.nop, [0], .null), (.ifCond .eq 0, [12, 11], .null)]),
  (97, [(.ldc 0, [], .int 43), (.goto 0, [13], .null)]),
  (102, [(.ldc 0, [], .int (-1)), (.jsr 0, [13], .null)]),
  (103, [(.ireturn, [], .null)]),
  (104, [(.aload 0, [], .null), (.ldc 0, [], .int 101), (.ldc 0, [], .int 110), (.ldc 0, [], .int 100), (.invokestatic 143, [252, 3, 12, 384], .null), (.invokevirtual 206, [256, 2, 12, 403], .null), (.nop, [0], .null), (.ifCond .eq 0, [16, 15], .null)]),
  (120, [(.ldc 0, [], .int 0), (.goto 0, [17], .null)]),
  (124, [(.ldc 0, [], .int (-1)), (.jsr 0, [17], .null)]),
  (125, [(.ireturn, [], .null)]),
  (126, [(.nop, [0], .null), (.ldc 0, [], .int (-1)), (.ireturn, [], .null)])]
def mj_b272 : List (Nat × List mj_I) := [
  (0, [(.aload 0, [], .null), (.invokevirtual 220, [270, 1, 12, 407], .null), (.istore 1, [], .null), (.iload 1, [], .null), (.ifCond .lt 0, [5, 1], .null)]),
  (9, [(.aload 0, [], .null), (.iload 1, [], .null), (.invokestatic 171, [261, 1, 12, 392], .null), (.ldc 0, [], .int 4), (.if_icmp .ne 0, [3, 2], .null)]),
  (18, [(.ldc 0, [], .int 5), (.goto 0, [4], .null)]),
  (22, [(.iload 1, [], .null), (.invokestatic 171, [261, 1, 12, 392], .null), (.jsr 0, [4], .null)]),
  (26, [(.invokevirtual 200, [262, 2, 12, 401], .null), (.aload 0, [], .null), (.getfield 29, [12, 15, 348], .null), (.aload 0, [], .null), (.getfield 168, [12, 16, 391], .null), (.iload 1, [], .null), (.iastore, [], .null), (.aload 0, [], .null), (.dup, [], .null), (.getfield 168, [12, 16, 391], .null), (.ldc 0, [], .int 1), (.iadd, [], .null), (.putfield 168, [12, 16, 0, 391], .null), (.aload 0, [], .null), (.ldc 0, [], .int 0), (.putfield 197, [12, 18, 1, 400], .null), (.aload 0, [], .null), (.invokevirtual 188, [250, 1, 12, 397], .null), (.ldc 0, [], .int 1), (.ireturn, [1], .null)]),
  (60, [(.nop, [1], .null), (.aload 0, [], .null), (.invokevirtual 185, [264, 1, 12, 396], .null), (.istore 2, [], .null), (.aload 0, [], .null), (.iload 2, [], .null), (.invokevirtual 223, [271, 2, 12, 408], .null), (.istore 3, [], .null), (.iload 3, [], .null), (.ifCond .ge 0, [7, 6], .null)]),
  (75, [(.nop, [0, 2, 3], .null), (.ldc 0, [], .int 0), (.ireturn, [1], .null)]),
  (77, [(.aload 0, [], .null), (.ldc 0, [], .int 1), (.invokevirtual 200, [262, 2, 12, 401], .null), (.aload 0, [], .null), (.invokevirtual 188, [250, 1, 12, 397], .null), (.iload 3, [], .null), (.ifCond .le 0, [9, 8], .null)]),
  (90, [(.nop, [2], .null), (.aload 0, [], .null), (.getfield 29, [12, 15, 348], .null), (.aload 0, [], .null), (.invokevirtual 181, [263, 1, 12, 395], .null), (.iload 3, [], .null), (.iastore, [], .null), (.aload 0, [], .null), (.ldc 0, [], .int 0), (.putfield 197, [12, 18, 1, 400], .null), (.ldc 0, [], .int 1), (.ireturn, [1], .null)]),
  (107, [(.nop, [3], .null), (.aload 0, [], .null), (.dup, [], .null), (.getfield 178, [12, 17, 394], .null), (.ldc 0, [], .int 1), (.isub, [], .null), (.putfield 178, [12, 17, 0, 394], .null), (.aload 0, [], .null), (.dup, [], .null), (.getfield 168, [12, 16, 391], .null), (.ldc 0, [], .int 1), (.isub, [], .null), (.putfield 168, [12, 16, 0, 391], .null), (.iload 2, [], .null), (.ldc 0, [], .int 43), (.nop, [2], .null), (.if_icmp .ne 0, [11, 10], .null)]),
  (133, [(.aload 0, [], .null), (.ldc 0, [], .int 3), (.ldc 0, [], .int 0), (.invokevirtual 174, [257, 3, 12, 393], .null), (.jsr 0, [11], .null)]),
  (139, [(.aload 0, [], .null), (.ldc 0, [], .int 7), (.invokevirtual 200, [262, 2, 12, 401], .null), (.ldc 0, [], .int 1), (.ireturn, [1], .null)])]
def mj_b273 : List (Nat × List mj_I) := [
  (0, [(.aload 0, [], .null), (.ldc 0, [], .int 0), (.putfield 168, [12, 16, 0, 391], .null), (.aload 0, [], .null), (.ldc 0, [], .int 0), (.putfield 178, [12, 17, 0, 394], .null), (.aload 0, [], .null), (.ldc 0, [], .int 0), (.putfield 197, [12, 18, 1, 400], .null), (.jsr 0, [1], .null)]),
  (15, [(.aload 0, [], .null), (.getfield 197, [12, 18, 400], .null), (.ifCond .eq 0, [7, 2], .null)]),
  (22, [(.aload 0, [], .null), (.invokevirtual 226, [272, 1, 12, 409], .null), (.ifCond .eq 0, [4, 3], .null)]),
  (29, [(.goto 0, [1], .null)]),
  (32, [(.aload 0, [], .null), (.invokevirtual 185, [264, 1, 12, 396], .null), (.ifCond .lt 0, [6, 5], .null)]),
  (39, [(.nop, [0], .null), (.ldc 0, [], .int 1), (.ireturn, [], .null)]),
  (41, [(.aload 0, [], .null), (.ldc 0, [], .int 1), (.invokevirtual 200, [262, 2, 12, 401], .null), (.ldc 0, [], .int 0), (.ireturn, [], .null)]),
  (48, [(.aload 0, [], .null), (.invokevirtual 229, [268, 1, 12, 410], .null), (.istore 1, [], .null), (.iload 1, [], .null), (.ifCond .eq 0, [9, 8], .null)]),
  (57, [(.nop, [0], .null), (.iload 1, [], .null), (.ireturn, [], .null)]),
  (59, [(.nop, [1], .null), (.goto 0, [1], .null)])]
def mj_b274 : List (Nat × List mj_I) := [
  (0, [(.aload 0, [], .null), (.getfield 117, [12, 9, 375], .null), (.ldc 0, [], .int 1), (.if_icmp .eq 0, [2, 1], .null)]),
  (8, [(.nop, [0, 1, 2, 3], .null), (.ldc 0, [], .int 1), (.ireturn, [], .null)]),
  (10, [(.aload 0, [], .null), (.getfield 123, [12, 10, 377], .null), (.iload 2, [], .null), (.iload 3, [], .null), (.invokestatic 75, [228, 3, 12, 363], .null), (.nop, [2, 3], .null), (.ifCond .ne 0, [4, 3], .null)]),
  (22, [(.nop, [0, 1], .null), (.ldc 0, [], .int 2), (.ireturn, [], .null)]),
  (24, [(.aload 0, [], .null), (.getfield 16, [12, 2, 344], .null), (.iload 1, [], .null), (.aload 0, [], .null), (.getfield 123, [12, 10, 377], .null), (.iastore, [], .null), (.aload 0, [], .null), (.invokevirtual 188, [250, 1, 12, 397], .null), (.ldc 0, [], .int 0), (.ireturn, [], .null)])]
def mj_b275 : List (Nat × List mj_I) := [
  (0, [(.aload 0, [], .null), (.getfield 16, [12, 2, 344], .null), (.iload 1, [], .null), (.ldc 0, [], .int 1), (.iadd, [], .null), (.aload 0, [], .null), (.getfield 158, [12, 13, 388], .null), (.iastore, [], .null), (.aload 0, [], .null), (.invokevirtual 232, [273, 1, 12, 411], .null), (.istore 2, [], .null), (.aload 0, [], .null), (.getfield 16, [12, 2, 344], .null), (.iload 1, [], .null), (.ldc 0, [], .int 2), (.iadd, [], .null), (.aload 0, [], .null), (.getfield 158, [12, 13, 388], .null), (.iastore, [], .null), (.iload 2, [], .null), (.ireturn, [], .null)])]
def mj_b276 : List (Nat × List mj_I) := [
  (0, [(.aload 0, [], .null), (.iload 1, [], .null), (.ldc 0, [], .int 1), (.iadd, [], .null), (.ldc 0, [], .int 0), (.iload 2, [], .null), (.invokevirtual 235, [274, 4, 12, 412], .null), (.istore 6, [], .null), (.iload 6, [], .null), (.nop, [2], .null), (.ifCond .eq 0, [2, 1], .null)]),
  (16, [(.nop, [0, 1, 3, 5], .null), (.iload 6, [], .null), (.ireturn, [], .null)]),
  (19, [(.nop, [6], .null), (.aload 0, [], .null), (.lload 3, [], .null), (.invokevirtual 206, [256, 2, 12, 403], .null), (.nop, [3], .null), (.ifCond .ne 0, [4, 3], .null)]),
  (27, [(.nop, [0, 1, 5], .null), (.ldc 0, [], .int 1), (.ireturn, [], .null)]),
  (29, [(.aload 0, [], .null), (.invokevirtual 188, [250, 1, 12, 397], .null), (.aload 0, [], .null), (.iload 1, [], .null), (.ldc 0, [], .int 2), (.iadd, [], .null), (.ldc 0, [], .int 0), (.iload 5, [], .null), (.invokevirtual 235, [274, 4, 12, 412], .null), (.ireturn, [], .null)])]
def mj_b277 : List (Nat × List mj_I) := [
  (0, [(.iload 1, [], .null), (.nop, [1], .null), (.tableswitch 0 2 7 #[], [7, 1, 2, 3, 4, 5, 6], .null)]),
  (40, [(.aload 0, [], .null), (.iload 2, [], .null), (.ldc 0, [], .int 7), (.ldc 0, [], .int 99), (.ldc 0, [], .int 108), (.ldc 0, [], .int 111), (.ldc 0, [], .int 118), (.ldc 0, [], .int 101), (.ldc 0, [], .int 115), (.invokestatic 161, [255, 6, 12, 389], .null), (.ldc 0, [], .int 99), (.invokevirtual 239, [276, 5, 12, 413], .null), (.ireturn, [], .null)]),
  (65, [(.aload 0, [], .null), (.iload 2, [], .null), (.ldc 0, [], .int 7), (.ldc 0, [], .int 98), (.ldc 0, [], .int 101), (.ldc 0, [], .int 104), (.ldc 0, [], .int 105), (.ldc 0, [], .int 110), (.ldc 0, [], .int 100), (.invokestatic 161, [255, 6, 12, 389], .null), (.ldc 0, [], .int 7), (.invokevirtual 239, [276, 5, 12, 413], .null), (.ireturn, [], .null)]),
  (90, [(.aload 0, [], .null), (.iload 2, [], .null), (.ldc 0, [], .int 1), (.iadd, [], .null), (.ldc 0, [], .int 0), (.ldc 0, [], .int 4), (.invokevirtual 235, [274, 4, 12, 412], .null), (.ireturn, [], .null)]),
  (100, [(.aload 0, [], .null), (.iload 2, [], .null), (.ldc 0, [], .int 1), (.iadd, [], .null), (.ldc 0, [], .int 0), (.ldc 0, [], .int 4), (.invokevirtual 235, [274, 4, 12, 412], .null), (.ireturn, [], .null)]),
  (110, [(.aload 0, [], .null), (.iload 2, [], .null), (.ldc 0, [], .int 4), (.ldc 0, [], .int 116), (.ldc 0, [], .int 111), (.invokestatic 139, [251, 2, 12, 383], .null), (.ldc 0, [], .int 7), (.invokevirtual 239, [276, 5, 12, 413], .null), (.ireturn, [], .null)]),
  (126, [(.aload 0, [], .null), (.iload 2, [], .null), (.ldc 0, [], .int 1), (.iadd, [], .null), (.ldc 0, [], .int 1), (.ldc 0, [], .int 60), (.invokevirtual 235, [274, 4, 12, 412], .null), (.ireturn, [], .null)]),
  (137, [(.aload 0, [], .null), (.iload 2, [], .null), (.invokevirtual 243, [275, 2, 12, 414], .null), (.ireturn, [], .null)])]
def mj_b278 : List (Nat × List mj_I) := [
  (0, [(.aload 0, [], .null), (.ldc 0, [], .int 98), (.ldc 0, [], .int 105), (.ldc 0, [], .int 116), (.ldc 0, [], .int 101), (.ldc 0, [], .int 115), (.invokestatic 151, [254, 5, 12, 386], .null), (.invokevirtual 206, [256, 2, 12, 403], .null), (.ifCond .eq 0, [2, 1], .null)]),
  (20, [(.nop, [0], .null), (.ldc 0, [], .int 0), (.ireturn, [], .null)]),
  (22, [(.aload 0, [], .null), (.invokevirtual 246, [258, 1, 12, 415], .null), (.ifCond .eq 0, [4, 3], .null)]),
  (29, [(.nop, [0], .null), (.ldc 0, [], .int 1), (.ireturn, [], .null)]),
  (31, [(.aload 0, [], .null), (.ldc 0, [], .int 112), (.ldc 0, [], .int 101), (.ldc 0, [], .int 114), (.ldc 0, [], .int 115), (.ldc 0, [], .int 111), (.ldc 0, [], .int 110), (.invokestatic 161, [255, 6, 12, 389], .null), (.invokevirtual 206, [256, 2, 12, 403], .null), (.ifCond .eq 0, [6, 5], .null)]),
  (53, [(.nop, [0], .null), (.ldc 0, [], .int 2), (.ireturn, [], .null)]),
  (55, [(.aload 0, [], .null), (.ldc 0, [], .int 112), (.ldc 0, [], .int 108), (.ldc 0, [], .int 97), (.ldc 0, [], .int 99), (.ldc 0, [], .int 101), (.invokestatic 151, [254, 5, 12, 386], .null), (.invokevirtual 206, [256, 2, 12, 403], .null), (.ifCond .eq 0, [8, 7], .null)]),
  (75, [(.nop, [0], .null), (.ldc 0, [], .int 3), (.ireturn, [], .null)]),
  (77, [(.aload 0, [], .null), (.ldc 0, [], .int 98), (.ldc 0, [], .int 105), (.ldc 0, [], .int 116), (.ldc 0, [], .int 101), (.invokestatic 147, [253, 4, 12, 385], .null), (.invokevirtual 206, [256, 2, 12, 403], .null), (.ifCond .eq 0, [10, 9], .null)]),
  (95, [(.nop, [0], .null), (.ldc 0, [], .int 4), (.ireturn, [], .null)]),
  (97, [(.aload 0, [], .null), (.ldc 0, [], .int 99), (.ldc 0, [], .int 111), (.ldc 0, [], .int 109), (.ldc 0, [], .int 101), (.invokestatic 147, [253, 4, 12, 385], .null), (.invokevirtual 206, [256, 2, 12, 403], .null), (.ifCond .eq 0, [12, 11], .null)]),
  (115, [(.nop, [0], .null), (.ldc 0, [], .int 5), (.ireturn, [], .null)]),
  (117, [(.aload 0, [], .null), (.ldc 0, [], .int 119), (.ldc 0, [], .int 97), (.ldc 0, [], .int 108), (.ldc 0, [], .int 107), (.invokestatic 147, [253, 4, 12, 385], .null), (.invokevirtual 206, [256, 2, 12, 403], .null), (.ifCond .eq 0, [14, 13], .null)]),
  (135, [(.nop, [0], .null), (.ldc 0, [], .int 6), (.goto 0, [17], .null)]),
  (140, [(.aload 0, [], .null), (.ldc 0, [], .int 104), (.ldc 0, [], .int 111), (.ldc 0, [], .int 117), (.ldc 0, [], .int 114), (.invokestatic 147, [253, 4, 12, 385], .null), (.invokevirtual 206, [256, 2, 12, 403], .null), (.nop, [0], .null), (.ifCond .eq 0, [16, 15], .null)]),
  (158, [(.ldc 0, [], .int 7), (.goto 0, [17], .null)]),
  (163, [(.ldc 0, [], .int (-1)), (.jsr 0, [17], .null)]),
  (164, [(.ireturn, [], .null)])]
def mj_b279 : List (Nat × List mj_I) := [
  (0, [(.aload 0, [], .null), (.invokevirtual 249, [278, 1, 12, 416], .null), (.istore 1, [], .null), (.iload 1, [], .null), (.ifCond .ge 0, [2, 1], .null)]),
  (9, [(.nop, [0, 1], .null), (.ldc 0, [], .int 1), (.ireturn, [], .null)]),
  (11, [(.iload 1, [], .null), (.ldc 0, [], .int 1), (.if_icmp .gt 0, [5, 3], .null)]),
  (16, [(.aload 0, [], .null), (.getfield 252, [12, 19, 417], .null), (.iload 1, [], .null), (.invokestatic 255, [230, 2, 12, 418], .null), (.ifCond .eq 0, [5, 4], .null)]),
  (27, [(.nop, [0, 1], .null), (.ldc 0, [], .int 4), (.ireturn, [], .null)]),
  (29, [(.aload 0, [], .null), (.getfield 16, [12, 2, 344], .null), (.aload 0, [], .null), (.getfield 155, [12, 12, 387], .null), (.iaload, [], .null), (.istore 2, [], .null), (.iload 2, [], .null), (.ldc 0, [], .int 24), (.if_icmp .ne 0, [7, 6], .null)]),
  (45, [(.nop, [0, 1, 2], .null), (.ldc 0, [], .int 6), (.ireturn, [], .null)]),
  (48, [(.iload 1, [], .null), (.ldc 0, [], .int 1), (.if_icmp .gt 0, [9, 8], .null)]),
  (53, [(.aload 0, [], .null), (.dup, [], .null), (.getfield 252, [12, 19, 417], .null), (.ldc 0, [], .int 1), (.iload 1, [], .null), (.ishl, [], .null), (.ior, [], .null), (.putfield 252, [12, 19, 0, 417], .null), (.jsr 0, [9], .null)]),
  (65, [(.aload 0, [], .null), (.iload 1, [], .null), (.putfield 165, [12, 14, 0, 390], .null), (.aload 0, [], .null), (.invokevirtual 188, [250, 1, 12, 397], .null), (.aload 0, [], .null), (.getfield 155, [12, 12, 387], .null), (.ldc 0, [], .int 1), (.iadd, [], .null), (.ldc 0, [], .int 3), (.iload 2, [], .null), (.imul, [], .null), (.iadd, [], .null), (.istore 3, [], .null), (.aload 0, [], .null), (.getfield 16, [12, 2, 344], .null), (.iload 3, [], .null), (.iload 1, [], .null), (.iastore, [], .null), (.aload 0, [], .null), (.iload 1, [], .null), (.iload 3, [], .null), (.invokevirtual 259, [277, 3, 12, 419], .null), (.istore 4, [], .null), (.iload 4, [], .null), (.nop, [1, 2, 3], .null), (.ifCond .eq 0, [11, 10], .null)]),
  (105, [(.nop, [0], .null), (.iload 4, [], .null), (.ireturn, [], .null)]),
  (108, [(.nop, [4], .null), (.aload 0, [], .null), (.getfield 16, [12, 2, 344], .null), (.aload 0, [], .null), (.getfield 155, [12, 12, 387], .null), (.dup2, [], .null), (.iaload, [], .null), (.ldc 0, [], .int 1), (.iadd, [], .null), (.iastore, [], .null), (.aload 0, [], .null), (.getfield 117, [12, 9, 375], .null), (.ldc 0, [], .int 59), (.if_icmp .eq 0, [13, 12], .null)]),
  (130, [(.nop, [0], .null), (.ldc 0, [], .int 1), (.ireturn, [], .null)]),
  (132, [(.aload 0, [], .null), (.invokevirtual 188, [250, 1, 12, 397], .null), (.ldc 0, [], .int 0), (.ireturn, [], .null)])]
def mj_b280 : List (Nat × List mj_I) := [
  (0, [(.aload 0, [], .null), (.ldc 0, [], .int 681), (.aload 0, [], .null), (.getfield 7, [12, 0, 342], .null), (.ldc 0, [], .int 1), (.iaload, [], .null), (.imul, [], .null), (.putfield 155, [12, 12, 0, 387], .null), (.aload 0, [], .null), (.getfield 16, [12, 2, 344], .null), (.aload 0, [], .null), (.getfield 155, [12, 12, 387], .null), (.ldc 0, [], .int 0), (.iastore, [], .null), (.aload 0, [], .null), (.ldc 0, [], .int 0), (.putfield 158, [12, 13, 0, 388], .null), (.aload 0, [], .null), (.ldc 0, [], .int 0), (.putfield 252, [12, 19, 0, 417], .null), (.aload 0, [], .null), (.ldc 0, [], .int 0), (.putfield 108, [12, 7, 0, 372], .null), (.aload 0, [], .null), (.invokevirtual 188, [250, 1, 12, 397], .null), (.jsr 0, [1], .null)]),
  (43, [(.aload 0, [], .null), (.getfield 117, [12, 9, 375], .null), (.ifCond .eq 0, [5, 2], .null)]),
  (50, [(.aload 0, [], .null), (.invokevirtual 262, [279, 1, 12, 420], .null), (.istore 1, [], .null), (.iload 1, [], .null), (.ifCond .eq 0, [4, 3], .null)]),
  (59, [(.nop, [0], .null), (.iload 1, [], .null), (.ireturn, [], .null)]),
  (61, [(.nop, [1], .null), (.goto 0, [1], .null)]),
  (64, [(.nop, [0], .null), (.ldc 0, [], .int 0), (.ireturn, [], .null)])]
def mj_b281 : List (Nat × List mj_I) := [
  (0, [(.aload 0, [], .null), (.getfield 7, [12, 0, 342], .null), (.ldc 0, [], .int 1), (.iaload, [], .null), (.ldc 0, [], .int 4), (.if_icmp .ne 0, [2, 1], .null)]),
  (10, [(.nop, [0], .null), (.ldc 0, [], .int (-1)), (.ireturn, [], .null)]),
  (12, [(.aload 0, [], .null), (.aload 0, [], .null), (.invokevirtual 265, [280, 1, 12, 421], .null), (.putfield 22, [12, 5, 0, 346], .null), (.aload 0, [], .null), (.aload 0, [], .null), (.getfield 22, [12, 5, 346], .null), (.ifCond .ne 0, [4, 3], .null)]),
  (28, [(.ldc 0, [], .int (-1)), (.goto 0, [5], .null)]),
  (32, [(.aload 0, [], .null), (.getfield 114, [12, 8, 374], .null), (.jsr 0, [5], .null)]),
  (36, [(.putfield 26, [12, 6, 0, 347], .null), (.aload 0, [], .null), (.ldc 0, [], .int 0), (.putfield 102, [12, 4, 0, 370], .null), (.aload 0, [], .null), (.getfield 22, [12, 5, 346], .null), (.ifCond .eq 0, [7, 6], .null)]),
  (51, [(.nop, [0], .null), (.ldc 0, [], .int (-1)), (.ireturn, [], .null)]),
  (53, [(.aload 0, [], .null), (.getfield 7, [12, 0, 342], .null), (.ldc 0, [], .int 1), (.dup2, [], .null), (.iaload, [], .null), (.ldc 0, [], .int 1), (.iadd, [], .null), (.iastore, [], .null), (.aload 0, [], .null), (.getfield 7, [12, 0, 342], .null), (.ldc 0, [], .int 1), (.iaload, [], .null), (.ldc 0, [], .int 1), (.isub, [], .null), (.ireturn, [], .null)])]
def mj_b282 : List (Nat × List mj_I) := [
  (0, [(.iload 1, [], .null), (.ifCond .ne 0, [2, 1], .null)]),
  (4, [(.nop, [1], .null), (.aload 0, [], .null), (.getfield 22, [12, 5, 346], .null), (.nop, [0], .null), (.goto 0, [5], .null)]),
  (11, [(.iload 1, [], .null), (.ldc 0, [], .int 1), (.nop, [1], .null), (.if_icmp .ne 0, [4, 3], .null)]),
  (16, [(.aload 0, [], .null), (.getfield 26, [12, 6, 347], .null), (.nop, [0], .null), (.goto 0, [5], .null)]),
  (23, [(.nop, [0], .null), (.ldc 0, [], .int (-1)), (.jsr 0, [5], .null)]),
  (24, [(.ireturn, [], .null)])]
def mj_b283 : List (Nat × List mj_I) := [
  (0, [(.iload 1, [], .null), (.ldc 0, [], .int (-1)), (.aload 0, [], .null), (.getfield 7, [12, 0, 342], .null), (.ldc 0, [], .int 1), (.iaload, [], .null), (.ldc 0, [], .int 1), (.isub, [], .null), (.invokestatic 75, [228, 3, 12, 363], .null), (.ifCond .ne 0, [2, 1], .null)]),
  (16, [(.nop, [0, 1], .null), (.ldc 0, [], .int 0), (.ireturn, [1], .null)]),
  (18, [(.aload 0, [], .null), (.getfield 7, [12, 0, 342], .null), (.ldc 0, [], .int 2), (.iload 1, [], .null), (.iastore, [], .null), (.ldc 0, [], .int 1), (.ireturn, [1], .null)])]
def mj_b284 : List (Nat × List mj_I) := [
  (0, [(.lload 0, [], .null), (.ldc 268, [422], .long 1000000), (.lcmp, [], .null), (.ifCond .le 0, [2, 1], .null)]),
  (8, [(.nop, [0], .null), (.ldc 268, [422], .long 1000000), (.goto 0, [5], .null)]),
  (14, [(.lload 0, [], .null), (.ldc 270, [423], .long (-1000000)), (.lcmp, [], .null), (.ifCond .ge 0, [4, 3], .null)]),
  (22, [(.nop, [0], .null), (.ldc 270, [423], .long (-1000000)), (.goto 0, [5], .null)]),
  (28, [(.lload 0, [], .null), (.nop, [0], .null), (.jsr 0, [5], .null)]),
  (29, [(.lreturn, [], .null)])]
def mj_b285 : List (Nat × List mj_I) := [
  (0, [(.iload 0, [], .null), (.nop, [0], .null), (.tableswitch 0 6 8 #[], [4, 1, 2, 3], .null)]),
  (28, [(.lload 1, [], .null), (.lload 3, [], .null), (.ladd, [], .null), (.invokestatic 272, [284, 1, 12, 424], .null), (.lreturn, [], .null)]),
  (35, [(.lload 1, [], .null), (.lload 3, [], .null), (.lsub, [], .null), (.invokestatic 272, [284, 1, 12, 424], .null), (.lreturn, [], .null)]),
  (42, [(.lload 1, [], .null), (.lload 3, [], .null), (.lmul, [], .null), (.invokestatic 272, [284, 1, 12, 424], .null), (.lreturn, [], .null)]),
  (49, [(.lload 3, [], .null), (.ldc 0, [], .long 0), (.lcmp, [], .null), (.ifCond .ne 0, [6, 5], .null)]),
  (55, [(.nop, [1, 3], .null), (.ldc 0, [], .long 0), (.goto 0, [7], .null)]),
  (59, [(.lload 1, [], .null), (.lload 3, [], .null), (.ldiv, [], .null), (.invokestatic 272, [284, 1, 12, 424], .null), (.nop, [1, 3], .null), (.jsr 0, [7], .null)]),
  (65, [(.lreturn, [], .null)])]
def mj_b286 : List (Nat × List mj_I) := [
  (0, [(.iload 0, [], .null), (.ldc 0, [], .int 10), (.if_icmp .ne 0, [4, 1], .null)]),
  (6, [(.nop, [0], .null), (.lload 1, [], .null), (.lload 3, [], .null), (.lcmp, [], .null), (.nop, [1, 3], .null), (.ifCond .ge 0, [3, 2], .null)]),
  (12, [(.ldc 0, [], .int 1), (.goto 0, [23], .null)]),
  (16, [(.ldc 0, [], .int 0), (.goto 0, [23], .null)]),
  (20, [(.iload 0, [], .null), (.ldc 0, [], .int 11), (.if_icmp .ne 0, [8, 5], .null)]),
  (26, [(.nop, [0], .null), (.lload 1, [], .null), (.lload 3, [], .null), (.lcmp, [], .null), (.nop, [1, 3], .null), (.ifCond .gt 0, [7, 6], .null)]),
  (32, [(.ldc 0, [], .int 1), (.goto 0, [23], .null)]),
  (36, [(.ldc 0, [], .int 0), (.goto 0, [23], .null)]),
  (40, [(.iload 0, [], .null), (.ldc 0, [], .int 12), (.if_icmp .ne 0, [12, 9], .null)]),
  (46, [(.nop, [0], .null), (.lload 1, [], .null), (.lload 3, [], .null), (.lcmp, [], .null), (.nop, [1, 3], .null), (.ifCond .le 0, [11, 10], .null)]),
  (52, [(.ldc 0, [], .int 1), (.goto 0, [23], .null)]),
  (56, [(.ldc 0, [], .int 0), (.goto 0, [23], .null)]),
  (60, [(.iload 0, [], .null), (.ldc 0, [], .int 13), (.if_icmp .ne 0, [16, 13], .null)]),
  (66, [(.nop, [0], .null), (.lload 1, [], .null), (.lload 3, [], .null), (.lcmp, [], .null), (.nop, [1, 3], .null), (.ifCond .lt 0, [15, 14], .null)]),
  (72, [(.ldc 0, [], .int 1), (.goto 0, [23], .null)]),
  (76, [(.ldc 0, [], .int 0), (.goto 0, [23], .null)]),
  (80, [(.iload 0, [], .null), (.ldc 0, [], .int 14), (.nop, [0], .null), (.if_icmp .ne 0, [20, 17], .null)]),
  (86, [(.lload 1, [], .null), (.lload 3, [], .null), (.lcmp, [], .null), (.nop, [1, 3], .null), (.ifCond .ne 0, [19, 18], .null)]),
  (92, [(.ldc 0, [], .int 1), (.goto 0, [23], .null)]),
  (96, [(.ldc 0, [], .int 0), (.goto 0, [23], .null)]),
  (100, [(.lload 1, [], .null), (.lload 3, [], .null), (.lcmp, [], .null), (.nop, [1, 3], .null), (.ifCond .eq 0, [22, 21], .null)]),
  (106, [(.ldc 0, [], .int 1), (.goto 0, [23], .null)]),
  (110, [(.ldc 0, [], .int 0), (.jsr 0, [23], .null)]),
  (111, [(.ireturn, [1], .null)])]
def mj_b287 : List (Nat × List mj_I) := [
  (0, [(.lload 1, [], .null), (.ldc 0, [], .long 0), (.lcmp, [], .null), (.ifCond .lt 0, [3, 1], .null)]),
  (6, [(.lload 1, [], .null), (.ldc 276, [425], .long 8), (.lcmp, [], .null), (.ifCond .ge 0, [3, 2], .null)]),
  (14, [(.aload 0, [], .null), (.getfield 7, [12, 0, 342], .null), (.ldc 0, [], .int 41), (.lload 1, [], .null), (.l2i, [], .null), (.iadd, [], .null), (.iaload, [], .null), (.i2l, [], .null), (.nop, [0, 1], .null), (.goto 0, [4], .null)]),
  (28, [(.nop, [0, 1], .null), (.ldc 0, [], .long 0), (.jsr 0, [4], .null)]),
  (29, [(.lreturn, [], .null)])]
def mj_b288 : List (Nat × List mj_I) := [
  (0, [(.lload 1, [], .null), (.ldc 0, [], .long 0), (.lcmp, [], .null), (.ifCond .lt 0, [3, 1], .null)]),
  (6, [(.lload 1, [], .null), (.aload 0, [], .null), (.getfield 7, [12, 0, 342], .null), (.ldc 0, [], .int 0), (.iaload, [], .null), (.i2l, [], .null), (.lcmp, [], .null), (.ifCond .ge 0, [3, 2], .null)]),
  (18, [(.aload 0, [], .null), (.lload 1, [], .null), (.l2i, [], .null), (.ldc 0, [], .int 1), (.invokevirtual 79, [234, 3, 12, 364], .null), (.i2l, [], .null), (.nop, [0, 1], .null), (.goto 0, [4], .null)]),
  (29, [(.nop, [0, 1], .null), (.ldc 0, [], .long 0), (.jsr 0, [4], .null)]),
  (30, [(.lreturn, [], .null)])]
def mj_b289 : List (Nat × List mj_I) := [
  (0, [(.iload 1, [], .null), (.ldc 0, [], .int 5), (.if_icmp .ne 0, [2, 1], .null)]),
  (5, [(.nop, [0, 1], .null), (.lload 2, [], .null), (.lneg, [], .null), (.nop, [2], .null), (.goto 0, [5], .null)]),
  (10, [(.iload 1, [], .null), (.ldc 0, [], .int 2), (.nop, [1], .null), (.if_icmp .ne 0, [4, 3], .null)]),
  (15, [(.aload 0, [], .null), (.lload 2, [], .null), (.invokevirtual 278, [287, 2, 12, 426], .null), (.nop, [0, 2], .null), (.goto 0, [5], .null)]),
  (23, [(.aload 0, [], .null), (.lload 2, [], .null), (.invokevirtual 281, [288, 2, 12, 427], .null), (.nop, [0, 2], .null), (.jsr 0, [5], .null)]),
  (28, [(.lreturn, [], .null)])]
def mj_b290 : List (Nat × List mj_I) := [
  (0, [(.iload 0, [], .null), (.ldc 0, [], .int 21), (.nop, [0], .null), (.if_icmp .ne 0, [5, 1], .null)]),
  (6, [(.iload 1, [], .null), (.nop, [1], .null), (.ifCond .eq 0, [4, 2], .null)]),
  (10, [(.iload 2, [], .null), (.nop, [2], .null), (.ifCond .eq 0, [4, 3], .null)]),
  (14, [(.ldc 0, [], .int 1), (.goto 0, [9], .null)]),
  (18, [(.nop, [2], .null), (.ldc 0, [], .int 0), (.goto 0, [9], .null)]),
  (22, [(.iload 1, [], .null), (.nop, [1], .null), (.ifCond .ne 0, [7, 6], .null)]),
  (26, [(.iload 2, [], .null), (.nop, [2], .null), (.ifCond .eq 0, [8, 7], .null)]),
  (30, [(.nop, [2], .null), (.ldc 0, [], .int 1), (.goto 0, [9], .null)]),
  (34, [(.ldc 0, [], .int 0), (.jsr 0, [9], .null)]),
  (35, [(.ireturn, [1], .null)])]
def mj_b291 : List (Nat × List mj_I) := [
  (0, [(.ldc 0, [], .int 681), (.iload 1, [], .null), (.imul, [], .null), (.ldc 0, [], .int 1), (.iadd, [], .null), (.ldc 0, [], .int 3), (.iload 2, [], .null), (.imul, [], .null), (.iadd, [], .null), (.istore 3, [], .null), (.ldc 0, [], .int 681), (.iload 1, [], .null), (.imul, [], .null), (.ldc 0, [], .int 73), (.iadd, [], .null), (.istore 4, [], .null), (.ldc 0, [], .int 0), (.istore 5, [], .null), (.ldc 0, [], .int 0), (.istore 6, [], .null), (.aload 0, [], .null), (.getfield 16, [12, 2, 344], .null), (.iload 3, [], .null), (.ldc 0, [], .int 1), (.iadd, [], .null), (.iaload, [], .null), (.istore 7, [], .null), (.nop, [1, 2], .null), (.jsr 0, [1], .null)]),
  (38, [(.iload 7, [], .null), (.aload 0, [], .null), (.getfield 16, [12, 2, 344], .null), (.iload 3, [], .null), (.ldc 0, [], .int 2), (.iadd, [], .null), (.iaload, [], .null), (.if_icmp .ge 0, [23, 2], .null)]),
  (51, [(.aload 0, [], .null), (.getfield 16, [12, 2, 344], .null), (.iload 4, [], .null), (.ldc 0, [], .int 2), (.iload 7, [], .null), (.imul, [], .null), (.iadd, [], .null), (.iaload, [], .null), (.istore 8, [], .null), (.aload 0, [], .null), (.getfield 16, [12, 2, 344], .null), (.iload 4, [], .null), (.ldc 0, [], .int 2), (.iload 7, [], .null), (.imul, [], .null), (.iadd, [], .null), (.ldc 0, [], .int 1), (.iadd, [], .null), (.iaload, [], .null), (.istore 9, [], .null), (.iload 8, [], .null), (.ldc 0, [], .int 1), (.if_icmp .gt 0, [7, 3], .null)]),
  (87, [(.aload 0, [], .null), (.getfield 35, [12, 21, 350], .null), (.iload 5, [], .null), (.iload 8, [], .null), (.nop, [8], .null), (.ifCond .ne 0, [5, 4], .null)]),
  (98, [(.iload 9, [], .null), (.i2l, [], .null), (.nop, [9], .null), (.goto 0, [6], .null)]),
  (104, [(.aload 0, [], .null), (.getfield 32, [12, 20, 349], .null), (.iload 9, [], .null), (.iaload, [], .null), (.i2l, [], .null), (.nop, [9], .null), (.jsr 0, [6], .null)]),
  (112, [(.lastore, [], .null), (.iinc 5 0, [], .int 1), (.goto 0, [22], .null)]),
  (119, [(.nop, [9], .null), (.iload 8, [], .null), (.ldc 0, [], .int 3), (.if_icmp .ne 0, [10, 8], .null)]),
  (125, [(.nop, [8], .null), (.iinc 5 0, [], .int (-1)), (.iinc 6 0, [], .int (-1)), (.aload 0, [], .null), (.getfield 39, [12, 22, 352], .null), (.iload 6, [], .null), (.baload, [], .null), (.ifCond .ne 0, [22, 9], .null)]),
  (141, [(.aload 0, [], .null), (.getfield 35, [12, 21, 350], .null), (.iload 5, [], .null), (.ldc 0, [], .int 1), (.isub, [], .null), (.aload 0, [], .null), (.getfield 35, [12, 21, 350], .null), (.iload 5, [], .null), (.laload, [], .null), (.lastore, [], .null), (.goto 0, [22], .null)]),
  (160, [(.iload 8, [], .null), (.ldc 0, [], .int 5), (.if_icmp .gt 0, [12, 11], .null)]),
  (166, [(.aload 0, [], .null), (.getfield 35, [12, 21, 350], .null), (.iload 5, [], .null), (.ldc 0, [], .int 1), (.isub, [], .null), (.aload 0, [], .null), (.iload 8, [], .null), (.aload 0, [], .null), (.getfield 35, [12, 21, 350], .null), (.iload 5, [], .null), (.ldc 0, [], .int 1), (.isub, [], .null), (.laload, [], .null), (.invokevirtual 284, [289, 3, 12, 428], .null), (.lastore, [], .null), (.nop, [8], .null), (.goto 0, [22], .null)]),
  (193, [(.iload 8, [], .null), (.ldc 0, [], .int 10), (.if_icmp .ge 0, [14, 13], .null)]),
  (200, [(.iinc 5 0, [], .int (-1)), (.aload 0, [], .null), (.getfield 35, [12, 21, 350], .null), (.iload 5, [], .null), (.ldc 0, [], .int 1), (.isub, [], .null), (.iload 8, [], .null), (.aload 0, [], .null), (.getfield 35, [12, 21, 350], .null), (.iload 5, [], .null), (.ldc 0, [], .int 1), (.isub, [], .null), (.laload, [], .null), (.aload 0, [], .null), (.getfield 35, [12, 21, 350], .null), (.iload 5, [], .null), (.laload, [], .null), (.invokestatic 288, [285, 3, 12, 429], .null), (.lastore, [], .null), (.nop, [8], .null), (.goto 0, [22], .null)]),
  (236, [(.iload 8, [], .null), (.ldc 0, [], .int 20), (.if_icmp .ge 0, [16, 15], .null)]),
  (243, [(.iinc 5 0, [], .int (-2)), (.aload 0, [], .null), (.getfield 39, [12, 22, 352], .null), (.iload 6, [], .null), (.iload 8, [], .null), (.aload 0, [], .null), (.getfield 35, [12, 21, 350], .null), (.iload 5, [], .null), (.laload, [], .null), (.aload 0, [], .null), (.getfield 35, [12, 21, 350], .null), (.iload 5, [], .null), (.ldc 0, [], .int 1), (.iadd, [], .null), (.laload, [], .null), (.invokestatic 292, [286, 3, 12, 430], .null), (.bastore, [], .null), (.iinc 6 0, [], .int 1), (.nop, [8], .null), (.goto 0, [22], .null)]),
  (280, [(.iload 8, [], .null), (.ldc 0, [], .int 20), (.if_icmp .ne 0, [21, 17], .null)]),
  (287, [(.nop, [8], .null), (.aload 0, [], .null), (.getfield 39, [12, 22, 352], .null), (.iload 6, [], .null), (.ldc 0, [], .int 1), (.isub, [], .null), (.aload 0, [], .null), (.getfield 39, [12, 22, 352], .null), (.iload 6, [], .null), (.ldc 0, [], .int 1), (.isub, [], .null), (.baload, [], .null), (.ifCond .ne 0, [19, 18], .null)]),
  (307, [(.ldc 0, [], .int 1), (.goto 0, [20], .null)]),
  (311, [(.ldc 0, [], .int 0), (.jsr 0, [20], .null)]),
  (312, [(.bastore, [], .null), (.goto 0, [22], .null)]),
  (316, [(.iinc 6 0, [], .int (-1)), (.aload 0, [], .null), (.getfield 39, [12, 22, 352], .null), (.iload 6, [], .null), (.ldc 0, [], .int 1), (.isub, [], .null), (.iload 8, [], .null), (.aload 0, [], .null), (.getfield 39, [12, 22, 352], .null), (.iload 6, [], .null), (.ldc 0, [], .int 1), (.isub, [], .null), (.baload, [], .null), (.aload 0, [], .null), (.getfield 39, [12, 22, 352], .null), (.iload 6, [], .null), (.baload, [], .null), (.invokestatic 296, [290, 3, 12, 431], .null), (.bastore, [], .null), (.nop, [8], .null), (.jsr 0, [22], .null)]),
  (349, [(.iinc 7 0, [], .int 1), (.goto 0, [1], .null)]),
  (355, [(.nop, [3, 4, 5, 6, 7], .null), (.aload 0, [], .null), (.getfield 35, [12, 21, 350], .null), (.ldc 0, [], .int 0), (.laload, [], .null), (.lreturn, [], .null)])]
def mj_b292 : List (Nat × List mj_I) := [
  (0, [(.ldc 0, [], .int 0), (.istore 6, [], .null), (.jsr 0, [1], .null)]),
  (3, [(.iload 1, [], .null), (.ifCond .lt 0, [6, 2], .null)]),
  (7, [(.iload 6, [], .null), (.aload 0, [], .null), (.getfield 16, [12, 2, 344], .null), (.ldc 0, [], .int 681), (.iload 1, [], .null), (.imul, [], .null), (.iaload, [], .null), (.if_icmp .ge 0, [6, 3], .null)]),
  (22, [(.aload 0, [], .null), (.getfield 16, [12, 2, 344], .null), (.ldc 0, [], .int 681), (.iload 1, [], .null), (.imul, [], .null), (.ldc 0, [], .int 1), (.iadd, [], .null), (.ldc 0, [], .int 3), (.iload 6, [], .null), (.imul, [], .null), (.iadd, [], .null), (.iaload, [], .null), (.iload 2, [], .null), (.if_icmp .ne 0, [5, 4], .null)]),
  (43, [(.nop, [2, 3], .null), (.aload 0, [], .null), (.iload 1, [], .null), (.iload 6, [], .null), (.invokevirtual 300, [291, 3, 12, 432], .null), (.iload 4, [], .null), (.iload 5, [], .null), (.invokestatic 303, [229, 3, 12, 433], .null), (.ireturn, [], .null)]),
  (58, [(.iinc 6 0, [], .int 1), (.goto 0, [1], .null)]),
  (64, [(.nop, [0, 1, 2, 4, 5, 6], .null), (.iload 3, [], .null), (.ireturn, [], .null)])]
def mj_b293 : List (Nat × List mj_I) := [
  (0, [(.aload 0, [], .null), (.getfield 32, [12, 20, 349], .null), (.ldc 0, [], .int 0), (.aload 0, [], .null), (.getfield 7, [12, 0, 342], .null), (.ldc 0, [], .int 8), (.iaload, [], .null), (.iastore, [], .null), (.aload 0, [], .null), (.getfield 32, [12, 20, 349], .null), (.ldc 0, [], .int 1), (.iload 1, [], .null), (.iastore, [], .null), (.aload 0, [], .null), (.getfield 32, [12, 20, 349], .null), (.ldc 0, [], .int 2), (.aload 0, [], .null), (.iload 1, [], .null), (.invokevirtual 86, [237, 2, 12, 366], .null), (.iastore, [], .null), (.aload 0, [], .null), (.getfield 32, [12, 20, 349], .null), (.ldc 0, [], .int 3), (.aload 0, [], .null), (.iload 1, [], .null), (.ldc 0, [], .int 1), (.invokevirtual 79, [234, 3, 12, 364], .null), (.iastore, [], .null), (.aload 0, [], .null), (.getfield 32, [12, 20, 349], .null), (.ldc 0, [], .int 4), (.aload 0, [], .null), (.iload 1, [], .null), (.ldc 0, [], .int 2), (.invokevirtual 79, [234, 3, 12, 364], .null), (.iastore, [], .null), (.aload 0, [], .null), (.getfield 32, [12, 20, 349], .null), (.ldc 0, [], .int 5), (.aload 0, [], .null), (.aload 0, [], .null), (.iload 1, [], .null), (.invokevirtual 86, [237, 2, 12, 366], .null), (.invokevirtual 307, [238, 2, 12, 434], .null), (.invokestatic 310, [231, 1, 12, 435], .null), (.ldc 0, [], .int 1), (.isub, [], .null), (.iastore, [], .null), (.aload 0, [], .null), (.getfield 32, [12, 20, 349], .null), (.ldc 0, [], .int 6), (.aload 0, [], .null), (.getfield 7, [12, 0, 342], .null), (.ldc 0, [], .int 49), (.aload 0, [], .null), (.getfield 7, [12, 0, 342], .null), (.ldc 0, [], .int 41), (.aload 0, [], .null), (.iload 1, [], .null), (.invokevirtual 86, [237, 2, 12, 366], .null), (.iadd, [], .null), (.iaload, [], .null), (.iadd, [], .null), (.iaload, [], .null), (.iastore, [], .null), (.aload 0, [], .null), (.getfield 32, [12, 20, 349], .null), (.ldc 0, [], .int 7), (.aload 0, [], .null), (.iload 1, [], .null), (.ldc 0, [], .int 3), (.invokevirtual 79, [234, 3, 12, 364], .null), (.iastore, [], .null), (.return_, [], .null)])]
def mj_b294 : List (Nat × List mj_I) := [
  (0, [(.aload 0, [], .null), (.iload 1, [], .null), (.invokevirtual 313, [293, 2, 12, 436], .null), (.aload 0, [], .null), (.aload 0, [], .null), (.getfield 7, [12, 0, 342], .null), (.ldc 0, [], .int 2), (.iaload, [], .null), (.ldc 0, [], .int 0), (.ldc 0, [], .int 1), (.ldc 0, [], .int (-99)), (.ldc 0, [], .int 99), (.invokevirtual 316, [292, 6, 12, 437], .null), (.ireturn, [], .null)])]
def mj_b295 : List (Nat × List mj_I) := [
  (0, [(.aload 0, [], .null), (.iload 2, [], .null), (.invokevirtual 313, [293, 2, 12, 436], .null), (.aload 0, [], .null), (.iload 1, [], .null), (.ldc 0, [], .int 1), (.ldc 0, [], .int 2), (.aload 0, [], .null), (.iload 2, [], .null), (.ldc 0, [], .int 1), (.invokevirtual 79, [234, 3, 12, 364], .null), (.iadd, [], .null), (.ldc 0, [], .int 0), (.ldc 0, [], .int 10), (.invokevirtual 316, [292, 6, 12, 437], .null), (.ireturn, [], .null)])]
def mj_b296 : List (Nat × List mj_I) := [
  (0, [(.aload 0, [], .null), (.getfield 43, [12, 23, 353], .null), (.ifCond .ne 0, [2, 1], .null)]),
  (7, [(.nop, [0, 1, 2], .null), (.return_, [], .null)]),
  (8, [(.aload 0, [], .null), (.getfield 7, [12, 0, 342], .null), (.ldc 0, [], .int 10), (.iaload, [], .null), (.ldc 0, [], .int 30), (.if_icmp .ne 0, [7, 3], .null)]),
  (20, [(.ldc 0, [], .int 1), (.istore 3, [], .null), (.jsr 0, [4], .null)]),
  (22, [(.iload 3, [], .null), (.ldc 0, [], .int 30), (.if_icmp .ge 0, [6, 5], .null)]),
  (28, [(.aload 0, [], .null), (.getfield 7, [12, 0, 342], .null), (.ldc 0, [], .int 1733), (.iload 3, [], .null), (.iadd, [], .null), (.ldc 0, [], .int 1), (.isub, [], .null), (.aload 0, [], .null), (.getfield 7, [12, 0, 342], .null), (.ldc 0, [], .int 1733), (.iload 3, [], .null), (.iadd, [], .null), (.iaload, [], .null), (.iastore, [], .null), (.iinc 3 0, [], .int 1), (.goto 0, [4], .null)]),
  (56, [(.nop, [3], .null), (.aload 0, [], .null), (.getfield 7, [12, 0, 342], .null), (.ldc 0, [], .int 10), (.dup2, [], .null), (.iaload, [], .null), (.ldc 0, [], .int 1), (.isub, [], .null), (.iastore, [], .null), (.jsr 0, [7], .null)]),
  (67, [(.aload 0, [], .null), (.getfield 7, [12, 0, 342], .null), (.ldc 0, [], .int 1733), (.aload 0, [], .null), (.getfield 7, [12, 0, 342], .null), (.ldc 0, [], .int 10), (.iaload, [], .null), (.iadd, [], .null), (.aload 0, [], .null), (.getfield 7, [12, 0, 342], .null), (.ldc 0, [], .int 8), (.iaload, [], .null), (.ldc 0, [], .int 5), (.imul, [], .null), (.iload 1, [], .null), (.iadd, [], .null), (.ldc 0, [], .int 3), (.imul, [], .null), (.iload 2, [], .null), (.iadd, [], .null), (.ldc 0, [], .int 8), (.imul, [], .null), (.aload 0, [], .null), (.iload 1, [], .null), (.invokevirtual 86, [237, 2, 12, 366], .null), (.iadd, [], .null), (.iastore, [], .null), (.aload 0, [], .null), (.getfield 7, [12, 0, 342], .null), (.ldc 0, [], .int 10), (.dup2, [], .null), (.iaload, [], .null), (.ldc 0, [], .int 1), (.iadd, [], .null), (.iastore, [], .null), (.return_, [], .null)])]
def mj_b297 : List (Nat × List mj_I) := [
  (0, [(.aload 0, [], .null), (.getfield 7, [12, 0, 342], .null), (.ldc 0, [], .int 9), (.iaload, [], .null), (.iload 1, [], .null), (.irem, [], .null), (.istore 2, [], .null), (.aload 0, [], .null), (.invokevirtual 320, [298, 1, 12, 438], .null), (.iload 2, [], .null), (.ireturn, [], .null)])]
def mj_b298 : List (Nat × List mj_I) := [
  (0, [(.aload 0, [], .null), (.getfield 7, [12, 0, 342], .null), (.ldc 0, [], .int 9), (.aload 0, [], .null), (.getfield 7, [12, 0, 342], .null), (.ldc 0, [], .int 9), (.iaload, [], .null), (.i2l, [], .null), (.ldc 323, [439], .long 641), (.lmul, [], .null), (.ldc 325, [440], .long 499), (.ladd, [], .null), (.ldc 327, [441], .long 30893), (.lrem, [], .null), (.l2i, [], .null), (.iastore, [], .null), (.return_, [], .null)])]
def mj_b299 : List (Nat × List mj_I) := [
  (0, [(.aload 0, [], .null), (.iload 1, [], .null), (.invokevirtual 329, [232, 2, 12, 442], .null), (.ifCond .eq 0, [5, 1], .null)]),
  (8, [(.aload 0, [], .null), (.iload 1, [], .null), (.ldc 0, [], .int 2), (.invokevirtual 79, [234, 3, 12, 364], .null), (.ifCond .le 0, [5, 2], .null)]),
  (17, [(.aload 0, [], .null), (.iload 1, [], .null), (.ldc 0, [], .int 1), (.invokevirtual 79, [234, 3, 12, 364], .null), (.ldc 0, [], .int 8), (.if_icmp .ge 0, [5, 3], .null)]),
  (28, [(.aload 0, [], .null), (.iload 1, [], .null), (.invokevirtual 332, [294, 2, 12, 443], .null), (.nop, [0, 1], .null), (.ifCond .le 0, [5, 4], .null)]),
  (36, [(.ldc 0, [], .int 1), (.goto 0, [6], .null)]),
  (40, [(.nop, [0, 1], .null), (.ldc 0, [], .int 0), (.jsr 0, [6], .null)]),
  (41, [(.ireturn, [1], .null)])]
def mj_b300 : List (Nat × List mj_I) := [
  (0, [(.aload 0, [], .null), (.iload 1, [], .null), (.ldc 0, [], .int 2), (.aload 0, [], .null), (.iload 1, [], .null), (.ldc 0, [], .int 2), (.invokevirtual 79, [234, 3, 12, 364], .null), (.ldc 0, [], .int 1), (.isub, [], .null), (.invokevirtual 98, [235, 4, 12, 369], .null), (.aload 0, [], .null), (.iload 1, [], .null), (.ldc 0, [], .int 1), (.aload 0, [], .null), (.iload 1, [], .null), (.ldc 0, [], .int 1), (.invokevirtual 79, [234, 3, 12, 364], .null), (.ldc 0, [], .int 1), (.iadd, [], .null), (.invokevirtual 98, [235, 4, 12, 369], .null), (.aload 0, [], .null), (.iload 1, [], .null), (.ldc 0, [], .int 3), (.ldc 0, [], .int 0), (.invokevirtual 98, [235, 4, 12, 369], .null), (.aload 0, [], .null), (.iload 1, [], .null), (.ldc 0, [], .int 0), (.invokevirtual 335, [296, 3, 12, 444], .null), (.return_, [], .null)])]
def mj_b301 : List (Nat × List mj_I) := [
  (0, [(.aload 0, [], .null), (.iload 1, [], .null), (.invokevirtual 329, [232, 2, 12, 442], .null), (.ifCond .eq 0, [3, 1], .null)]),
  (8, [(.aload 0, [], .null), (.iload 1, [], .null), (.ldc 0, [], .int 1), (.invokevirtual 79, [234, 3, 12, 364], .null), (.nop, [0, 1], .null), (.ifCond .le 0, [3, 2], .null)]),
  (17, [(.ldc 0, [], .int 1), (.goto 0, [4], .null)]),
  (21, [(.nop, [0, 1], .null), (.ldc 0, [], .int 0), (.jsr 0, [4], .null)]),
  (22, [(.ireturn, [1], .null)])]
def mj_b302 : List (Nat × List mj_I) := [
  (0, [(.aload 0, [], .null), (.iload 1, [], .null), (.ldc 0, [], .int 1), (.aload 0, [], .null), (.iload 1, [], .null), (.ldc 0, [], .int 1), (.invokevirtual 79, [234, 3, 12, 364], .null), (.ldc 0, [], .int 1), (.isub, [], .null), (.invokevirtual 98, [235, 4, 12, 369], .null), (.aload 0, [], .null), (.iload 1, [], .null), (.ldc 0, [], .int 3), (.ldc 0, [], .int 0), (.invokevirtual 98, [235, 4, 12, 369], .null), (.aload 0, [], .null), (.iload 1, [], .null), (.ldc 0, [], .int 1), (.invokevirtual 335, [296, 3, 12, 444], .null), (.return_, [], .null)])]
def mj_b303 : List (Nat × List mj_I) := [
  (0, [(.aload 0, [], .null), (.iload 1, [], .null), (.invokevirtual 329, [232, 2, 12, 442], .null), (.ifCond .eq 0, [5, 1], .null)]),
  (8, [(.iload 2, [], .null), (.invokestatic 90, [233, 1, 12, 367], .null), (.ifCond .eq 0, [5, 2], .null)]),
  (15, [(.aload 0, [], .null), (.iload 1, [], .null), (.ldc 0, [], .int 1), (.invokevirtual 79, [234, 3, 12, 364], .null), (.ifCond .ne 0, [5, 3], .null)]),
  (24, [(.aload 0, [], .null), (.iload 1, [], .null), (.ldc 0, [], .int 0), (.invokevirtual 79, [234, 3, 12, 364], .null), (.iload 2, [], .null), (.nop, [0, 1, 2], .null), (.if_icmp .eq 0, [5, 4], .null)]),
  (34, [(.ldc 0, [], .int 1), (.goto 0, [6], .null)]),
  (38, [(.nop, [0, 1, 2], .null), (.ldc 0, [], .int 0), (.jsr 0, [6], .null)]),
  (39, [(.ireturn, [1], .null)])]
def mj_b304 : List (Nat × List mj_I) := [
  (0, [(.aload 0, [], .null), (.iload 1, [], .null), (.ldc 0, [], .int 0), (.iload 2, [], .null), (.invokevirtual 98, [235, 4, 12, 369], .null), (.aload 0, [], .null), (.iload 1, [], .null), (.ldc 0, [], .int 3), (.ldc 0, [], .int 0), (.invokevirtual 98, [235, 4, 12, 369], .null), (.aload 0, [], .null), (.iload 1, [], .null), (.ldc 0, [], .int 2), (.invokevirtual 335, [296, 3, 12, 444], .null), (.return_, [], .null)])]
def mj_b305 : List (Nat × List mj_I) := [
  (0, [(.ldc 0, [], .int 0), (.istore 1, [], .null), (.jsr 0, [1], .null)]),
  (2, [(.iload 1, [], .null), (.aload 0, [], .null), (.getfield 7, [12, 0, 342], .null), (.ldc 0, [], .int 0), (.iaload, [], .null), (.if_icmp .ge 0, [7, 2], .null)]),
  (12, [(.aload 0, [], .null), (.iload 1, [], .null), (.ldc 0, [], .int 1), (.invokevirtual 79, [234, 3, 12, 364], .null), (.ifCond .le 0, [5, 3], .null)]),
  (21, [(.aload 0, [], .null), (.ldc 0, [], .int 10), (.invokevirtual 338, [297, 2, 12, 445], .null), (.aload 0, [], .null), (.aload 0, [], .null), (.getfield 7, [12, 0, 342], .null), (.ldc 0, [], .int 2), (.iaload, [], .null), (.iload 1, [], .null), (.invokevirtual 341, [295, 3, 12, 446], .null), (.if_icmp .ge 0, [5, 4], .null)]),
  (41, [(.aload 0, [], .null), (.iload 1, [], .null), (.invokevirtual 344, [302, 2, 12, 447], .null), (.aload 0, [], .null), (.dup, [], .null), (.getfield 347, [12, 24, 448], .null), (.ldc 0, [], .int 1), (.iadd, [], .null), (.putfield 347, [12, 24, 0, 448], .null), (.goto 0, [6], .null)]),
  (59, [(.aload 0, [], .null), (.iload 1, [], .null), (.ldc 0, [], .int 3), (.aload 0, [], .null), (.iload 1, [], .null), (.ldc 0, [], .int 3), (.invokevirtual 79, [234, 3, 12, 364], .null), (.ldc 0, [], .int 1), (.iadd, [], .null), (.i2l, [], .null), (.ldc 0, [], .int 0), (.ldc 0, [], .int 99), (.invokestatic 303, [229, 3, 12, 433], .null), (.invokevirtual 98, [235, 4, 12, 369], .null), (.jsr 0, [6], .null)]),
  (80, [(.iinc 1 0, [], .int 1), (.goto 0, [1], .null)]),
  (86, [(.nop, [1], .null), (.aload 0, [], .null), (.getfield 7, [12, 0, 342], .null), (.ldc 0, [], .int 8), (.dup2, [], .null), (.iaload, [], .null), (.ldc 0, [], .int 1), (.iadd, [], .null), (.iastore, [], .null), (.return_, [], .null)])]
def mj_b306 : List (Nat × List mj_I) := [
  (0, [(.aload 0, [], .null), (.getfield 7, [12, 0, 342], .null), (.ldc 0, [], .int 3), (.iaload, [], .null), (.ldc 0, [], .int 30), (.if_icmp .ne 0, [5, 1], .null)]),
  (11, [(.ldc 0, [], .int 0), (.istore 1, [], .null), (.jsr 0, [2], .null)]),
  (13, [(.iload 1, [], .null), (.ldc 0, [], .int 1566), (.if_icmp .ge 0, [4, 3], .null)]),
  (20, [(.aload 0, [], .null), (.getfield 7, [12, 0, 342], .null), (.ldc 0, [], .int 113), (.iload 1, [], .null), (.iadd, [], .null), (.aload 0, [], .null), (.getfield 7, [12, 0, 342], .null), (.ldc 0, [], .int 167), (.iload 1, [], .null), (.iadd, [], .null), (.iaload, [], .null), (.iastore, [], .null), (.iinc 1 0, [], .int 1), (.goto 0, [2], .null)]),
  (45, [(.nop, [1], .null), (.aload 0, [], .null), (.getfield 7, [12, 0, 342], .null), (.ldc 0, [], .int 3), (.dup2, [], .null), (.iaload, [], .null), (.ldc 0, [], .int 1), (.isub, [], .null), (.iastore, [], .null), (.jsr 0, [5], .null)]),
  (55, [(.ldc 0, [], .int 113), (.ldc 0, [], .int 54), (.aload 0, [], .null), (.getfield 7, [12, 0, 342], .null), (.ldc 0, [], .int 3), (.iaload, [], .null), (.imul, [], .null), (.iadd, [], .null), (.istore 1, [], .null), (.aload 0, [], .null), (.getfield 7, [12, 0, 342], .null), (.iload 1, [], .null), (.aload 0, [], .null), (.getfield 7, [12, 0, 342], .null), (.ldc 0, [], .int 0), (.iaload, [], .null), (.iastore, [], .null), (.ldc 0, [], .int 0), (.istore 2, [], .null), (.jsr 0, [6], .null)]),
  (82, [(.iload 2, [], .null), (.ldc 0, [], .int 23), (.if_icmp .ge 0, [8, 7], .null)]),
  (88, [(.aload 0, [], .null), (.getfield 7, [12, 0, 342], .null), (.iload 1, [], .null), (.ldc 0, [], .int 1), (.iadd, [], .null), (.iload 2, [], .null), (.iadd, [], .null), (.aload 0, [], .null), (.getfield 7, [12, 0, 342], .null), (.ldc 0, [], .int 8), (.iload 2, [], .null), (.iadd, [], .null), (.iaload, [], .null), (.iastore, [], .null), (.iinc 2 0, [], .int 1), (.goto 0, [6], .null)]),
  (113, [(.nop, [2], .null), (.ldc 0, [], .int 0), (.istore 2, [], .null), (.jsr 0, [9], .null)]),
  (115, [(.iload 2, [], .null), (.ldc 0, [], .int 30), (.if_icmp .ge 0, [11, 10], .null)]),
  (121, [(.aload 0, [], .null), (.getfield 7, [12, 0, 342], .null), (.iload 1, [], .null), (.ldc 0, [], .int 1), (.iadd, [], .null), (.ldc 0, [], .int 23), (.iadd, [], .null), (.iload 2, [], .null), (.iadd, [], .null), (.aload 0, [], .null), (.getfield 7, [12, 0, 342], .null), (.ldc 0, [], .int 1733), (.iload 2, [], .null), (.iadd, [], .null), (.iaload, [], .null), (.iastore, [], .null), (.iinc 2 0, [], .int 1), (.goto 0, [9], .null)]),
  (150, [(.nop, [1, 2], .null), (.aload 0, [], .null), (.getfield 7, [12, 0, 342], .null), (.ldc 0, [], .int 3), (.dup2, [], .null), (.iaload, [], .null), (.ldc 0, [], .int 1), (.iadd, [], .null), (.iastore, [], .null), (.return_, [], .null)])]
def mj_b307 : List (Nat × List mj_I) := [
  (0, [(.aload 0, [], .null), (.getfield 7, [12, 0, 342], .null), (.ldc 0, [], .int 3), (.iaload, [], .null), (.ifCond .ne 0, [2, 1], .null)]),
  (9, [(.nop, [0], .null), (.ldc 0, [], .int (-1)), (.ireturn, [], .null)]),
  (11, [(.aload 0, [], .null), (.getfield 7, [12, 0, 342], .null), (.ldc 0, [], .int 3), (.dup2, [], .null), (.iaload, [], .null), (.ldc 0, [], .int 1), (.isub, [], .null), (.iastore, [], .null), (.ldc 0, [], .int 113), (.ldc 0, [], .int 54), (.aload 0, [], .null), (.getfield 7, [12, 0, 342], .null), (.ldc 0, [], .int 3), (.iaload, [], .null), (.imul, [], .null), (.iadd, [], .null), (.istore 1, [], .null), (.ldc 0, [], .int 0), (.istore 2, [], .null), (.jsr 0, [3], .null)]),
  (36, [(.iload 2, [], .null), (.ldc 0, [], .int 23), (.if_icmp .ge 0, [5, 4], .null)]),
  (42, [(.aload 0, [], .null), (.getfield 7, [12, 0, 342], .null), (.ldc 0, [], .int 8), (.iload 2, [], .null), (.iadd, [], .null), (.aload 0, [], .null), (.getfield 7, [12, 0, 342], .null), (.iload 1, [], .null), (.ldc 0, [], .int 1), (.iadd, [], .null), (.iload 2, [], .null), (.iadd, [], .null), (.iaload, [], .null), (.iastore, [], .null), (.iinc 2 0, [], .int 1), (.goto 0, [3], .null)]),
  (67, [(.nop, [2], .null), (.aload 0, [], .null), (.getfield 7, [12, 0, 342], .null), (.iload 1, [], .null), (.iaload, [], .null), (.istore 2, [], .null), (.jsr 0, [6], .null)]),
  (74, [(.iload 2, [], .null), (.aload 0, [], .null), (.getfield 7, [12, 0, 342], .null), (.ldc 0, [], .int 0), (.iaload, [], .null), (.if_icmp .ge 0, [8, 7], .null)]),
  (84, [(.aload 0, [], .null), (.iload 2, [], .null), (.invokevirtual 94, [240, 2, 12, 368], .null), (.iinc 2 0, [], .int 1), (.goto 0, [6], .null)]),
  (95, [(.nop, [2], .null), (.ldc 0, [], .int 0), (.istore 2, [], .null), (.jsr 0, [9], .null)]),
  (97, [(.iload 2, [], .null), (.ldc 0, [], .int 30), (.if_icmp .ge 0, [11, 10], .null)]),
  (103, [(.aload 0, [], .null), (.getfield 7, [12, 0, 342], .null), (.ldc 0, [], .int 1733), (.iload 2, [], .null), (.iadd, [], .null), (.aload 0, [], .null), (.getfield 7, [12, 0, 342], .null), (.iload 1, [], .null), (.ldc 0, [], .int 1), (.iadd, [], .null), (.ldc 0, [], .int 23), (.iadd, [], .null), (.iload 2, [], .null), (.iadd, [], .null), (.iaload, [], .null), (.iastore, [], .null), (.iinc 2 0, [], .int 1), (.goto 0, [9], .null)]),
  (132, [(.nop, [1, 2], .null), (.aload 0, [], .null), (.getfield 7, [12, 0, 342], .null), (.ldc 0, [], .int 3), (.iaload, [], .null), (.ireturn, [], .null)])]
def mj_b308 : List (Nat × List mj_I) := [
  (0, [(.aload 0, [], .null), (.iload 1, [], .null), (.invokevirtual 350, [299, 2, 12, 449], .null), (.ifCond .ne 0, [2, 1], .null)]),
  (8, [(.nop, [0, 1], .null), (.ldc 0, [], .int (-1)), (.ireturn, [], .null)]),
  (10, [(.aload 0, [], .null), (.invokevirtual 353, [306, 1, 12, 450], .null), (.aload 0, [], .null), (.iload 1, [], .null), (.invokevirtual 356, [300, 2, 12, 451], .null), (.aload 0, [], .null), (.iload 1, [], .null), (.invokevirtual 86, [237, 2, 12, 366], .null), (.ireturn, [], .null)])]
def mj_b309 : List (Nat × List mj_I) := [
  (0, [(.aload 0, [], .null), (.iload 1, [], .null), (.invokevirtual 359, [301, 2, 12, 452], .null), (.ifCond .ne 0, [2, 1], .null)]),
  (8, [(.nop, [0, 1], .null), (.ldc 0, [], .int (-1)), (.ireturn, [], .null)]),
  (10, [(.aload 0, [], .null), (.invokevirtual 353, [306, 1, 12, 450], .null), (.aload 0, [], .null), (.iload 1, [], .null), (.invokevirtual 344, [302, 2, 12, 447], .null), (.aload 0, [], .null), (.iload 1, [], .null), (.invokevirtual 86, [237, 2, 12, 366], .null), (.ireturn, [], .null)])]
def mj_b310 : List (Nat × List mj_I) := [
  (0, [(.aload 0, [], .null), (.iload 1, [], .null), (.iload 2, [], .null), (.invokevirtual 362, [303, 3, 12, 453], .null), (.ifCond .ne 0, [2, 1], .null)]),
  (9, [(.nop, [0, 1, 2], .null), (.ldc 0, [], .int 0), (.ireturn, [1], .null)]),
  (11, [(.aload 0, [], .null), (.invokevirtual 353, [306, 1, 12, 450], .null), (.aload 0, [], .null), (.iload 1, [], .null), (.iload 2, [], .null), (.invokevirtual 365, [304, 3, 12, 454], .null), (.ldc 0, [], .int 1), (.ireturn, [1], .null)])]
def mj_b311 : List (Nat × List mj_I) := [
  (0, [(.aload 0, [], .null), (.iload 1, [], .null), (.invokevirtual 329, [232, 2, 12, 442], .null), (.ifCond .eq 0, [3, 1], .null)]),
  (8, [(.iload 2, [], .null), (.ldc 0, [], .int 1), (.ldc 0, [], .int 99), (.invokestatic 75, [228, 3, 12, 363], .null), (.ifCond .eq 0, [3, 2], .null)]),
  (18, [(.aload 0, [], .null), (.iload 1, [], .null), (.ldc 0, [], .int 2), (.invokevirtual 79, [234, 3, 12, 364], .null), (.iload 2, [], .null), (.iadd, [], .null), (.ldc 0, [], .int 99), (.if_icmp .le 0, [4, 3], .null)]),
  (31, [(.nop, [0, 1, 2], .null), (.ldc 0, [], .int 0), (.ireturn, [1], .null)]),
  (33, [(.aload 0, [], .null), (.invokevirtual 353, [306, 1, 12, 450], .null), (.aload 0, [], .null), (.iload 1, [], .null), (.ldc 0, [], .int 2), (.aload 0, [], .null), (.iload 1, [], .null), (.ldc 0, [], .int 2), (.invokevirtual 79, [234, 3, 12, 364], .null), (.iload 2, [], .null), (.iadd, [], .null), (.invokevirtual 98, [235, 4, 12, 369], .null), (.ldc 0, [], .int 1), (.ireturn, [1], .null)])]
def mj_b312 : List (Nat × List mj_I) := [
  (0, [(.aload 0, [], .null), (.ldc 0, [], .int 0), (.putfield 347, [12, 24, 0, 448], .null), (.ldc 0, [], .int 0), (.istore 2, [], .null), (.jsr 0, [1], .null)]),
  (7, [(.iload 2, [], .null), (.iload 1, [], .null), (.if_icmp .ge 0, [5, 2], .null)]),
  (12, [(.aload 0, [], .null), (.getfield 7, [12, 0, 342], .null), (.ldc 0, [], .int 8), (.iaload, [], .null), (.ldc 0, [], .int 9999), (.if_icmp .ne 0, [4, 3], .null)]),
  (25, [(.nop, [0, 1, 2], .null), (.ldc 0, [], .int 0), (.ireturn, [1], .null)]),
  (27, [(.aload 0, [], .null), (.invokevirtual 353, [306, 1, 12, 450], .null), (.aload 0, [], .null), (.invokevirtual 368, [305, 1, 12, 455], .null), (.iinc 2 0, [], .int 1), (.goto 0, [1], .null)]),
  (41, [(.nop, [0, 1, 2], .null), (.ldc 0, [], .int 1), (.ireturn, [1], .null)])]
def mj_b313 : List (Nat × List mj_I) := [
  (0, [(.iload 1, [], .null), (.ldc 0, [], .int 1), (.ldc 0, [], .int 60), (.invokestatic 75, [228, 3, 12, 363], .null), (.ifCond .eq 0, [4, 1], .null)]),
  (10, [(.aload 0, [], .null), (.getfield 7, [12, 0, 342], .null), (.ldc 0, [], .int 8), (.iaload, [], .null), (.iload 1, [], .null), (.iadd, [], .null), (.ldc 0, [], .int 9999), (.if_icmp .gt 0, [4, 2], .null)]),
  (25, [(.aload 0, [], .null), (.iload 1, [], .null), (.invokevirtual 371, [312, 2, 12, 456], .null), (.nop, [1], .null), (.ifCond .eq 0, [4, 3], .null)]),
  (33, [(.aload 0, [], .null), (.getfield 347, [12, 24, 448], .null), (.nop, [0], .null), (.goto 0, [5], .null)]),
  (40, [(.nop, [0, 1], .null), (.ldc 0, [], .int (-1)), (.jsr 0, [5], .null)]),
  (41, [(.ireturn, [], .null)])]
def mj_b314 : List (Nat × List mj_I) := [
  (0, [(.aload 0, [], .null), (.getfield 16, [12, 2, 344], .null), (.iload 1, [], .null), (.ldc 0, [], .int 1), (.iadd, [], .null), (.iaload, [], .null), (.istore 2, [], .null), (.aload 0, [], .null), (.getfield 16, [12, 2, 344], .null), (.iload 1, [], .null), (.ldc 0, [], .int 2), (.iadd, [], .null), (.iaload, [], .null), (.istore 3, [], .null), (.aload 0, [], .null), (.getfield 16, [12, 2, 344], .null), (.iload 1, [], .null), (.iaload, [], .null), (.nop, [1], .null), (.tableswitch 0 2 7 #[], [16, 1, 5, 6, 10, 14, 15], .null)]),
  (64, [(.aload 0, [], .null), (.iload 2, [], .null), (.iload 3, [], .null), (.invokevirtual 374, [239, 3, 12, 457], .null), (.nop, [0, 2, 3], .null), (.ifCond .lt 0, [3, 2], .null)]),
  (73, [(.ldc 0, [], .int 1), (.goto 0, [4], .null)]),
  (77, [(.ldc 0, [], .int 0), (.jsr 0, [4], .null)]),
  (78, [(.ireturn, [1], .null)]),
  (79, [(.aload 0, [], .null), (.iload 3, [], .null), (.iload 2, [], .null), (.invokevirtual 377, [241, 3, 12, 458], .null), (.ireturn, [1], .null)]),
  (86, [(.nop, [3], .null), (.aload 0, [], .null), (.iload 2, [], .null), (.invokevirtual 380, [308, 2, 12, 459], .null), (.nop, [0, 2], .null), (.ifCond .lt 0, [8, 7], .null)]),
  (94, [(.ldc 0, [], .int 1), (.goto 0, [9], .null)]),
  (98, [(.ldc 0, [], .int 0), (.jsr 0, [9], .null)]),
  (99, [(.ireturn, [1], .null)]),
  (100, [(.nop, [3], .null), (.aload 0, [], .null), (.iload 2, [], .null), (.invokevirtual 383, [309, 2, 12, 460], .null), (.nop, [0, 2], .null), (.ifCond .lt 0, [12, 11], .null)]),
  (108, [(.ldc 0, [], .int 1), (.goto 0, [13], .null)]),
  (112, [(.ldc 0, [], .int 0), (.jsr 0, [13], .null)]),
  (113, [(.ireturn, [1], .null)]),
  (114, [(.aload 0, [], .null), (.iload 2, [], .null), (.iload 3, [], .null), (.invokevirtual 386, [310, 3, 12, 461], .null), (.ireturn, [1], .null)]),
  (121, [(.nop, [3], .null), (.aload 0, [], .null), (.iload 2, [], .null), (.invokevirtual 371, [312, 2, 12, 456], .null), (.ireturn, [1], .null)]),
  (127, [(.nop, [0, 2, 3], .null), (.ldc 0, [], .int 1), (.ireturn, [1], .null)])]
def mj_b315 : List (Nat × List mj_I) := [
  (0, [(.iload 1, [], .null), (.ldc 0, [], .int 0), (.aload 0, [], .null), (.getfield 7, [12, 0, 342], .null), (.ldc 0, [], .int 1), (.iaload, [], .null), (.ldc 0, [], .int 1), (.isub, [], .null), (.invokestatic 75, [228, 3, 12, 363], .null), (.ifCond .ne 0, [2, 1], .null)]),
  (16, [(.nop, [0, 1], .null), (.ldc 0, [], .int (-2)), (.ireturn, [], .null)]),
  (19, [(.ldc 0, [], .int 0), (.istore 2, [], .null), (.jsr 0, [3], .null)]),
  (21, [(.iload 2, [], .null), (.aload 0, [], .null), (.getfield 16, [12, 2, 344], .null), (.ldc 0, [], .int 681), (.iload 1, [], .null), (.imul, [], .null), (.iaload, [], .null), (.if_icmp .ge 0, [7, 4], .null)]),
  (35, [(.aload 0, [], .null), (.ldc 0, [], .int 681), (.iload 1, [], .null), (.imul, [], .null), (.ldc 0, [], .int 1), (.iadd, [], .null), (.ldc 0, [], .int 3), (.iload 2, [], .null), (.imul, [], .null), (.iadd, [], .null), (.invokevirtual 389, [314, 2, 12, 462], .null), (.ifCond .ne 0, [6, 5], .null)]),
  (53, [(.nop, [0, 1], .null), (.iload 2, [], .null), (.ireturn, [], .null)]),
  (55, [(.iinc 2 0, [], .int 1), (.goto 0, [3], .null)]),
  (61, [(.nop, [0, 1, 2], .null), (.ldc 0, [], .int (-1)), (.ireturn, [], .null)])]
def mj_b316 : List (Nat × List mj_I) := [
  (0, [(.aload 0, [], .null), (.getfield 7, [12, 0, 342], .null), (.ldc 0, [], .int 0), (.iaload, [], .null), (.ifCond .ne 0, [2, 1], .null)]),
  (9, [(.ldc 0, [], .int (-1)), (.goto 0, [3], .null)]),
  (13, [(.iload 1, [], .null), (.ldc 0, [], .int 6), (.idiv, [], .null), (.aload 0, [], .null), (.getfield 7, [12, 0, 342], .null), (.ldc 0, [], .int 0), (.iaload, [], .null), (.irem, [], .null), (.jsr 0, [3], .null)]),
  (24, [(.istore 2, [], .null), (.iload 1, [], .null), (.ldc 0, [], .int 6), (.irem, [], .null), (.tableswitch 0 0 3 #[], [10, 4, 4, 6, 8], .null)]),
  (60, [(.nop, [1], .null), (.aload 0, [], .null), (.iload 2, [], .null), (.invokevirtual 350, [299, 2, 12, 449], .null), (.ifCond .eq 0, [12, 5], .null)]),
  (68, [(.aload 0, [], .null), (.iload 2, [], .null), (.invokevirtual 356, [300, 2, 12, 451], .null), (.nop, [0, 2], .null), (.goto 0, [12], .null)]),
  (76, [(.nop, [1], .null), (.aload 0, [], .null), (.iload 2, [], .null), (.invokevirtual 359, [301, 2, 12, 452], .null), (.ifCond .eq 0, [12, 7], .null)]),
  (84, [(.aload 0, [], .null), (.iload 2, [], .null), (.invokevirtual 344, [302, 2, 12, 447], .null), (.nop, [0, 2], .null), (.goto 0, [12], .null)]),
  (92, [(.aload 0, [], .null), (.iload 2, [], .null), (.iload 1, [], .null), (.ldc 0, [], .int 8), (.irem, [], .null), (.invokevirtual 362, [303, 3, 12, 453], .null), (.ifCond .eq 0, [12, 9], .null)]),
  (104, [(.aload 0, [], .null), (.iload 2, [], .null), (.iload 1, [], .null), (.ldc 0, [], .int 8), (.irem, [], .null), (.invokevirtual 365, [304, 3, 12, 454], .null), (.nop, [0, 1, 2], .null), (.goto 0, [12], .null)]),
  (116, [(.nop, [1, 2], .null), (.aload 0, [], .null), (.getfield 7, [12, 0, 342], .null), (.ldc 0, [], .int 8), (.iaload, [], .null), (.ldc 0, [], .int 9999), (.if_icmp .ge 0, [12, 11], .null)]),
  (129, [(.aload 0, [], .null), (.invokevirtual 368, [305, 1, 12, 455], .null), (.nop, [0], .null), (.jsr 0, [12], .null)]),
  (133, [(.nop, [0, 1, 2], .null), (.return_, [], .null)])]
def mj_b317 : List (Nat × List mj_I) := [
  (0, [(.iload 1, [], .null), (.ldc 0, [], .int 0), (.ldc 0, [], .int 9999), (.invokestatic 75, [228, 3, 12, 363], .null), (.ifCond .eq 0, [2, 1], .null)]),
  (11, [(.iload 2, [], .null), (.ldc 0, [], .int 1), (.ldc 0, [], .int 40), (.invokestatic 75, [228, 3, 12, 363], .null), (.ifCond .ne 0, [3, 2], .null)]),
  (21, [(.nop, [0, 1, 2], .null), (.ldc 0, [], .int (-1)), (.ireturn, [], .null)]),
  (23, [(.aload 0, [], .null), (.invokevirtual 353, [306, 1, 12, 450], .null), (.aload 0, [], .null), (.getfield 7, [12, 0, 342], .null), (.ldc 0, [], .int 9), (.iload 1, [], .null), (.ldc 0, [], .int 2), (.imul, [], .null), (.ldc 0, [], .int 383), (.iadd, [], .null), (.iastore, [], .null), (.ldc 0, [], .int 0), (.istore 3, [], .null), (.nop, [1], .null), (.jsr 0, [4], .null)]),
  (43, [(.iload 3, [], .null), (.iload 2, [], .null), (.if_icmp .ge 0, [6, 5], .null)]),
  (48, [(.aload 0, [], .null), (.getfield 7, [12, 0, 342], .null), (.ldc 0, [], .int 9), (.iaload, [], .null), (.istore 4, [], .null), (.aload 0, [], .null), (.invokevirtual 320, [298, 1, 12, 438], .null), (.aload 0, [], .null), (.iload 4, [], .null), (.invokevirtual 392, [316, 2, 12, 463], .null), (.iinc 3 0, [], .int 1), (.nop, [4], .null), (.goto 0, [4], .null)]),
  (73, [(.nop, [2, 3], .null), (.aload 0, [], .null), (.getfield 7, [12, 0, 342], .null), (.ldc 0, [], .int 8), (.iaload, [], .null), (.ireturn, [], .null)])]
def mj_b318 : List (Nat × List mj_I) := [
  (0, [(.aload 0, [], .null), (.iload 1, [], .null), (.invokevirtual 329, [232, 2, 12, 442], .null), (.ifCond .ne 0, [2, 1], .null)]),
  (8, [(.nop, [0, 1, 2], .null), (.ldc 0, [], .int (-100)), (.ireturn, [], .null)]),
  (11, [(.iload 2, [], .null), (.ifCond .ne 0, [4, 3], .null)]),
  (15, [(.nop, [2], .null), (.aload 0, [], .null), (.iload 1, [], .null), (.invokevirtual 86, [237, 2, 12, 366], .null), (.nop, [0, 1], .null), (.goto 0, [11], .null)]),
  (23, [(.iload 2, [], .null), (.ldc 0, [], .int 1), (.ldc 0, [], .int 4), (.invokestatic 75, [228, 3, 12, 363], .null), (.ifCond .eq 0, [6, 5], .null)]),
  (32, [(.aload 0, [], .null), (.iload 1, [], .null), (.iload 2, [], .null), (.ldc 0, [], .int 1), (.isub, [], .null), (.invokevirtual 79, [234, 3, 12, 364], .null), (.nop, [0, 1, 2], .null), (.goto 0, [11], .null)]),
  (43, [(.iload 2, [], .null), (.ldc 0, [], .int 5), (.if_icmp .ne 0, [8, 7], .null)]),
  (48, [(.nop, [2], .null), (.aload 0, [], .null), (.iload 1, [], .null), (.invokevirtual 332, [294, 2, 12, 443], .null), (.nop, [0, 1], .null), (.goto 0, [11], .null)]),
  (56, [(.iload 2, [], .null), (.ldc 0, [], .int 6), (.nop, [2], .null), (.if_icmp .ne 0, [10, 9], .null)]),
  (62, [(.aload 0, [], .null), (.aload 0, [], .null), (.getfield 7, [12, 0, 342], .null), (.ldc 0, [], .int 2), (.iaload, [], .null), (.iload 1, [], .null), (.invokevirtual 341, [295, 3, 12, 446], .null), (.nop, [0, 1], .null), (.goto 0, [11], .null)]),
  (76, [(.nop, [0, 1], .null), (.ldc 0, [], .int (-100)), (.jsr 0, [11], .null)]),
  (78, [(.ireturn, [], .null)])]
def mj_b319 : List (Nat × List mj_I) := [
  (0, [(.iload 1, [], .null), (.invokestatic 90, [233, 1, 12, 367], .null), (.ifCond .ne 0, [2, 1], .null)]),
  (7, [(.nop, [0, 1, 2], .null), (.ldc 0, [], .int (-100)), (.ireturn, [], .null)]),
  (10, [(.iload 2, [], .null), (.ifCond .ne 0, [4, 3], .null)]),
  (14, [(.nop, [2], .null), (.aload 0, [], .null), (.getfield 7, [12, 0, 342], .null), (.ldc 0, [], .int 41), (.iload 1, [], .null), (.iadd, [], .null), (.iaload, [], .null), (.nop, [0, 1], .null), (.goto 0, [9], .null)]),
  (26, [(.iload 2, [], .null), (.ldc 0, [], .int 1), (.if_icmp .ne 0, [6, 5], .null)]),
  (31, [(.nop, [2], .null), (.aload 0, [], .null), (.getfield 7, [12, 0, 342], .null), (.ldc 0, [], .int 49), (.iload 1, [], .null), (.iadd, [], .null), (.iaload, [], .null), (.nop, [0, 1], .null), (.goto 0, [9], .null)]),
  (43, [(.iload 2, [], .null), (.ldc 0, [], .int 2), (.nop, [2], .null), (.if_icmp .ne 0, [8, 7], .null)]),
  (48, [(.aload 0, [], .null), (.iload 1, [], .null), (.invokevirtual 307, [238, 2, 12, 434], .null), (.nop, [0, 1], .null), (.goto 0, [9], .null)]),
  (56, [(.nop, [0, 1], .null), (.ldc 0, [], .int (-100)), (.jsr 0, [9], .null)]),
  (58, [(.ireturn, [], .null)])]
def mj_b320 : List (Nat × List mj_I) := [
  (0, [(.ldc 0, [], .int 0), (.istore 2, [], .null), (.ldc 0, [], .int 0), (.istore 3, [], .null), (.jsr 0, [1], .null)]),
  (4, [(.iload 3, [], .null), (.aload 0, [], .null), (.getfield 7, [12, 0, 342], .null), (.ldc 0, [], .int 0), (.iaload, [], .null), (.if_icmp .ge 0, [3, 2], .null)]),
  (14, [(.iload 2, [], .null), (.aload 0, [], .null), (.iload 3, [], .null), (.iload 1, [], .null), (.invokevirtual 79, [234, 3, 12, 364], .null), (.iadd, [], .null), (.istore 2, [], .null), (.iinc 3 0, [], .int 1), (.goto 0, [1], .null)]),
  (29, [(.nop, [0, 1, 3], .null), (.iload 2, [], .null), (.ireturn, [], .null)])]
def mj_b321 : List (Nat × List mj_I) := [
  (0, [(.iload 1, [], .null), (.ldc 0, [], .int 0), (.ldc 0, [], .int 1), (.invokestatic 75, [228, 3, 12, 363], .null), (.ifCond .eq 0, [2, 1], .null)]),
  (9, [(.aload 0, [], .null), (.getfield 7, [12, 0, 342], .null), (.ldc 0, [], .int 8), (.iload 1, [], .null), (.iadd, [], .null), (.iaload, [], .null), (.nop, [0, 1], .null), (.goto 0, [7], .null)]),
  (21, [(.iload 1, [], .null), (.ldc 0, [], .int 2), (.if_icmp .ne 0, [4, 3], .null)]),
  (26, [(.nop, [1], .null), (.aload 0, [], .null), (.ldc 0, [], .int 2), (.invokevirtual 395, [320, 2, 12, 464], .null), (.nop, [0], .null), (.goto 0, [7], .null)]),
  (34, [(.iload 1, [], .null), (.ldc 0, [], .int 3), (.nop, [1], .null), (.if_icmp .ne 0, [6, 5], .null)]),
  (39, [(.aload 0, [], .null), (.ldc 0, [], .int 1), (.invokevirtual 395, [320, 2, 12, 464], .null), (.nop, [0], .null), (.goto 0, [7], .null)]),
  (47, [(.nop, [0], .null), (.ldc 0, [], .int (-2)), (.jsr 0, [7], .null)]),
  (49, [(.ireturn, [], .null)])]
def mj_b322 : List (Nat × List mj_I) := [
  (0, [(.aload 0, [], .null), (.getfield 7, [12, 0, 342], .null), (.ldc 0, [], .int 1733), (.iload 1, [], .null), (.iadd, [], .null), (.iaload, [], .null), (.istore 3, [], .null), (.iload 2, [], .null), (.nop, [0, 1], .null), (.ifCond .ne 0, [2, 1], .null)]),
  (15, [(.nop, [2], .null), (.iload 3, [], .null), (.ldc 0, [], .int 120), (.idiv, [], .null), (.nop, [3], .null), (.goto 0, [7], .null)]),
  (22, [(.iload 2, [], .null), (.ldc 0, [], .int 1), (.if_icmp .ne 0, [4, 3], .null)]),
  (27, [(.nop, [2], .null), (.iload 3, [], .null), (.ldc 0, [], .int 24), (.idiv, [], .null), (.ldc 0, [], .int 5), (.irem, [], .null), (.nop, [3], .null), (.goto 0, [7], .null)]),
  (36, [(.iload 2, [], .null), (.ldc 0, [], .int 2), (.nop, [2], .null), (.if_icmp .ne 0, [6, 5], .null)]),
  (41, [(.iload 3, [], .null), (.ldc 0, [], .int 8), (.idiv, [], .null), (.ldc 0, [], .int 3), (.irem, [], .null), (.nop, [3], .null), (.goto 0, [7], .null)]),
  (50, [(.iload 3, [], .null), (.ldc 0, [], .int 8), (.irem, [], .null), (.nop, [3], .null), (.jsr 0, [7], .null)]),
  (54, [(.ireturn, [], .null)])]
def mj_b323 : List (Nat × List mj_I) := [
  (0, [(.iload 1, [], .null), (.ldc 0, [], .int (-1)), (.if_icmp .ne 0, [2, 1], .null)]),
  (5, [(.nop, [1, 2], .null), (.aload 0, [], .null), (.getfield 7, [12, 0, 342], .null), (.ldc 0, [], .int 10), (.iaload, [], .null), (.ireturn, [], .null)]),
  (13, [(.iload 1, [], .null), (.ldc 0, [], .int 0), (.aload 0, [], .null), (.getfield 7, [12, 0, 342], .null), (.ldc 0, [], .int 10), (.iaload, [], .null), (.ldc 0, [], .int 1), (.isub, [], .null), (.invokestatic 75, [228, 3, 12, 363], .null), (.ifCond .eq 0, [5, 3], .null)]),
  (30, [(.iload 2, [], .null), (.ldc 0, [], .int 0), (.ldc 0, [], .int 3), (.invokestatic 75, [228, 3, 12, 363], .null), (.ifCond .eq 0, [5, 4], .null)]),
  (39, [(.aload 0, [], .null), (.iload 1, [], .null), (.iload 2, [], .null), (.invokevirtual 398, [322, 3, 12, 465], .null), (.nop, [0, 1, 2], .null), (.goto 0, [6], .null)]),
  (48, [(.nop, [0, 1, 2], .null), (.ldc 0, [], .int (-2)), (.jsr 0, [6], .null)]),
  (50, [(.ireturn, [], .null)])]
def mj_b324 : List (Nat × List mj_I) := [
  (0, [(.iload 1, [], .null), (.ldc 0, [], .int 0), (.ldc 0, [], .int 2), (.invokestatic 75, [228, 3, 12, 363], .null), (.ifCond .ne 0, [2, 1], .null)]),
  (9, [(.nop, [0, 1], .null), (.ldc 0, [], .int (-2)), (.ireturn, [], .null)]),
  (12, [(.ldc 0, [], .int 0), (.istore 2, [], .null), (.ldc 0, [], .int 0), (.istore 3, [], .null), (.jsr 0, [3], .null)]),
  (16, [(.iload 3, [], .null), (.aload 0, [], .null), (.getfield 7, [12, 0, 342], .null), (.ldc 0, [], .int 10), (.iaload, [], .null), (.if_icmp .ge 0, [8, 4], .null)]),
  (27, [(.iload 2, [], .null), (.aload 0, [], .null), (.iload 3, [], .null), (.ldc 0, [], .int 2), (.invokevirtual 398, [322, 3, 12, 465], .null), (.iload 1, [], .null), (.nop, [2], .null), (.if_icmp .ne 0, [6, 5], .null)]),
  (38, [(.ldc 0, [], .int 1), (.goto 0, [7], .null)]),
  (42, [(.ldc 0, [], .int 0), (.jsr 0, [7], .null)]),
  (43, [(.iadd, [], .null), (.istore 2, [], .null), (.iinc 3 0, [], .int 1), (.goto 0, [3], .null)]),
  (51, [(.nop, [0, 1, 3], .null), (.iload 2, [], .null), (.ireturn, [], .null)])]
def mj_b325 : List (Nat × List mj_I) := [
  (0, [(.ldc 0, [], .int (-1)), (.istore 1, [], .null), (.ldc 0, [], .int 0), (.istore 2, [], .null), (.jsr 0, [1], .null)]),
  (4, [(.iload 2, [], .null), (.aload 0, [], .null), (.getfield 7, [12, 0, 342], .null), (.ldc 0, [], .int 0), (.iaload, [], .null), (.if_icmp .ge 0, [8, 2], .null)]),
  (14, [(.aload 0, [], .null), (.iload 2, [], .null), (.ldc 0, [], .int 1), (.invokevirtual 79, [234, 3, 12, 364], .null), (.iload 1, [], .null), (.ldc 0, [], .int (-1)), (.if_icmp .ne 0, [4, 3], .null)]),
  (25, [(.ldc 0, [], .int 0), (.goto 0, [5], .null)]),
  (29, [(.aload 0, [], .null), (.iload 1, [], .null), (.ldc 0, [], .int 1), (.invokevirtual 79, [234, 3, 12, 364], .null), (.jsr 0, [5], .null)]),
  (35, [(.if_icmp .le 0, [7, 6], .null)]),
  (38, [(.nop, [1], .null), (.iload 2, [], .null), (.istore 1, [], .null), (.jsr 0, [7], .null)]),
  (40, [(.iinc 2 0, [], .int 1), (.goto 0, [1], .null)]),
  (46, [(.nop, [0, 2], .null), (.iload 1, [], .null), (.ireturn, [], .null)])]
def mj_b326 : List (Nat × List mj_I) := [
  (0, [(.ldc 0, [], .int 0), (.istore 1, [], .null), (.ldc 0, [], .int 0), (.istore 2, [], .null), (.jsr 0, [1], .null)]),
  (4, [(.iload 2, [], .null), (.aload 0, [], .null), (.getfield 7, [12, 0, 342], .null), (.ldc 0, [], .int 0), (.iaload, [], .null), (.if_icmp .ge 0, [6, 2], .null)]),
  (14, [(.iload 1, [], .null), (.aload 0, [], .null), (.iload 2, [], .null), (.ldc 0, [], .int 1), (.invokevirtual 79, [234, 3, 12, 364], .null), (.nop, [1], .null), (.ifCond .le 0, [4, 3], .null)]),
  (24, [(.ldc 0, [], .int 1), (.iload 2, [], .null), (.ishl, [], .null), (.goto 0, [5], .null)]),
  (30, [(.ldc 0, [], .int 0), (.jsr 0, [5], .null)]),
  (31, [(.ior, [], .null), (.istore 1, [], .null), (.iinc 2 0, [], .int 1), (.goto 0, [1], .null)]),
  (39, [(.nop, [0, 2], .null), (.iload 1, [], .null), (.ireturn, [], .null)])]
def mj_b327 : List (Nat × List mj_I) := [
  (0, [(.ldc 0, [], .int 0), (.istore 1, [], .null), (.ldc 0, [], .int 0), (.istore 2, [], .null), (.jsr 0, [1], .null)]),
  (4, [(.iload 2, [], .null), (.aload 0, [], .null), (.getfield 7, [12, 0, 342], .null), (.ldc 0, [], .int 0), (.iaload, [], .null), (.if_icmp .ge 0, [6, 2], .null)]),
  (14, [(.iload 1, [], .null), (.aload 0, [], .null), (.aload 0, [], .null), (.iload 2, [], .null), (.invokevirtual 86, [237, 2, 12, 366], .null), (.invokevirtual 307, [238, 2, 12, 434], .null), (.ldc 0, [], .int 1), (.iload 2, [], .null), (.ishl, [], .null), (.nop, [1], .null), (.if_icmp .ne 0, [4, 3], .null)]),
  (30, [(.ldc 0, [], .int 1), (.iload 2, [], .null), (.ishl, [], .null), (.goto 0, [5], .null)]),
  (36, [(.ldc 0, [], .int 0), (.jsr 0, [5], .null)]),
  (37, [(.ior, [], .null), (.istore 1, [], .null), (.iinc 2 0, [], .int 1), (.goto 0, [1], .null)]),
  (45, [(.nop, [0, 2], .null), (.iload 1, [], .null), (.ireturn, [], .null)])]
def mj_b328 : List (Nat × List mj_I) := [
  (0, [(.aload 0, [], .null), (.getfield 7, [12, 0, 342], .null), (.ldc 0, [], .int 49), (.aload 0, [], .null), (.iload 1, [], .null), (.invokevirtual 86, [237, 2, 12, 366], .null), (.iadd, [], .null), (.iaload, [], .null), (.ireturn, [], .null)])]
def mj_b329 : List (Nat × List mj_I) := [
  (0, [(.ldc 0, [], .int (-1)), (.istore 1, [], .null), (.ldc 0, [], .int 0), (.istore 2, [], .null), (.jsr 0, [1], .null)]),
  (4, [(.iload 2, [], .null), (.aload 0, [], .null), (.getfield 7, [12, 0, 342], .null), (.ldc 0, [], .int 0), (.iaload, [], .null), (.if_icmp .ge 0, [6, 2], .null)]),
  (14, [(.iload 1, [], .null), (.ldc 0, [], .int (-1)), (.if_icmp .eq 0, [4, 3], .null)]),
  (19, [(.aload 0, [], .null), (.iload 2, [], .null), (.invokevirtual 401, [328, 2, 12, 466], .null), (.aload 0, [], .null), (.iload 1, [], .null), (.invokevirtual 401, [328, 2, 12, 466], .null), (.if_icmp .le 0, [5, 4], .null)]),
  (32, [(.nop, [1], .null), (.iload 2, [], .null), (.istore 1, [], .null), (.jsr 0, [5], .null)]),
  (34, [(.iinc 2 0, [], .int 1), (.goto 0, [1], .null)]),
  (40, [(.nop, [0, 2], .null), (.iload 1, [], .null), (.ireturn, [], .null)])]
def mj_b330 : List (Nat × List mj_I) := [
  (0, [(.iload 1, [], .null), (.ldc 0, [], .int 1), (.ldc 0, [], .int 60), (.invokestatic 75, [228, 3, 12, 363], .null), (.ifCond .eq 0, [2, 1], .null)]),
  (10, [(.aload 0, [], .null), (.iload 2, [], .null), (.invokevirtual 329, [232, 2, 12, 442], .null), (.ifCond .ne 0, [3, 2], .null)]),
  (18, [(.nop, [0, 1, 2], .null), (.ldc 0, [], .int (-1)), (.ireturn, [], .null)]),
  (20, [(.ldc 0, [], .int 8), (.istore 3, [], .null), (.jsr 0, [4], .null)]),
  (23, [(.iload 3, [], .null), (.ldc 0, [], .int 31), (.if_icmp .ge 0, [6, 5], .null)]),
  (29, [(.aload 0, [], .null), (.getfield 47, [12, 25, 354], .null), (.iload 3, [], .null), (.aload 0, [], .null), (.getfield 7, [12, 0, 342], .null), (.iload 3, [], .null), (.iaload, [], .null), (.iastore, [], .null), (.iinc 3 0, [], .int 1), (.goto 0, [4], .null)]),
  (47, [(.nop, [3], .null), (.aload 0, [], .null), (.ldc 0, [], .int 0), (.putfield 43, [12, 23, 1, 353], .null), (.ldc 0, [], .int 0), (.istore 3, [], .null), (.jsr 0, [7], .null)]),
  (54, [(.iload 3, [], .null), (.iload 1, [], .null), (.if_icmp .ge 0, [11, 8], .null)]),
  (59, [(.aload 0, [], .null), (.getfield 7, [12, 0, 342], .null), (.ldc 0, [], .int 8), (.iaload, [], .null), (.ldc 0, [], .int 9999), (.if_icmp .ge 0, [10, 9], .null)]),
  (72, [(.aload 0, [], .null), (.invokevirtual 368, [305, 1, 12, 455], .null), (.jsr 0, [10], .null)]),
  (76, [(.iinc 3 0, [], .int 1), (.goto 0, [7], .null)]),
  (82, [(.nop, [1, 3], .null), (.aload 0, [], .null), (.iload 2, [], .null), (.ldc 0, [], .int 1), (.invokevirtual 79, [234, 3, 12, 364], .null), (.istore 3, [], .null), (.ldc 0, [], .int 8), (.istore 4, [], .null), (.nop, [2], .null), (.jsr 0, [12], .null)]),
  (93, [(.iload 4, [], .null), (.ldc 0, [], .int 31), (.if_icmp .ge 0, [14, 13], .null)]),
  (100, [(.aload 0, [], .null), (.getfield 7, [12, 0, 342], .null), (.iload 4, [], .null), (.aload 0, [], .null), (.getfield 47, [12, 25, 354], .null), (.iload 4, [], .null), (.iaload, [], .null), (.iastore, [], .null), (.iinc 4 0, [], .int 1), (.goto 0, [12], .null)]),
  (120, [(.nop, [4], .null), (.aload 0, [], .null), (.ldc 0, [], .int 1), (.putfield 43, [12, 23, 1, 353], .null), (.iload 3, [], .null), (.ireturn, [], .null)])]
def mj_b331 : List (Nat × List mj_I) := [
  (0, [(.iload 1, [], .null), (.invokestatic 90, [233, 1, 12, 367], .null), (.ifCond .eq 0, [3, 1], .null)]),
  (7, [(.iload 2, [], .null), (.ldc 0, [], .int 0), (.ldc 404, [467], .int 1000000), (.invokestatic 75, [228, 3, 12, 363], .null), (.ifCond .eq 0, [3, 2], .null)]),
  (18, [(.aload 0, [], .null), (.iload 1, [], .null), (.iload 2, [], .null), (.invokevirtual 83, [236, 3, 12, 365], .null), (.nop, [0, 1, 2], .null), (.goto 0, [4], .null)]),
  (27, [(.nop, [0, 1, 2], .null), (.ldc 0, [], .int (-1)), (.jsr 0, [4], .null)]),
  (28, [(.ireturn, [], .null)])]
def mj_b332 : List (Nat × List mj_I) := [
  (0, [(.ldc 0, [], .int 1), (.istore 2, [], .null), (.jsr 0, [1], .null)]),
  (2, [(.iload 2, [], .null), (.ldc 0, [], .int 8), (.if_icmp .gt 0, [5, 2], .null)]),
  (8, [(.aload 0, [], .null), (.iload 1, [], .null), (.iload 2, [], .null), (.invokevirtual 83, [236, 3, 12, 365], .null), (.iload 1, [], .null), (.if_icmp .ne 0, [4, 3], .null)]),
  (18, [(.nop, [0, 1, 2], .null), (.ldc 0, [], .int 1), (.ireturn, [1], .null)]),
  (20, [(.iinc 2 0, [], .int 1), (.goto 0, [1], .null)]),
  (26, [(.nop, [0, 1, 2], .null), (.ldc 0, [], .int 0), (.ireturn, [1], .null)])]
def mj_b333 : List (Nat × List mj_I) := [
  (0, [(.ldc 0, [], .int 0), (.istore 2, [], .null), (.jsr 0, [1], .null)]),
  (2, [(.aload 0, [], .null), (.aload 0, [], .null), (.iload 1, [], .null), (.iload 2, [], .null), (.invokevirtual 83, [236, 3, 12, 365], .null), (.invokevirtual 405, [332, 2, 12, 468], .null), (.ifCond .ne 0, [3, 2], .null)]),
  (15, [(.iinc 2 0, [], .int 1), (.goto 0, [1], .null)]),
  (21, [(.nop, [0, 1], .null), (.iload 2, [], .null), (.ireturn, [], .null)])]
def mj_b334 : List (Nat × List mj_I) := [
  (0, [(.aload 0, [], .null), (.iload 1, [], .null), (.aload 0, [], .null), (.iload 1, [], .null), (.invokevirtual 408, [333, 2, 12, 469], .null), (.invokevirtual 83, [236, 3, 12, 365], .null), (.istore 2, [], .null), (.ldc 0, [], .int 1), (.istore 3, [], .null), (.nop, [1], .null), (.jsr 0, [1], .null)]),
  (13, [(.aload 0, [], .null), (.iload 2, [], .null), (.iload 3, [], .null), (.invokevirtual 83, [236, 3, 12, 365], .null), (.iload 2, [], .null), (.if_icmp .eq 0, [3, 2], .null)]),
  (23, [(.iinc 3 0, [], .int 1), (.goto 0, [1], .null)]),
  (29, [(.nop, [0, 2], .null), (.iload 3, [], .null), (.ireturn, [], .null)])]
def mj_b335 : List (Nat × List mj_I) := [
  (0, [(.iload 1, [], .null), (.invokestatic 90, [233, 1, 12, 367], .null), (.ifCond .ne 0, [2, 1], .null)]),
  (7, [(.nop, [0, 1, 2], .null), (.ldc 0, [], .int (-1)), (.goto 0, [5], .null)]),
  (11, [(.iload 2, [], .null), (.nop, [2], .null), (.ifCond .eq 0, [4, 3], .null)]),
  (15, [(.aload 0, [], .null), (.iload 1, [], .null), (.invokevirtual 408, [333, 2, 12, 469], .null), (.nop, [0, 1], .null), (.goto 0, [5], .null)]),
  (23, [(.aload 0, [], .null), (.iload 1, [], .null), (.invokevirtual 411, [334, 2, 12, 470], .null), (.nop, [0, 1], .null), (.jsr 0, [5], .null)]),
  (28, [(.ireturn, [], .null)])]
def mj_b336 : List (Nat × List mj_I) := [
  (0, [(.ldc 0, [], .int 0), (.istore 1, [], .null), (.ldc 0, [], .int 0), (.istore 2, [], .null), (.jsr 0, [1], .null)]),
  (4, [(.iload 2, [], .null), (.ldc 0, [], .int 8), (.if_icmp .ge 0, [12, 2], .null)]),
  (10, [(.aload 0, [], .null), (.iload 2, [], .null), (.invokevirtual 405, [332, 2, 12, 468], .null), (.istore 3, [], .null), (.ldc 0, [], .int 1), (.istore 4, [], .null), (.jsr 0, [3], .null)]),
  (19, [(.iload 4, [], .null), (.ldc 0, [], .int 8), (.if_icmp .ge 0, [8, 4], .null)]),
  (26, [(.iload 3, [], .null), (.aload 0, [], .null), (.iload 2, [], .null), (.iload 4, [], .null), (.invokevirtual 83, [236, 3, 12, 365], .null), (.iload 2, [], .null), (.nop, [3], .null), (.if_icmp .lt 0, [6, 5], .null)]),
  (38, [(.ldc 0, [], .int 1), (.goto 0, [7], .null)]),
  (42, [(.ldc 0, [], .int 0), (.jsr 0, [7], .null)]),
  (43, [(.iand, [], .null), (.istore 3, [], .null), (.iinc 4 0, [], .int 1), (.goto 0, [3], .null)]),
  (51, [(.nop, [4], .null), (.iload 1, [], .null), (.iload 3, [], .null), (.nop, [1, 3], .null), (.ifCond .eq 0, [10, 9], .null)]),
  (56, [(.ldc 0, [], .int 1), (.goto 0, [11], .null)]),
  (60, [(.ldc 0, [], .int 0), (.jsr 0, [11], .null)]),
  (61, [(.iadd, [], .null), (.istore 1, [], .null), (.iinc 2 0, [], .int 1), (.goto 0, [1], .null)]),
  (69, [(.nop, [0, 2], .null), (.iload 1, [], .null), (.ireturn, [], .null)])]
def mj_b337 : List (Nat × List mj_I) := [
  (0, [(.iload 1, [], .null), (.ldc 0, [], .int 0), (.ldc 0, [], .int 8), (.invokestatic 75, [228, 3, 12, 363], .null), (.ifCond .ne 0, [2, 1], .null)]),
  (10, [(.nop, [0, 1], .null), (.ldc 0, [], .int (-1)), (.ireturn, [], .null)]),
  (12, [(.ldc 0, [], .int 0), (.istore 2, [], .null), (.ldc 0, [], .int 0), (.istore 3, [], .null), (.jsr 0, [3], .null)]),
  (16, [(.iload 3, [], .null), (.ldc 0, [], .int 8), (.if_icmp .ge 0, [5, 4], .null)]),
  (22, [(.iload 2, [], .null), (.ldc 0, [], .int 1), (.aload 0, [], .null), (.iload 3, [], .null), (.iload 1, [], .null), (.invokevirtual 83, [236, 3, 12, 365], .null), (.ishl, [], .null), (.ior, [], .null), (.istore 2, [], .null), (.iinc 3 0, [], .int 1), (.goto 0, [3], .null)]),
  (39, [(.nop, [0, 1, 3], .null), (.iload 2, [], .null), (.ireturn, [], .null)])]
def mj_b338 : List (Nat × List mj_I) := [
  (0, [(.iload 1, [], .null), (.invokestatic 90, [233, 1, 12, 367], .null), (.ifCond .ne 0, [2, 1], .null)]),
  (7, [(.nop, [0, 1], .null), (.ldc 0, [], .int (-1)), (.ireturn, [], .null)]),
  (9, [(.ldc 0, [], .int 0), (.istore 2, [], .null), (.ldc 0, [], .int 0), (.istore 3, [], .null), (.jsr 0, [3], .null)]),
  (13, [(.iload 3, [], .null), (.ldc 0, [], .int 8), (.if_icmp .ge 0, [8, 4], .null)]),
  (19, [(.iload 2, [], .null), (.aload 0, [], .null), (.getfield 7, [12, 0, 342], .null), (.ldc 0, [], .int 41), (.iload 3, [], .null), (.iadd, [], .null), (.iaload, [], .null), (.iload 1, [], .null), (.nop, [2], .null), (.if_icmp .ne 0, [6, 5], .null)]),
  (33, [(.ldc 0, [], .int 1), (.iload 3, [], .null), (.ishl, [], .null), (.goto 0, [7], .null)]),
  (39, [(.ldc 0, [], .int 0), (.jsr 0, [7], .null)]),
  (40, [(.ior, [], .null), (.istore 2, [], .null), (.iinc 3 0, [], .int 1), (.goto 0, [3], .null)]),
  (48, [(.nop, [0, 1, 3], .null), (.iload 2, [], .null), (.ireturn, [], .null)])]
def mj_b339 : List (Nat × List mj_I) := [
  (0, [(.iload 1, [], .null), (.invokestatic 90, [233, 1, 12, 367], .null), (.ifCond .eq 0, [3, 1], .null)]),
  (7, [(.iload 2, [], .null), (.invokestatic 90, [233, 1, 12, 367], .null), (.ifCond .eq 0, [3, 2], .null)]),
  (14, [(.iload 3, [], .null), (.ldc 0, [], .int 0), (.ldc 0, [], .int 2), (.invokestatic 75, [228, 3, 12, 363], .null), (.ifCond .ne 0, [4, 3], .null)]),
  (23, [(.nop, [0, 1, 2, 3], .null), (.ldc 0, [], .int (-1)), (.ireturn, [], .null)]),
  (25, [(.ldc 0, [], .int 0), (.istore 4, [], .null), (.jsr 0, [5], .null)]),
  (28, [(.iload 4, [], .null), (.ldc 0, [], .int 16), (.if_icmp .ge 0, [17, 6], .null)]),
  (35, [(.ldc 0, [], .int 0), (.istore 5, [], .null), (.jsr 0, [7], .null)]),
  (38, [(.iload 5, [], .null), (.iload 4, [], .null), (.if_icmp .gt 0, [16, 8], .null)]),
  (45, [(.aload 0, [], .null), (.iload 1, [], .null), (.iload 5, [], .null), (.invokevirtual 83, [236, 3, 12, 365], .null), (.aload 0, [], .null), (.iload 2, [], .null), (.iload 4, [], .null), (.iload 5, [], .null), (.isub, [], .null), (.invokevirtual 83, [236, 3, 12, 365], .null), (.if_icmp .ne 0, [15, 9], .null)]),
  (65, [(.nop, [0, 1, 2], .null), (.iload 3, [], .null), (.ifCond .ne 0, [11, 10], .null)]),
  (69, [(.nop, [3, 5], .null), (.iload 4, [], .null), (.nop, [4], .null), (.goto 0, [14], .null)]),
  (74, [(.iload 3, [], .null), (.ldc 0, [], .int 1), (.nop, [3], .null), (.if_icmp .ne 0, [13, 12], .null)]),
  (79, [(.nop, [4], .null), (.iload 5, [], .null), (.nop, [5], .null), (.goto 0, [14], .null)]),
  (84, [(.iload 4, [], .null), (.iload 5, [], .null), (.isub, [], .null), (.nop, [4, 5], .null), (.jsr 0, [14], .null)]),
  (89, [(.ireturn, [], .null)]),
  (90, [(.iinc 5 0, [], .int 1), (.goto 0, [7], .null)]),
  (96, [(.nop, [5], .null), (.iinc 4 0, [], .int 1), (.goto 0, [5], .null)]),
  (102, [(.nop, [0, 1, 2, 3, 4], .null), (.ldc 0, [], .int (-1)), (.ireturn, [], .null)])]
def mj_b340 : List (Nat × List mj_I) := [
  (0, [(.ldc 0, [], .int 0), (.istore 2, [], .null), (.ldc 0, [], .int 1), (.istore 3, [], .null), (.jsr 0, [1], .null)]),
  (4, [(.iload 3, [], .null), (.ldc 0, [], .int 3), (.if_icmp .ge 0, [9, 2], .null)]),
  (9, [(.aload 0, [], .null), (.iload 1, [], .null), (.iload 3, [], .null), (.invokevirtual 83, [236, 3, 12, 365], .null), (.istore 4, [], .null), (.iload 4, [], .null), (.ifCond .eq 0, [4, 3], .null)]),
  (22, [(.aload 0, [], .null), (.getfield 50, [12, 26, 355], .null), (.iload 4, [], .null), (.iaload, [], .null), (.ifCond .ne 0, [5, 4], .null)]),
  (32, [(.nop, [0, 1, 2, 3, 4], .null), (.ldc 0, [], .int 1), (.ireturn, [], .null)]),
  (34, [(.iload 2, [], .null), (.aload 0, [], .null), (.getfield 50, [12, 26, 355], .null), (.iload 4, [], .null), (.iaload, [], .null), (.ldc 0, [], .int 1), (.nop, [2, 4], .null), (.if_icmp .ne 0, [7, 6], .null)]),
  (46, [(.ldc 0, [], .int 1), (.goto 0, [8], .null)]),
  (50, [(.ldc 0, [], .int 0), (.jsr 0, [8], .null)]),
  (51, [(.iadd, [], .null), (.istore 2, [], .null), (.iinc 3 0, [], .int 1), (.goto 0, [1], .null)]),
  (59, [(.nop, [0, 1, 3], .null), (.iload 2, [], .null), (.ldc 0, [], .int 2), (.nop, [2], .null), (.if_icmp .ne 0, [11, 10], .null)]),
  (64, [(.ldc 0, [], .int 0), (.goto 0, [12], .null)]),
  (68, [(.ldc 0, [], .int 2), (.jsr 0, [12], .null)]),
  (69, [(.ireturn, [], .null)])]
def mj_b341 : List (Nat × List mj_I) := [
  (0, [(.ldc 0, [], .int 0), (.istore 1, [], .null), (.jsr 0, [1], .null)]),
  (2, [(.iload 1, [], .null), (.ldc 0, [], .int 8), (.if_icmp .ge 0, [3, 2], .null)]),
  (8, [(.aload 0, [], .null), (.getfield 50, [12, 26, 355], .null), (.iload 1, [], .null), (.ldc 0, [], .int 2), (.iastore, [], .null), (.iinc 1 0, [], .int 1), (.goto 0, [1], .null)]),
  (21, [(.nop, [1], .null), (.ldc 0, [], .int 0), (.istore 1, [], .null), (.jsr 0, [4], .null)]),
  (23, [(.iload 1, [], .null), (.ldc 0, [], .int 8), (.if_icmp .gt 0, [11, 5], .null)]),
  (29, [(.ldc 0, [], .int 0), (.istore 2, [], .null), (.jsr 0, [6], .null)]),
  (31, [(.iload 2, [], .null), (.ldc 0, [], .int 8), (.if_icmp .ge 0, [10, 7], .null)]),
  (37, [(.aload 0, [], .null), (.getfield 50, [12, 26, 355], .null), (.iload 2, [], .null), (.iaload, [], .null), (.ldc 0, [], .int 2), (.if_icmp .ne 0, [9, 8], .null)]),
  (47, [(.aload 0, [], .null), (.getfield 50, [12, 26, 355], .null), (.iload 2, [], .null), (.aload 0, [], .null), (.iload 2, [], .null), (.invokevirtual 414, [340, 2, 12, 471], .null), (.iastore, [], .null), (.jsr 0, [9], .null)]),
  (58, [(.iinc 2 0, [], .int 1), (.goto 0, [6], .null)]),
  (64, [(.nop, [2], .null), (.iinc 1 0, [], .int 1), (.goto 0, [4], .null)]),
  (70, [(.nop, [0, 1], .null), (.return_, [], .null)])]
def mj_b342 : List (Nat × List mj_I) := [
  (0, [(.iload 1, [], .null), (.invokestatic 90, [233, 1, 12, 367], .null), (.ifCond .ne 0, [2, 1], .null)]),
  (7, [(.nop, [0, 1], .null), (.ldc 0, [], .int (-1)), (.ireturn, [], .null)]),
  (9, [(.aload 0, [], .null), (.invokevirtual 417, [341, 1, 12, 472], .null), (.aload 0, [], .null), (.getfield 50, [12, 26, 355], .null), (.iload 1, [], .null), (.iaload, [], .null), (.ireturn, [], .null)])]
def mj_b343 : List (Nat × List mj_I) := [
  (0, [(.iload 1, [], .null), (.invokestatic 90, [233, 1, 12, 367], .null), (.ifCond .ne 0, [2, 1], .null)]),
  (7, [(.nop, [0, 1], .null), (.ldc 0, [], .int (-1)), (.ireturn, [], .null)]),
  (9, [(.aload 0, [], .null), (.invokevirtual 417, [341, 1, 12, 472], .null), (.ldc 0, [], .int 1), (.istore 2, [], .null), (.jsr 0, [3], .null)]),
  (15, [(.iload 2, [], .null), (.ldc 0, [], .int 3), (.if_icmp .ge 0, [8, 4], .null)]),
  (20, [(.aload 0, [], .null), (.iload 1, [], .null), (.iload 2, [], .null), (.invokevirtual 83, [236, 3, 12, 365], .null), (.ifCond .eq 0, [6, 5], .null)]),
  (29, [(.aload 0, [], .null), (.getfield 50, [12, 26, 355], .null), (.aload 0, [], .null), (.iload 1, [], .null), (.iload 2, [], .null), (.invokevirtual 83, [236, 3, 12, 365], .null), (.iaload, [], .null), (.ifCond .ne 0, [7, 6], .null)]),
  (43, [(.nop, [0, 1], .null), (.iload 2, [], .null), (.ireturn, [], .null)]),
  (45, [(.iinc 2 0, [], .int 1), (.goto 0, [3], .null)]),
  (51, [(.nop, [0, 1, 2], .null), (.ldc 0, [], .int (-1)), (.ireturn, [], .null)])]
def mj_b344 : List (Nat × List mj_I) := [
  (0, [(.iload 3, [], .null), (.ldc 0, [], .int (-1)), (.if_icmp .ne 0, [2, 1], .null)]),
  (5, [(.nop, [2, 3, 4], .null), (.aload 0, [], .null), (.getfield 7, [12, 0, 342], .null), (.iload 1, [], .null), (.ldc 0, [], .int 0), (.iastore, [], .null), (.ldc 0, [], .int 0), (.ireturn, [], .null)]),
  (14, [(.iload 3, [], .null), (.ldc 0, [], .int 0), (.ldc 0, [], .int 23), (.invokestatic 75, [228, 3, 12, 363], .null), (.ifCond .eq 0, [5, 3], .null)]),
  (24, [(.iload 4, [], .null), (.iload 3, [], .null), (.ldc 0, [], .int 23), (.invokestatic 75, [228, 3, 12, 363], .null), (.ifCond .eq 0, [5, 4], .null)]),
  (35, [(.aload 0, [], .null), (.getfield 7, [12, 0, 342], .null), (.iload 1, [], .null), (.iaload, [], .null), (.ldc 0, [], .int 6), (.if_icmp .ne 0, [6, 5], .null)]),
  (46, [(.nop, [0, 1, 2, 3, 4], .null), (.ldc 0, [], .int (-2)), (.ireturn, [], .null)]),
  (49, [(.aload 0, [], .null), (.getfield 7, [12, 0, 342], .null), (.iload 2, [], .null), (.ldc 0, [], .int 2), (.aload 0, [], .null), (.getfield 7, [12, 0, 342], .null), (.iload 1, [], .null), (.iaload, [], .null), (.imul, [], .null), (.iadd, [], .null), (.iload 3, [], .null), (.iastore, [], .null), (.aload 0, [], .null), (.getfield 7, [12, 0, 342], .null), (.iload 2, [], .null), (.ldc 0, [], .int 2), (.aload 0, [], .null), (.getfield 7, [12, 0, 342], .null), (.iload 1, [], .null), (.iaload, [], .null), (.imul, [], .null), (.iadd, [], .null), (.ldc 0, [], .int 1), (.iadd, [], .null), (.iload 4, [], .null), (.iastore, [], .null), (.aload 0, [], .null), (.getfield 7, [12, 0, 342], .null), (.iload 1, [], .null), (.dup2, [], .null), (.iaload, [], .null), (.ldc 0, [], .int 1), (.iadd, [], .null), (.iastore, [], .null), (.aload 0, [], .null), (.getfield 7, [12, 0, 342], .null), (.iload 1, [], .null), (.iaload, [], .null), (.ireturn, [], .null)])]
def mj_b345 : List (Nat × List mj_I) := [
  (0, [(.aload 0, [], .null), (.ldc 0, [], .int 4), (.ldc 0, [], .int 57), (.iload 1, [], .null), (.iload 2, [], .null), (.invokevirtual 420, [344, 5, 12, 473], .null), (.ireturn, [], .null)])]
def mj_b346 : List (Nat × List mj_I) := [
  (0, [(.aload 0, [], .null), (.ldc 0, [], .int 5), (.ldc 0, [], .int 69), (.iload 1, [], .null), (.iload 2, [], .null), (.invokevirtual 420, [344, 5, 12, 473], .null), (.ireturn, [], .null)])]
def mj_b347 : List (Nat × List mj_I) := [
  (0, [(.ldc 0, [], .int 0), (.istore 3, [], .null), (.ldc 0, [], .int 0), (.istore 4, [], .null), (.jsr 0, [1], .null)]),
  (5, [(.iload 4, [], .null), (.aload 0, [], .null), (.getfield 7, [12, 0, 342], .null), (.iload 1, [], .null), (.iaload, [], .null), (.if_icmp .ge 0, [6, 2], .null)]),
  (16, [(.aload 0, [], .null), (.getfield 7, [12, 0, 342], .null), (.iload 2, [], .null), (.ldc 0, [], .int 2), (.iload 4, [], .null), (.imul, [], .null), (.iadd, [], .null), (.iaload, [], .null), (.istore 5, [], .null), (.jsr 0, [3], .null)]),
  (29, [(.iload 5, [], .null), (.aload 0, [], .null), (.getfield 7, [12, 0, 342], .null), (.iload 2, [], .null), (.ldc 0, [], .int 2), (.iload 4, [], .null), (.imul, [], .null), (.iadd, [], .null), (.ldc 0, [], .int 1), (.iadd, [], .null), (.iaload, [], .null), (.if_icmp .gt 0, [5, 4], .null)]),
  (47, [(.iload 3, [], .null), (.ldc 0, [], .int 1), (.iload 5, [], .null), (.ishl, [], .null), (.ior, [], .null), (.istore 3, [], .null), (.iinc 5 0, [], .int 1), (.goto 0, [3], .null)]),
  (60, [(.nop, [5], .null), (.iinc 4 0, [], .int 1), (.goto 0, [1], .null)]),
  (66, [(.nop, [0, 1, 2, 4], .null), (.iload 3, [], .null), (.ireturn, [], .null)])]
def mj_b348 : List (Nat × List mj_I) := [
  (0, [(.ldc 0, [], .int 0), (.istore 2, [], .null), (.iload 0, [], .null), (.istore 3, [], .null), (.jsr 0, [1], .null)]),
  (4, [(.iload 3, [], .null), (.iload 0, [], .null), (.iload 1, [], .null), (.iadd, [], .null), (.if_icmp .ge 0, [4, 2], .null)]),
  (11, [(.iload 3, [], .null), (.ldc 0, [], .int 24), (.if_icmp .ge 0, [4, 3], .null)]),
  (17, [(.iload 2, [], .null), (.ldc 0, [], .int 1), (.iload 3, [], .null), (.ishl, [], .null), (.ior, [], .null), (.istore 2, [], .null), (.iinc 3 0, [], .int 1), (.goto 0, [1], .null)]),
  (29, [(.nop, [0, 1, 3], .null), (.iload 2, [], .null), (.ireturn, [], .null)])]
def mj_b349 : List (Nat × List mj_I) := [
  (0, [(.aload 0, [], .null), (.ldc 0, [], .int 4), (.ldc 0, [], .int 57), (.invokevirtual 424, [347, 3, 12, 474], .null), (.istore 2, [], .null), (.aload 0, [], .null), (.ldc 0, [], .int 5), (.ldc 0, [], .int 69), (.invokevirtual 424, [347, 3, 12, 474], .null), (.istore 3, [], .null), (.ldc 0, [], .int 48), (.istore 4, [], .null), (.jsr 0, [1], .null)]),
  (20, [(.iload 4, [], .null), (.ldc 0, [], .int 24), (.if_icmp .lt 0, [3, 2], .null)]),
  (27, [(.aload 0, [], .null), (.getfield 53, [12, 27, 356], .null), (.iload 4, [], .null), (.ldc 0, [], .int 0), (.iastore, [], .null), (.iinc 4 0, [], .int (-1)), (.goto 0, [1], .null)]),
  (41, [(.nop, [4], .null), (.ldc 0, [], .int 23), (.istore 4, [], .null), (.jsr 0, [4], .null)]),
  (45, [(.iload 4, [], .null), (.ifCond .lt 0, [15, 5], .null)]),
  (50, [(.iload 2, [], .null), (.iload 4, [], .null), (.invokestatic 255, [230, 2, 12, 418], .null), (.ifCond .eq 0, [7, 6], .null)]),
  (59, [(.ldc 404, [467], .int 1000000), (.goto 0, [8], .null)]),
  (65, [(.aload 0, [], .null), (.getfield 53, [12, 27, 356], .null), (.iload 4, [], .null), (.ldc 0, [], .int 1), (.iadd, [], .null), (.iaload, [], .null), (.jsr 0, [8], .null)]),
  (74, [(.istore 5, [], .null), (.iload 4, [], .null), (.iload 1, [], .null), (.invokestatic 427, [348, 2, 12, 475], .null), (.iload 3, [], .null), (.iand, [], .null), (.ifCond .eq 0, [10, 9], .null)]),
  (87, [(.ldc 404, [467], .int 1000000), (.goto 0, [11], .null)]),
  (93, [(.aload 0, [], .null), (.getfield 53, [12, 27, 356], .null), (.iload 4, [], .null), (.iload 1, [], .null), (.iadd, [], .null), (.iaload, [], .null), (.ldc 0, [], .int 1), (.iadd, [], .null), (.jsr 0, [11], .null)]),
  (104, [(.istore 6, [], .null), (.aload 0, [], .null), (.getfield 53, [12, 27, 356], .null), (.iload 4, [], .null), (.iload 6, [], .null), (.iload 5, [], .null), (.if_icmp .ge 0, [13, 12], .null)]),
  (119, [(.nop, [5], .null), (.iload 6, [], .null), (.nop, [6], .null), (.goto 0, [14], .null)]),
  (124, [(.nop, [6], .null), (.iload 5, [], .null), (.nop, [5], .null), (.jsr 0, [14], .null)]),
  (126, [(.iastore, [], .null), (.iinc 4 0, [], .int (-1)), (.goto 0, [4], .null)]),
  (133, [(.nop, [0, 1, 2, 3, 4], .null), (.return_, [], .null)])]
def mj_b350 : List (Nat × List mj_I) := [
  (0, [(.iload 1, [], .null), (.iload 2, [], .null), (.invokestatic 427, [348, 2, 12, 475], .null), (.aload 0, [], .null), (.ldc 0, [], .int 5), (.ldc 0, [], .int 69), (.invokevirtual 424, [347, 3, 12, 474], .null), (.iand, [], .null), (.ifCond .ne 0, [3, 1], .null)]),
  (16, [(.aload 0, [], .null), (.getfield 53, [12, 27, 356], .null), (.iload 1, [], .null), (.iload 2, [], .null), (.iadd, [], .null), (.iaload, [], .null), (.iload 3, [], .null), (.ldc 0, [], .int 1), (.isub, [], .null), (.nop, [0, 1, 2, 3], .null), (.if_icmp .ne 0, [3, 2], .null)]),
  (30, [(.ldc 0, [], .int 1), (.goto 0, [4], .null)]),
  (34, [(.nop, [0, 1, 2, 3], .null), (.ldc 0, [], .int 0), (.jsr 0, [4], .null)]),
  (35, [(.ireturn, [1], .null)])]
def mj_b351 : List (Nat × List mj_I) := [
  (0, [(.iload 1, [], .null), (.ldc 0, [], .int 1), (.ldc 0, [], .int 24), (.invokestatic 75, [228, 3, 12, 363], .null), (.ifCond .eq 0, [2, 1], .null)]),
  (10, [(.iload 2, [], .null), (.ldc 0, [], .int (-1)), (.if_icmp .ge 0, [3, 2], .null)]),
  (15, [(.nop, [0, 1, 2], .null), (.ldc 0, [], .int (-2)), (.ireturn, [], .null)]),
  (18, [(.aload 0, [], .null), (.iload 1, [], .null), (.invokevirtual 430, [349, 2, 12, 476], .null), (.aload 0, [], .null), (.getfield 53, [12, 27, 356], .null), (.ldc 0, [], .int 0), (.iaload, [], .null), (.istore 3, [], .null), (.iload 3, [], .null), (.ldc 404, [467], .int 1000000), (.if_icmp .ge 0, [5, 4], .null)]),
  (37, [(.iload 2, [], .null), (.iload 3, [], .null), (.if_icmp .lt 0, [6, 5], .null)]),
  (42, [(.nop, [0, 1, 2, 3], .null), (.ldc 0, [], .int (-2)), (.ireturn, [], .null)]),
  (45, [(.iload 2, [], .null), (.ldc 0, [], .int (-1)), (.if_icmp .ne 0, [8, 7], .null)]),
  (50, [(.nop, [0, 1, 2], .null), (.iload 3, [], .null), (.ireturn, [], .null)]),
  (52, [(.ldc 0, [], .int 0), (.istore 4, [], .null), (.ldc 0, [], .int 0), (.istore 5, [], .null), (.jsr 0, [9], .null)]),
  (58, [(.iload 5, [], .null), (.iload 2, [], .null), (.if_icmp .gt 0, [15, 10], .null)]),
  (64, [(.aload 0, [], .null), (.iload 4, [], .null), (.iload 1, [], .null), (.iload 3, [], .null), (.invokevirtual 433, [350, 4, 12, 477], .null), (.ifCond .ne 0, [12, 11], .null)]),
  (75, [(.iinc 4 0, [], .int 1), (.goto 0, [10], .null)]),
  (81, [(.iload 5, [], .null), (.iload 2, [], .null), (.if_icmp .ne 0, [14, 13], .null)]),
  (87, [(.nop, [0, 1, 2, 3, 5], .null), (.goto 0, [15], .null)]),
  (90, [(.iload 4, [], .null), (.iload 1, [], .null), (.iadd, [], .null), (.istore 4, [], .null), (.iinc 3 0, [], .int (-1)), (.iinc 5 0, [], .int 1), (.goto 0, [9], .null)]),
  (105, [(.nop, [0, 1, 2, 3, 5], .null), (.iload 4, [], .null), (.ireturn, [], .null)])]
def mj_b352 : List (Nat × List mj_I) := [
  (0, [(.iload 1, [], .null), (.ldc 0, [], .int 0), (.ldc 0, [], .int 1), (.invokestatic 75, [228, 3, 12, 363], .null), (.ifCond .ne 0, [2, 1], .null)]),
  (9, [(.nop, [0, 1], .null), (.ldc 0, [], .int (-1)), (.ireturn, [], .null)]),
  (11, [(.ldc 0, [], .int 1), (.istore 2, [], .null), (.jsr 0, [3], .null)]),
  (13, [(.iload 2, [], .null), (.ldc 0, [], .int 25), (.if_icmp .ge 0, [10, 4], .null)]),
  (19, [(.iload 1, [], .null), (.ifCond .ne 0, [6, 5], .null)]),
  (23, [(.iload 2, [], .null), (.goto 0, [7], .null)]),
  (27, [(.ldc 0, [], .int 25), (.iload 2, [], .null), (.isub, [], .null), (.jsr 0, [7], .null)]),
  (31, [(.istore 3, [], .null), (.aload 0, [], .null), (.iload 3, [], .null), (.ldc 0, [], .int (-1)), (.invokevirtual 436, [351, 3, 12, 478], .null), (.ifCond .lt 0, [9, 8], .null)]),
  (41, [(.nop, [0, 1, 2], .null), (.iload 3, [], .null), (.ireturn, [], .null)]),
  (43, [(.nop, [3], .null), (.iinc 2 0, [], .int 1), (.goto 0, [3], .null)]),
  (49, [(.nop, [0, 1, 2], .null), (.ldc 0, [], .int (-1)), (.ireturn, [], .null)])]
def mj_b353 : List (Nat × List mj_I) := [
  (0, [(.iload 1, [], .null), (.ldc 0, [], .int (-1)), (.if_icmp .ne 0, [2, 1], .null)]),
  (5, [(.nop, [1], .null), (.aload 0, [], .null), (.getfield 7, [12, 0, 342], .null), (.ldc 0, [], .int 6), (.ldc 0, [], .int 0), (.iastore, [], .null), (.ldc 0, [], .int 0), (.ireturn, [], .null)]),
  (15, [(.iload 1, [], .null), (.ldc 0, [], .int 0), (.ldc 0, [], .int 6), (.invokestatic 75, [228, 3, 12, 363], .null), (.ifCond .eq 0, [4, 3], .null)]),
  (25, [(.aload 0, [], .null), (.getfield 7, [12, 0, 342], .null), (.ldc 0, [], .int 6), (.iaload, [], .null), (.ldc 0, [], .int 16), (.if_icmp .ne 0, [5, 4], .null)]),
  (37, [(.nop, [0, 1], .null), (.ldc 0, [], .int (-2)), (.ireturn, [], .null)]),
  (40, [(.aload 0, [], .null), (.getfield 7, [12, 0, 342], .null), (.ldc 0, [], .int 81), (.aload 0, [], .null), (.getfield 7, [12, 0, 342], .null), (.ldc 0, [], .int 6), (.iaload, [], .null), (.iadd, [], .null), (.iload 1, [], .null), (.iastore, [], .null), (.aload 0, [], .null), (.getfield 7, [12, 0, 342], .null), (.ldc 0, [], .int 6), (.dup2, [], .null), (.iaload, [], .null), (.ldc 0, [], .int 1), (.iadd, [], .null), (.iastore, [], .null), (.aload 0, [], .null), (.getfield 7, [12, 0, 342], .null), (.ldc 0, [], .int 6), (.iaload, [], .null), (.ireturn, [], .null)])]
def mj_b354 : List (Nat × List mj_I) := [
  (0, [(.ldc 0, [], .int 1), (.istore 1, [], .null), (.jsr 0, [1], .null)]),
  (2, [(.iload 0, [], .null), (.iload 1, [], .null), (.imul, [], .null), (.ldc 0, [], .int 7), (.irem, [], .null), (.ldc 0, [], .int 1), (.if_icmp .eq 0, [3, 2], .null)]),
  (12, [(.iinc 1 0, [], .int 1), (.goto 0, [1], .null)]),
  (18, [(.nop, [0], .null), (.iload 1, [], .null), (.ireturn, [], .null)])]
def mj_b355 : List (Nat × List mj_I) := [
  (0, [(.ldc 0, [], .int 0), (.istore 4, [], .null), (.jsr 0, [1], .null)]),
  (3, [(.iload 4, [], .null), (.ldc 0, [], .int 9), (.if_icmp .ge 0, [3, 2], .null)]),
  (10, [(.aload 0, [], .null), (.getfield 56, [12, 28, 357], .null), (.ldc 0, [], .int 9), (.iload 1, [], .null), (.imul, [], .null), (.iload 4, [], .null), (.iadd, [], .null), (.aload 0, [], .null), (.getfield 56, [12, 28, 357], .null), (.ldc 0, [], .int 9), (.iload 1, [], .null), (.imul, [], .null), (.iload 4, [], .null), (.iadd, [], .null), (.iaload, [], .null), (.ldc 0, [], .int 7), (.iload 3, [], .null), (.isub, [], .null), (.aload 0, [], .null), (.getfield 56, [12, 28, 357], .null), (.ldc 0, [], .int 9), (.iload 2, [], .null), (.imul, [], .null), (.iload 4, [], .null), (.iadd, [], .null), (.iaload, [], .null), (.imul, [], .null), (.iadd, [], .null), (.ldc 0, [], .int 7), (.irem, [], .null), (.iastore, [], .null), (.iinc 4 0, [], .int 1), (.goto 0, [1], .null)]),
  (61, [(.nop, [0, 1, 2, 3, 4], .null), (.return_, [], .null)])]
def mj_b356 : List (Nat × List mj_I) := [
  (0, [(.ldc 0, [], .int 0), (.istore 3, [], .null), (.jsr 0, [1], .null)]),
  (2, [(.iload 3, [], .null), (.ldc 0, [], .int 9), (.if_icmp .ge 0, [3, 2], .null)]),
  (8, [(.aload 0, [], .null), (.getfield 56, [12, 28, 357], .null), (.ldc 0, [], .int 9), (.iload 1, [], .null), (.imul, [], .null), (.iload 3, [], .null), (.iadd, [], .null), (.iaload, [], .null), (.istore 4, [], .null), (.aload 0, [], .null), (.getfield 56, [12, 28, 357], .null), (.ldc 0, [], .int 9), (.iload 1, [], .null), (.imul, [], .null), (.iload 3, [], .null), (.iadd, [], .null), (.aload 0, [], .null), (.getfield 56, [12, 28, 357], .null), (.ldc 0, [], .int 9), (.iload 2, [], .null), (.imul, [], .null), (.iload 3, [], .null), (.iadd, [], .null), (.iaload, [], .null), (.iastore, [], .null), (.aload 0, [], .null), (.getfield 56, [12, 28, 357], .null), (.ldc 0, [], .int 9), (.iload 2, [], .null), (.imul, [], .null), (.iload 3, [], .null), (.iadd, [], .null), (.iload 4, [], .null), (.iastore, [], .null), (.iinc 3 0, [], .int 1), (.nop, [4], .null), (.goto 0, [1], .null)]),
  (62, [(.nop, [0, 1, 2, 3], .null), (.return_, [], .null)])]
def mj_b357 : List (Nat × List mj_I) := [
  (0, [(.aload 0, [], .null), (.getfield 7, [12, 0, 342], .null), (.ldc 0, [], .int 6), (.iaload, [], .null), (.iload 1, [], .null), (.if_icmp .le 0, [2, 1], .null)]),
  (11, [(.aload 0, [], .null), (.getfield 7, [12, 0, 342], .null), (.ldc 0, [], .int 6), (.iaload, [], .null), (.iload 1, [], .null), (.isub, [], .null), (.goto 0, [3], .null)]),
  (23, [(.ldc 0, [], .int 0), (.jsr 0, [3], .null)]),
  (24, [(.istore 2, [], .null), (.ldc 0, [], .int 0), (.istore 3, [], .null), (.jsr 0, [4], .null)]),
  (27, [(.iload 3, [], .null), (.iload 2, [], .null), (.if_icmp .ge 0, [12, 5], .null)]),
  (32, [(.ldc 0, [], .int 0), (.istore 4, [], .null), (.jsr 0, [6], .null)]),
  (35, [(.iload 4, [], .null), (.ldc 0, [], .int 9), (.if_icmp .ge 0, [8, 7], .null)]),
  (42, [(.aload 0, [], .null), (.getfield 56, [12, 28, 357], .null), (.ldc 0, [], .int 9), (.iload 3, [], .null), (.imul, [], .null), (.iload 4, [], .null), (.iadd, [], .null), (.ldc 0, [], .int 0), (.iastore, [], .null), (.iinc 4 0, [], .int 1), (.goto 0, [6], .null)]),
  (61, [(.nop, [4], .null), (.ldc 0, [], .int 0), (.istore 4, [], .null), (.jsr 0, [9], .null)]),
  (64, [(.iload 4, [], .null), (.iload 1, [], .null), (.if_icmp .ge 0, [11, 10], .null)]),
  (70, [(.aload 0, [], .null), (.getfield 56, [12, 28, 357], .null), (.ldc 0, [], .int 9), (.iload 3, [], .null), (.imul, [], .null), (.iload 4, [], .null), (.iadd, [], .null), (.aload 0, [], .null), (.getfield 7, [12, 0, 342], .null), (.ldc 0, [], .int 81), (.iload 3, [], .null), (.iadd, [], .null), (.iload 1, [], .null), (.iadd, [], .null), (.ldc 0, [], .int 1), (.isub, [], .null), (.iload 4, [], .null), (.isub, [], .null), (.iaload, [], .null), (.iastore, [], .null), (.iinc 4 0, [], .int 1), (.goto 0, [9], .null)]),
  (104, [(.nop, [4], .null), (.aload 0, [], .null), (.getfield 56, [12, 28, 357], .null), (.ldc 0, [], .int 9), (.iload 3, [], .null), (.imul, [], .null), (.ldc 0, [], .int 8), (.iadd, [], .null), (.aload 0, [], .null), (.getfield 7, [12, 0, 342], .null), (.ldc 0, [], .int 81), (.iload 3, [], .null), (.iadd, [], .null), (.iload 1, [], .null), (.iadd, [], .null), (.iaload, [], .null), (.iastore, [], .null), (.iinc 3 0, [], .int 1), (.goto 0, [4], .null)]),
  (133, [(.nop, [3], .null), (.ldc 0, [], .int 0), (.istore 3, [], .null), (.iload 1, [], .null), (.ldc 0, [], .int 1), (.isub, [], .null), (.istore 4, [], .null), (.nop, [1], .null), (.jsr 0, [13], .null)]),
  (140, [(.iload 4, [], .null), (.ifCond .lt 0, [31, 14], .null)]),
  (145, [(.aload 0, [], .null), (.getfield 59, [12, 29, 358], .null), (.iload 4, [], .null), (.ldc 0, [], .int (-1)), (.iastore, [], .null), (.iload 3, [], .null), (.istore 5, [], .null), (.jsr 0, [15], .null)]),
  (156, [(.iload 5, [], .null), (.iload 2, [], .null), (.if_icmp .ge 0, [18, 16], .null)]),
  (162, [(.aload 0, [], .null), (.getfield 56, [12, 28, 357], .null), (.ldc 0, [], .int 9), (.iload 5, [], .null), (.imul, [], .null), (.iload 4, [], .null), (.iadd, [], .null), (.iaload, [], .null), (.ifCond .ne 0, [18, 17], .null)]),
  (178, [(.iinc 5 0, [], .int 1), (.goto 0, [15], .null)]),
  (184, [(.iload 5, [], .null), (.iload 2, [], .null), (.if_icmp .lt 0, [20, 19], .null)]),
  (190, [(.nop, [5], .null), (.goto 0, [30], .null)]),
  (193, [(.aload 0, [], .null), (.iload 5, [], .null), (.iload 3, [], .null), (.invokevirtual 439, [356, 3, 12, 479], .null), (.aload 0, [], .null), (.getfield 56, [12, 28, 357], .null), (.ldc 0, [], .int 9), (.iload 3, [], .null), (.imul, [], .null), (.iload 4, [], .null), (.iadd, [], .null), (.iaload, [], .null), (.invokestatic 442, [354, 1, 12, 480], .null), (.istore 6, [], .null), (.ldc 0, [], .int 0), (.istore 7, [], .null), (.nop, [5], .null), (.jsr 0, [21], .null)]),
  (220, [(.iload 7, [], .null), (.ldc 0, [], .int 9), (.if_icmp .ge 0, [23, 22], .null)]),
  (227, [(.aload 0, [], .null), (.getfield 56, [12, 28, 357], .null), (.ldc 0, [], .int 9), (.iload 3, [], .null), (.imul, [], .null), (.iload 7, [], .null), (.iadd, [], .null), (.aload 0, [], .null), (.getfield 56, [12, 28, 357], .null), (.ldc 0, [], .int 9), (.iload 3, [], .null), (.imul, [], .null), (.iload 7, [], .null), (.iadd, [], .null), (.iaload, [], .null), (.iload 6, [], .null), (.imul, [], .null), (.ldc 0, [], .int 7), (.irem, [], .null), (.iastore, [], .null), (.iinc 7 0, [], .int 1), (.goto 0, [21], .null)]),
  (263, [(.nop, [6, 7], .null), (.ldc 0, [], .int 0), (.istore 7, [], .null), (.jsr 0, [24], .null)]),
  (266, [(.iload 7, [], .null), (.iload 2, [], .null), (.if_icmp .ge 0, [29, 25], .null)]),
  (272, [(.iload 7, [], .null), (.iload 3, [], .null), (.if_icmp .eq 0, [28, 26], .null)]),
  (278, [(.aload 0, [], .null), (.getfield 56, [12, 28, 357], .null), (.ldc 0, [], .int 9), (.iload 7, [], .null), (.imul, [], .null), (.iload 4, [], .null), (.iadd, [], .null), (.iaload, [], .null), (.ifCond .eq 0, [28, 27], .null)]),
  (294, [(.aload 0, [], .null), (.iload 7, [], .null), (.iload 3, [], .null), (.aload 0, [], .null), (.getfield 56, [12, 28, 357], .null), (.ldc 0, [], .int 9), (.iload 7, [], .null), (.imul, [], .null), (.iload 4, [], .null), (.iadd, [], .null), (.iaload, [], .null), (.invokevirtual 445, [355, 4, 12, 481], .null), (.jsr 0, [28], .null)]),
  (314, [(.iinc 7 0, [], .int 1), (.goto 0, [24], .null)]),
  (320, [(.nop, [7], .null), (.aload 0, [], .null), (.getfield 59, [12, 29, 358], .null), (.iload 4, [], .null), (.iload 3, [], .null), (.iastore, [], .null), (.iinc 3 0, [], .int 1), (.jsr 0, [30], .null)]),
  (331, [(.iinc 4 0, [], .int (-1)), (.goto 0, [13], .null)]),
  (337, [(.nop, [4], .null), (.iload 3, [], .null), (.istore 4, [], .null), (.jsr 0, [32], .null)]),
  (340, [(.iload 4, [], .null), (.iload 2, [], .null), (.if_icmp .ge 0, [36, 33], .null)]),
  (346, [(.aload 0, [], .null), (.getfield 56, [12, 28, 357], .null), (.ldc 0, [], .int 9), (.iload 4, [], .null), (.imul, [], .null), (.ldc 0, [], .int 8), (.iadd, [], .null), (.iaload, [], .null), (.ifCond .eq 0, [35, 34], .null)]),
  (362, [(.nop, [0, 2, 3, 4], .null), (.ldc 0, [], .int (-1)), (.ireturn, [], .null)]),
  (364, [(.iinc 4 0, [], .int 1), (.goto 0, [32], .null)]),
  (370, [(.nop, [0, 2, 4], .null), (.iload 3, [], .null), (.ireturn, [], .null)])]
def mj_b358 : List (Nat × List mj_I) := [
  (0, [(.aload 0, [], .null), (.iload 1, [], .null), (.invokevirtual 448, [357, 2, 12, 482], .null), (.ldc 0, [], .int (-1)), (.nop, [0, 1], .null), (.if_icmp .eq 0, [2, 1], .null)]),
  (9, [(.ldc 0, [], .int 1), (.goto 0, [3], .null)]),
  (13, [(.ldc 0, [], .int 0), (.jsr 0, [3], .null)]),
  (14, [(.ireturn, [1], .null)])]
def mj_b359 : List (Nat × List mj_I) := [
  (0, [(.ldc 0, [], .int 0), (.istore 1, [], .null), (.jsr 0, [1], .null)]),
  (2, [(.iload 1, [], .null), (.ldc 0, [], .int 8), (.if_icmp .gt 0, [13, 2], .null)]),
  (8, [(.iload 1, [], .null), (.aload 0, [], .null), (.getfield 7, [12, 0, 342], .null), (.ldc 0, [], .int 6), (.iaload, [], .null), (.if_icmp .gt 0, [13, 3], .null)]),
  (19, [(.aload 0, [], .null), (.iload 1, [], .null), (.invokevirtual 451, [358, 2, 12, 483], .null), (.ifCond .ne 0, [5, 4], .null)]),
  (27, [(.goto 0, [12], .null)]),
  (30, [(.ldc 0, [], .int 0), (.istore 2, [], .null), (.jsr 0, [6], .null)]),
  (32, [(.iload 2, [], .null), (.iload 1, [], .null), (.if_icmp .ge 0, [11, 7], .null)]),
  (37, [(.aload 0, [], .null), (.getfield 62, [12, 30, 359], .null), (.iload 2, [], .null), (.ldc 0, [], .int 1), (.iadd, [], .null), (.aload 0, [], .null), (.getfield 59, [12, 29, 358], .null), (.iload 2, [], .null), (.iaload, [], .null), (.ldc 0, [], .int (-1)), (.if_icmp .ne 0, [9, 8], .null)]),
  (54, [(.ldc 0, [], .int 0), (.goto 0, [10], .null)]),
  (58, [(.aload 0, [], .null), (.getfield 56, [12, 28, 357], .null), (.ldc 0, [], .int 9), (.aload 0, [], .null), (.getfield 59, [12, 29, 358], .null), (.iload 2, [], .null), (.iaload, [], .null), (.imul, [], .null), (.ldc 0, [], .int 8), (.iadd, [], .null), (.iaload, [], .null), (.jsr 0, [10], .null)]),
  (75, [(.iastore, [], .null), (.iinc 2 0, [], .int 1), (.goto 0, [6], .null)]),
  (82, [(.nop, [0, 2], .null), (.iload 1, [], .null), (.ireturn, [], .null)]),
  (84, [(.iinc 1 0, [], .int 1), (.goto 0, [1], .null)]),
  (90, [(.nop, [0, 1], .null), (.ldc 0, [], .int (-1)), (.ireturn, [], .null)])]
def mj_b360 : List (Nat × List mj_I) := [
  (0, [(.iload 1, [], .null), (.ldc 0, [], .int 0), (.ldc 0, [], .int 9), (.invokestatic 75, [228, 3, 12, 363], .null), (.ifCond .ne 0, [2, 1], .null)]),
  (10, [(.nop, [0, 1], .null), (.ldc 0, [], .int (-1)), (.ireturn, [], .null)]),
  (12, [(.aload 0, [], .null), (.invokevirtual 454, [359, 1, 12, 484], .null), (.istore 2, [], .null), (.iload 2, [], .null), (.ldc 0, [], .int (-1)), (.if_icmp .eq 0, [4, 3], .null)]),
  (22, [(.iload 1, [], .null), (.ifCond .ne 0, [5, 4], .null)]),
  (26, [(.nop, [0, 1], .null), (.iload 2, [], .null), (.ireturn, [], .null)]),
  (28, [(.iload 1, [], .null), (.ldc 0, [], .int 9), (.if_icmp .ge 0, [10, 6], .null)]),
  (34, [(.iload 1, [], .null), (.iload 2, [], .null), (.nop, [2], .null), (.if_icmp .gt 0, [8, 7], .null)]),
  (39, [(.aload 0, [], .null), (.getfield 62, [12, 30, 359], .null), (.iload 1, [], .null), (.iaload, [], .null), (.nop, [0, 1], .null), (.goto 0, [9], .null)]),
  (48, [(.nop, [0, 1], .null), (.ldc 0, [], .int (-1)), (.jsr 0, [9], .null)]),
  (49, [(.ireturn, [], .null)]),
  (50, [(.nop, [1], .null), (.ldc 0, [], .int 0), (.istore 3, [], .null), (.ldc 0, [], .int 1), (.istore 4, [], .null), (.jsr 0, [11], .null)]),
  (55, [(.iload 4, [], .null), (.iload 2, [], .null), (.if_icmp .gt 0, [13, 12], .null)]),
  (61, [(.iload 3, [], .null), (.aload 0, [], .null), (.getfield 62, [12, 30, 359], .null), (.iload 4, [], .null), (.iaload, [], .null), (.aload 0, [], .null), (.getfield 7, [12, 0, 342], .null), (.ldc 0, [], .int 81), (.aload 0, [], .null), (.getfield 7, [12, 0, 342], .null), (.ldc 0, [], .int 6), (.iaload, [], .null), (.iadd, [], .null), (.iload 4, [], .null), (.isub, [], .null), (.iaload, [], .null), (.imul, [], .null), (.iadd, [], .null), (.istore 3, [], .null), (.iinc 4 0, [], .int 1), (.goto 0, [11], .null)]),
  (96, [(.nop, [0, 2, 4], .null), (.iload 3, [], .null), (.ldc 0, [], .int 7), (.irem, [], .null), (.ireturn, [], .null)])]
def mj_b361 : List (Nat × List mj_I) := [
  (0, [(.iload 1, [], .null), (.ldc 0, [], .int 0), (.ldc 0, [], .int 3), (.invokestatic 75, [228, 3, 12, 363], .null), (.ifCond .ne 0, [2, 1], .null)]),
  (9, [(.nop, [0, 1], .null), (.ldc 0, [], .int (-1)), (.ireturn, [], .null)]),
  (11, [(.aload 0, [], .null), (.iload 1, [], .null), (.invokevirtual 448, [357, 2, 12, 482], .null), (.istore 2, [], .null), (.iload 2, [], .null), (.ldc 0, [], .int (-1)), (.nop, [0], .null), (.if_icmp .ne 0, [4, 3], .null)]),
  (22, [(.ldc 0, [], .int 0), (.goto 0, [5], .null)]),
  (26, [(.ldc 0, [], .int 1), (.jsr 0, [5], .null)]),
  (27, [(.istore 3, [], .null), (.iload 2, [], .null), (.istore 4, [], .null), (.nop, [2], .null), (.jsr 0, [6], .null)]),
  (31, [(.iload 4, [], .null), (.iload 1, [], .null), (.if_icmp .ge 0, [8, 7], .null)]),
  (37, [(.iload 3, [], .null), (.ldc 0, [], .int 7), (.imul, [], .null), (.istore 3, [], .null), (.iinc 4 0, [], .int 1), (.goto 0, [6], .null)]),
  (48, [(.nop, [1, 4], .null), (.iload 3, [], .null), (.ireturn, [], .null)])]
def mj_b362 : List (Nat × List mj_I) := [
  (0, [(.iload 0, [], .null), (.ldc 0, [], .int 9), (.imul, [], .null), (.iload 1, [], .null), (.iadd, [], .null), (.ldc 0, [], .int 21), (.imul, [], .null), (.iload 2, [], .null), (.iadd, [], .null), (.ireturn, [], .null)])]
def mj_b363 : List (Nat × List mj_I) := [
  (0, [(.iload 3, [], .null), (.iload 5, [], .null), (.ldc 0, [], .int 1), (.nop, [3], .null), (.if_icmp .ne 0, [2, 1], .null)]),
  (7, [(.ldc 0, [], .int 1), (.goto 0, [5], .null)]),
  (11, [(.iload 5, [], .null), (.ldc 0, [], .int 2), (.if_icmp .ne 0, [4, 3], .null)]),
  (17, [(.ldc 0, [], .int (-1)), (.goto 0, [5], .null)]),
  (21, [(.ldc 0, [], .int 0), (.jsr 0, [5], .null)]),
  (22, [(.iadd, [], .null), (.istore 6, [], .null), (.iload 4, [], .null), (.iload 5, [], .null), (.ldc 0, [], .int 1), (.nop, [4, 5], .null), (.if_icmp .ne 0, [7, 6], .null)]),
  (33, [(.ldc 0, [], .int 1), (.goto 0, [8], .null)]),
  (37, [(.ldc 0, [], .int 0), (.jsr 0, [8], .null)]),
  (38, [(.isub, [], .null), (.istore 7, [], .null), (.iload 6, [], .null), (.ldc 0, [], .int 0), (.ldc 0, [], .int 8), (.invokestatic 75, [228, 3, 12, 363], .null), (.ifCond .eq 0, [11, 9], .null)]),
  (52, [(.iload 7, [], .null), (.ifCond .lt 0, [11, 10], .null)]),
  (57, [(.aload 0, [], .null), (.getfield 7, [12, 0, 342], .null), (.ldc 0, [], .int 49), (.aload 0, [], .null), (.iload 1, [], .null), (.iload 6, [], .null), (.invokevirtual 83, [236, 3, 12, 365], .null), (.iadd, [], .null), (.iaload, [], .null), (.aload 0, [], .null), (.getfield 65, [12, 31, 360], .null), (.iload 2, [], .null), (.ldc 0, [], .int 1), (.isub, [], .null), (.iload 6, [], .null), (.iload 7, [], .null), (.invokestatic 457, [362, 3, 12, 485], .null), (.iaload, [], .null), (.iadd, [], .null), (.nop, [0, 1, 2, 6, 7], .null), (.goto 0, [12], .null)]),
  (91, [(.nop, [0, 1, 2, 6, 7], .null), (.ldc 460, [486], .int (-1000000)), (.jsr 0, [12], .null)]),
  (94, [(.ireturn, [], .null)])]
def mj_b364 : List (Nat × List mj_I) := [
  (0, [(.ldc 0, [], .int 0), (.istore 3, [], .null), (.jsr 0, [1], .null)]),
  (2, [(.iload 3, [], .null), (.iload 2, [], .null), (.if_icmp .gt 0, [19, 2], .null)]),
  (7, [(.ldc 0, [], .int 0), (.istore 4, [], .null), (.jsr 0, [3], .null)]),
  (10, [(.iload 4, [], .null), (.ldc 0, [], .int 8), (.if_icmp .gt 0, [18, 4], .null)]),
  (17, [(.ldc 0, [], .int 0), (.istore 5, [], .null), (.jsr 0, [5], .null)]),
  (20, [(.iload 5, [], .null), (.ldc 0, [], .int 20), (.if_icmp .gt 0, [17, 6], .null)]),
  (27, [(.iload 3, [], .null), (.ifCond .ne 0, [8, 7], .null)]),
  (31, [(.ldc 0, [], .int 0), (.goto 0, [9], .null)]),
  (35, [(.ldc 460, [486], .int (-1000000)), (.jsr 0, [9], .null)]),
  (38, [(.istore 6, [], .null), (.ldc 0, [], .int 0), (.istore 7, [], .null), (.jsr 0, [10], .null)]),
  (43, [(.iload 7, [], .null), (.ldc 0, [], .int 3), (.if_icmp .ge 0, [16, 11], .null)]),
  (49, [(.iload 3, [], .null), (.ifCond .le 0, [16, 12], .null)]),
  (53, [(.aload 0, [], .null), (.iload 1, [], .null), (.iload 3, [], .null), (.iload 4, [], .null), (.iload 5, [], .null), (.iload 7, [], .null), (.invokevirtual 461, [363, 6, 12, 487], .null), (.iload 6, [], .null), (.if_icmp .le 0, [14, 13], .null)]),
  (70, [(.nop, [6], .null), (.aload 0, [], .null), (.iload 1, [], .null), (.iload 3, [], .null), (.iload 4, [], .null), (.iload 5, [], .null), (.iload 7, [], .null), (.invokevirtual 461, [363, 6, 12, 487], .null), (.goto 0, [15], .null)]),
  (85, [(.iload 6, [], .null), (.nop, [6], .null), (.jsr 0, [15], .null)]),
  (87, [(.istore 6, [], .null), (.iinc 7 0, [], .int 1), (.goto 0, [10], .null)]),
  (95, [(.nop, [7], .null), (.aload 0, [], .null), (.getfield 65, [12, 31, 360], .null), (.iload 3, [], .null), (.iload 4, [], .null), (.iload 5, [], .null), (.invokestatic 457, [362, 3, 12, 485], .null), (.iload 6, [], .null), (.iastore, [], .null), (.iinc 5 0, [], .int 1), (.nop, [6], .null), (.goto 0, [5], .null)]),
  (116, [(.nop, [5], .null), (.iinc 4 0, [], .int 1), (.goto 0, [3], .null)]),
  (122, [(.nop, [4], .null), (.iinc 3 0, [], .int 1), (.goto 0, [1], .null)]),
  (128, [(.nop, [0, 1, 2, 3], .null), (.return_, [], .null)])]
def mj_b365 : List (Nat × List mj_I) := [
  (0, [(.aload 0, [], .null), (.iload 1, [], .null), (.ldc 0, [], .int 2), (.invokevirtual 79, [234, 3, 12, 364], .null), (.i2l, [], .null), (.ldc 0, [], .int 0), (.ldc 0, [], .int 20), (.invokestatic 303, [229, 3, 12, 433], .null), (.ireturn, [], .null)])]
def mj_b366 : List (Nat × List mj_I) := [
  (0, [(.aload 0, [], .null), (.iload 1, [], .null), (.invokevirtual 329, [232, 2, 12, 442], .null), (.ifCond .eq 0, [2, 1], .null)]),
  (8, [(.iload 2, [], .null), (.ldc 0, [], .int 0), (.ldc 0, [], .int 20), (.invokestatic 75, [228, 3, 12, 363], .null), (.ifCond .ne 0, [3, 2], .null)]),
  (18, [(.nop, [0, 1, 2], .null), (.ldc 0, [], .int (-10000)), (.ireturn, [], .null)]),
  (22, [(.aload 0, [], .null), (.aload 0, [], .null), (.iload 1, [], .null), (.ldc 0, [], .int 0), (.invokevirtual 79, [234, 3, 12, 364], .null), (.iload 2, [], .null), (.invokevirtual 464, [364, 3, 12, 488], .null), (.aload 0, [], .null), (.getfield 65, [12, 31, 360], .null), (.iload 2, [], .null), (.aload 0, [], .null), (.iload 1, [], .null), (.ldc 0, [], .int 1), (.invokevirtual 79, [234, 3, 12, 364], .null), (.aload 0, [], .null), (.iload 1, [], .null), (.invokevirtual 467, [365, 2, 12, 489], .null), (.invokestatic 457, [362, 3, 12, 485], .null), (.iaload, [], .null), (.ireturn, [], .null)])]
def mj_b367 : List (Nat × List mj_I) := [
  (0, [(.aload 0, [], .null), (.iload 1, [], .null), (.invokevirtual 329, [232, 2, 12, 442], .null), (.ifCond .eq 0, [2, 1], .null)]),
  (8, [(.iload 2, [], .null), (.ldc 0, [], .int 1), (.ldc 0, [], .int 20), (.invokestatic 75, [228, 3, 12, 363], .null), (.ifCond .ne 0, [3, 2], .null)]),
  (18, [(.nop, [0, 1, 2], .null), (.ldc 0, [], .int (-1)), (.ireturn, [], .null)]),
  (20, [(.aload 0, [], .null), (.iload 1, [], .null), (.iload 2, [], .null), (.invokevirtual 470, [366, 3, 12, 490], .null), (.istore 3, [], .null), (.ldc 0, [], .int 0), (.istore 4, [], .null), (.jsr 0, [4], .null)]),
  (30, [(.aload 0, [], .null), (.aload 0, [], .null), (.iload 1, [], .null), (.ldc 0, [], .int 0), (.invokevirtual 79, [234, 3, 12, 364], .null), (.iload 2, [], .null), (.aload 0, [], .null), (.iload 1, [], .null), (.ldc 0, [], .int 1), (.invokevirtual 79, [234, 3, 12, 364], .null), (.aload 0, [], .null), (.iload 1, [], .null), (.invokevirtual 467, [365, 2, 12, 489], .null), (.iload 4, [], .null), (.invokevirtual 461, [363, 6, 12, 487], .null), (.iload 3, [], .null), (.if_icmp .eq 0, [6, 5], .null)]),
  (58, [(.iinc 4 0, [], .int 1), (.goto 0, [4], .null)]),
  (64, [(.nop, [0, 1, 2, 3], .null), (.iload 4, [], .null), (.ireturn, [], .null)])]
def mj_b368 : List (Nat × List mj_I) := [
  (0, [(.lload 0, [], .null), (.lstore 4, [], .null), (.lload 2, [], .null), (.lstore 6, [], .null), (.nop, [0, 2], .null), (.jsr 0, [1], .null)]),
  (6, [(.lload 6, [], .null), (.ldc 0, [], .long 0), (.lcmp, [], .null), (.ifCond .eq 0, [3, 2], .null)]),
  (13, [(.lload 4, [], .null), (.lload 6, [], .null), (.lrem, [], .null), (.lstore 8, [], .null), (.lload 6, [], .null), (.lstore 4, [], .null), (.lload 8, [], .null), (.lstore 6, [], .null), (.nop, [8], .null), (.goto 0, [1], .null)]),
  (31, [(.nop, [6], .null), (.lload 4, [], .null), (.lreturn, [], .null)])]
def mj_b369 : List (Nat × List mj_I) := [
  (0, [(.aload 0, [], .null), (.iload 1, [], .null), (.invokevirtual 329, [232, 2, 12, 442], .null), (.ifCond .eq 0, [3, 1], .null)]),
  (8, [(.iload 2, [], .null), (.ldc 0, [], .int 0), (.ldc 0, [], .int 6), (.invokestatic 75, [228, 3, 12, 363], .null), (.ifCond .eq 0, [3, 2], .null)]),
  (18, [(.iload 3, [], .null), (.ldc 0, [], .int 0), (.ldc 0, [], .int 8), (.invokestatic 75, [228, 3, 12, 363], .null), (.ifCond .ne 0, [4, 3], .null)]),
  (28, [(.nop, [0, 1, 2, 3, 4], .null), (.ldc 473, [491], .long (-1)), (.lreturn, [], .null)]),
  (32, [(.aload 0, [], .null), (.aload 0, [], .null), (.getfield 7, [12, 0, 342], .null), (.ldc 0, [], .int 2), (.iaload, [], .null), (.iload 1, [], .null), (.invokevirtual 341, [295, 3, 12, 446], .null), (.istore 5, [], .null), (.ldc 0, [], .int 0), (.istore 6, [], .null), (.jsr 0, [5], .null)]),
  (48, [(.iload 6, [], .null), (.ldc 0, [], .int 8), (.if_icmp .gt 0, [10, 6], .null)]),
  (55, [(.aload 0, [], .null), (.getfield 68, [12, 32, 361], .null), (.iload 6, [], .null), (.iload 6, [], .null), (.aload 0, [], .null), (.iload 1, [], .null), (.ldc 0, [], .int 1), (.invokevirtual 79, [234, 3, 12, 364], .null), (.if_icmp .ne 0, [8, 7], .null)]),
  (72, [(.ldc 0, [], .long 1), (.goto 0, [9], .null)]),
  (76, [(.ldc 0, [], .long 0), (.jsr 0, [9], .null)]),
  (77, [(.lastore, [], .null), (.iinc 6 0, [], .int 1), (.goto 0, [5], .null)]),
  (84, [(.nop, [1, 6], .null), (.ldc 0, [], .long 1), (.lstore 6, [], .null), (.ldc 0, [], .int 0), (.istore 8, [], .null), (.jsr 0, [11], .null)]),
  (90, [(.iload 8, [], .null), (.iload 2, [], .null), (.if_icmp .ge 0, [22, 12], .null)]),
  (96, [(.ldc 0, [], .int 0), (.istore 9, [], .null), (.jsr 0, [13], .null)]),
  (99, [(.iload 9, [], .null), (.ldc 0, [], .int 8), (.if_icmp .gt 0, [21, 14], .null)]),
  (106, [(.aload 0, [], .null), (.getfield 68, [12, 32, 361], .null), (.iload 9, [], .null), (.aload 0, [], .null), (.getfield 68, [12, 32, 361], .null), (.iload 9, [], .null), (.laload, [], .null), (.iload 9, [], .null), (.ifCond .ne 0, [16, 15], .null)]),
  (124, [(.ldc 0, [], .int 10), (.goto 0, [17], .null)]),
  (129, [(.ldc 0, [], .int 10), (.iload 5, [], .null), (.isub, [], .null), (.jsr 0, [17], .null)]),
  (134, [(.i2l, [], .null), (.lmul, [], .null), (.iload 9, [], .null), (.ldc 0, [], .int 8), (.if_icmp .ge 0, [19, 18], .null)]),
  (143, [(.aload 0, [], .null), (.getfield 68, [12, 32, 361], .null), (.iload 9, [], .null), (.ldc 0, [], .int 1), (.iadd, [], .null), (.laload, [], .null), (.iload 5, [], .null), (.i2l, [], .null), (.lmul, [], .null), (.goto 0, [20], .null)]),
  (159, [(.ldc 0, [], .long 0), (.jsr 0, [20], .null)]),
  (160, [(.ladd, [], .null), (.lastore, [], .null), (.iinc 9 0, [], .int 1), (.goto 0, [13], .null)]),
  (168, [(.nop, [9], .null), (.lload 6, [], .null), (.ldc 475, [492], .long 10), (.lmul, [], .null), (.lstore 6, [], .null), (.iinc 8 0, [], .int 1), (.goto 0, [11], .null)]),
  (182, [(.nop, [2, 5, 8], .null), (.iload 4, [], .null), (.nop, [4], .null), (.ifCond .eq 0, [24, 23], .null)]),
  (187, [(.lload 6, [], .null), (.goto 0, [25], .null)]),
  (192, [(.aload 0, [], .null), (.getfield 68, [12, 32, 361], .null), (.iload 3, [], .null), (.laload, [], .null), (.jsr 0, [25], .null)]),
  (198, [(.aload 0, [], .null), (.getfield 68, [12, 32, 361], .null), (.iload 3, [], .null), (.laload, [], .null), (.lload 6, [], .null), (.invokestatic 477, [368, 2, 12, 493], .null), (.ldiv, [], .null), (.lreturn, [], .null)])]
def mj_b370 : List (Nat × List mj_I) := [
  (0, [(.aload 0, [], .null), (.iload 1, [], .null), (.invokevirtual 329, [232, 2, 12, 442], .null), (.ifCond .ne 0, [2, 1], .null)]),
  (8, [(.nop, [0, 1, 2], .null), (.ldc 0, [], .int (-1)), (.ireturn, [], .null)]),
  (10, [(.aload 0, [], .null), (.aload 0, [], .null), (.getfield 7, [12, 0, 342], .null), (.ldc 0, [], .int 2), (.iaload, [], .null), (.iload 1, [], .null), (.invokevirtual 341, [295, 3, 12, 446], .null), (.istore 3, [], .null), (.ldc 0, [], .int 10), (.aload 0, [], .null), (.iload 1, [], .null), (.ldc 0, [], .int 1), (.invokevirtual 79, [234, 3, 12, 364], .null), (.imul, [], .null), (.istore 4, [], .null), (.iload 4, [], .null), (.nop, [0, 1], .null), (.ifCond .ne 0, [7, 3], .null)]),
  (38, [(.nop, [3, 4], .null), (.iload 2, [], .null), (.nop, [2], .null), (.ifCond .eq 0, [5, 4], .null)]),
  (42, [(.ldc 0, [], .int 1), (.goto 0, [6], .null)]),
  (46, [(.ldc 0, [], .int 0), (.jsr 0, [6], .null)]),
  (47, [(.ireturn, [], .null)]),
  (48, [(.iload 3, [], .null), (.ifCond .ne 0, [9, 8], .null)]),
  (52, [(.nop, [2, 3, 4], .null), (.ldc 0, [], .int (-1)), (.goto 0, [13], .null)]),
  (56, [(.iload 2, [], .null), (.nop, [2], .null), (.ifCond .eq 0, [11, 10], .null)]),
  (60, [(.iload 3, [], .null), (.goto 0, [12], .null)]),
  (64, [(.iload 4, [], .null), (.jsr 0, [12], .null)]),
  (66, [(.i2l, [], .null), (.iload 4, [], .null), (.i2l, [], .null), (.iload 3, [], .null), (.i2l, [], .null), (.invokestatic 477, [368, 2, 12, 493], .null), (.ldiv, [], .null), (.l2i, [], .null), (.nop, [3, 4], .null), (.jsr 0, [13], .null)]),
  (77, [(.ireturn, [], .null)])]
def mj_b371 : List (Nat × List mj_I) := [
  (0, [(.iload 1, [], .null), (.ldc 0, [], .int (-1)), (.if_icmp .ne 0, [2, 1], .null)]),
  (5, [(.nop, [1, 2], .null), (.aload 0, [], .null), (.getfield 7, [12, 0, 342], .null), (.ldc 0, [], .int 7), (.ldc 0, [], .int 0), (.iastore, [], .null), (.ldc 0, [], .int 0), (.ireturn, [], .null)]),
  (15, [(.aload 0, [], .null), (.iload 1, [], .null), (.invokevirtual 329, [232, 2, 12, 442], .null), (.ifCond .eq 0, [5, 3], .null)]),
  (23, [(.iload 2, [], .null), (.ldc 0, [], .int 0), (.ldc 0, [], .int 10), (.invokestatic 75, [228, 3, 12, 363], .null), (.ifCond .eq 0, [5, 4], .null)]),
  (33, [(.aload 0, [], .null), (.getfield 7, [12, 0, 342], .null), (.ldc 0, [], .int 7), (.iaload, [], .null), (.ldc 0, [], .int 8), (.if_icmp .ne 0, [6, 5], .null)]),
  (45, [(.nop, [0, 1, 2], .null), (.ldc 0, [], .int (-2)), (.ireturn, [], .null)]),
  (48, [(.aload 0, [], .null), (.getfield 7, [12, 0, 342], .null), (.ldc 0, [], .int 97), (.ldc 0, [], .int 2), (.aload 0, [], .null), (.getfield 7, [12, 0, 342], .null), (.ldc 0, [], .int 7), (.iaload, [], .null), (.imul, [], .null), (.iadd, [], .null), (.iload 1, [], .null), (.iastore, [], .null), (.aload 0, [], .null), (.getfield 7, [12, 0, 342], .null), (.ldc 0, [], .int 97), (.ldc 0, [], .int 2), (.aload 0, [], .null), (.getfield 7, [12, 0, 342], .null), (.ldc 0, [], .int 7), (.iaload, [], .null), (.imul, [], .null), (.iadd, [], .null), (.ldc 0, [], .int 1), (.iadd, [], .null), (.iload 2, [], .null), (.iastore, [], .null), (.aload 0, [], .null), (.getfield 7, [12, 0, 342], .null), (.ldc 0, [], .int 7), (.dup2, [], .null), (.iaload, [], .null), (.ldc 0, [], .int 1), (.iadd, [], .null), (.iastore, [], .null), (.aload 0, [], .null), (.getfield 7, [12, 0, 342], .null), (.ldc 0, [], .int 7), (.iaload, [], .null), (.ireturn, [], .null)])]
def mj_b372 : List (Nat × List mj_I) := [
  (0, [(.ldc 0, [], .int 0), (.istore 1, [], .null), (.ldc 0, [], .int 0), (.istore 2, [], .null), (.jsr 0, [1], .null)]),
  (4, [(.iload 2, [], .null), (.aload 0, [], .null), (.getfield 7, [12, 0, 342], .null), (.ldc 0, [], .int 1), (.iaload, [], .null), (.if_icmp .ge 0, [13, 2], .null)]),
  (14, [(.ldc 0, [], .int 1), (.istore 3, [], .null), (.ldc 0, [], .int 97), (.istore 4, [], .null), (.jsr 0, [3], .null)]),
  (20, [(.iload 4, [], .null), (.ldc 0, [], .int 97), (.ldc 0, [], .int 2), (.aload 0, [], .null), (.getfield 7, [12, 0, 342], .null), (.ldc 0, [], .int 7), (.iaload, [], .null), (.imul, [], .null), (.iadd, [], .null), (.if_icmp .ge 0, [9, 4], .null)]),
  (37, [(.iload 3, [], .null), (.nop, [3], .null), (.ifCond .eq 0, [7, 5], .null)]),
  (41, [(.aload 0, [], .null), (.iload 2, [], .null), (.aload 0, [], .null), (.getfield 7, [12, 0, 342], .null), (.iload 4, [], .null), (.iaload, [], .null), (.invokevirtual 341, [295, 3, 12, 446], .null), (.aload 0, [], .null), (.getfield 7, [12, 0, 342], .null), (.iload 4, [], .null), (.ldc 0, [], .int 1), (.iadd, [], .null), (.iaload, [], .null), (.if_icmp .ne 0, [7, 6], .null)]),
  (65, [(.ldc 0, [], .int 1), (.goto 0, [8], .null)]),
  (69, [(.ldc 0, [], .int 0), (.jsr 0, [8], .null)]),
  (70, [(.istore 3, [], .null), (.iinc 4 0, [], .int 2), (.goto 0, [3], .null)]),
  (77, [(.nop, [4], .null), (.iload 1, [], .null), (.iload 3, [], .null), (.nop, [1, 3], .null), (.ifCond .eq 0, [11, 10], .null)]),
  (82, [(.ldc 0, [], .int 1), (.iload 2, [], .null), (.ishl, [], .null), (.goto 0, [12], .null)]),
  (88, [(.ldc 0, [], .int 0), (.jsr 0, [12], .null)]),
  (89, [(.ior, [], .null), (.istore 1, [], .null), (.iinc 2 0, [], .int 1), (.goto 0, [1], .null)]),
  (97, [(.nop, [0, 2], .null), (.iload 1, [], .null), (.ireturn, [], .null)])]
def mj_b373 : List (Nat × List mj_I) := [
  (0, [(.aload 0, [], .null), (.getfield 7, [12, 0, 342], .null), (.aload 0, [], .null), (.getfield 13, [12, 1, 343], .null), (.invokestatic 71, [227, 2, 12, 362], .null), (.aload 0, [], .null), (.getfield 7, [12, 0, 342], .null), (.ldc 0, [], .int 8), (.iaload, [], .null), (.ireturn, [], .null)])]
def mj_b374 : List (Nat × List mj_I) := [
  (0, [(.aload 0, [], .null), (.getfield 13, [12, 1, 343], .null), (.aload 0, [], .null), (.getfield 7, [12, 0, 342], .null), (.invokestatic 71, [227, 2, 12, 362], .null), (.aload 0, [], .null), (.getfield 7, [12, 0, 342], .null), (.ldc 0, [], .int 8), (.iaload, [], .null), (.ireturn, [], .null)])]
def mj_b375 : List (Nat × List mj_I) := [
  (0, [(.iload 1, [], .null), (.ldc 0, [], .int 0), (.ldc 0, [], .int 7), (.invokestatic 75, [228, 3, 12, 363], .null), (.ifCond .eq 0, [2, 1], .null)]),
  (10, [(.aload 0, [], .null), (.getfield 7, [12, 0, 342], .null), (.iload 1, [], .null), (.iaload, [], .null), (.nop, [0, 1], .null), (.goto 0, [5], .null)]),
  (19, [(.iload 1, [], .null), (.ldc 0, [], .int 8), (.nop, [1], .null), (.if_icmp .ne 0, [4, 3], .null)]),
  (25, [(.aload 0, [], .null), (.getfield 102, [12, 4, 370], .null), (.nop, [0], .null), (.goto 0, [5], .null)]),
  (32, [(.nop, [0], .null), (.ldc 0, [], .int (-2)), (.jsr 0, [5], .null)]),
  (34, [(.ireturn, [], .null)])]
def mj_b376 : List (Nat × List mj_I) := [
  (0, [(.iload 0, [], .null), (.iload 0, [], .null), (.ldc 0, [], .int 1), (.iushr, [], .null), (.ldc 265, [494], .int 1431655765), (.iand, [], .null), (.isub, [], .null), (.istore 0, [], .null), (.iload 0, [], .null), (.ldc 266, [495], .int 858993459), (.iand, [], .null), (.iload 0, [], .null), (.ldc 0, [], .int 2), (.iushr, [], .null), (.ldc 266, [495], .int 858993459), (.iand, [], .null), (.iadd, [], .null), (.istore 0, [], .null), (.iload 0, [], .null), (.iload 0, [], .null), (.ldc 0, [], .int 4), (.iushr, [], .null), (.iadd, [], .null), (.ldc 267, [496], .int 252645135), (.iand, [], .null), (.istore 0, [], .null), (.iload 0, [], .null), (.iload 0, [], .null), (.ldc 0, [], .int 8), (.iushr, [], .null), (.iadd, [], .null), (.istore 0, [], .null), (.iload 0, [], .null), (.iload 0, [], .null), (.ldc 0, [], .int 16), (.iushr, [], .null), (.iadd, [], .null), (.istore 0, [], .null), (.iload 0, [], .null), (.ldc 0, [], .int 63), (.iand, [], .null), (.ireturn, [], .null)])]
def mj_b377 : List (Nat × List mj_I) := [
  (0, [(.iload 1, [], .null), (.aload 0, [], .null), (.arraylength, [], .null), (.if_icmp .ne 0, [2, 1], .null)]),
  (6, [(.nop, [1], .null), (.aload 0, [], .null), (.invokedynamic 316, [4, 1, 497], .null), (.checkcast 317, [498], .null), (.areturn, [], .null)]),
  (14, [(.iload 1, [], .null), (.newarray .int, [0, 1], .null), (.astore 2, [], .null), (.aload 0, [], .null), (.ldc 0, [], .int 0), (.aload 2, [], .null), (.ldc 0, [], .int 0), (.aload 0, [], .null), (.arraylength, [], .null), (.iload 1, [], .null), (.invokedynamic 304, [1, 2, 499], .null), (.invokedynamic 150, [5, 5, 500], .null), (.aload 2, [], .null), (.areturn, [], .null)])]
def mj_b378 : List (Nat × List mj_I) := [
  (0, [(.ldc 0, [], .int 0), (.istore 2, [], .null), (.aload 0, [], .null), (.arraylength, [], .null), (.istore 3, [], .null), (.jsr 0, [1], .null)]),
  (5, [(.iload 2, [], .null), (.iload 3, [], .null), (.if_icmp .ge 0, [3, 2], .null)]),
  (10, [(.aload 0, [], .null), (.iload 2, [], .null), (.iload 1, [], .null), (.iastore, [], .null), (.iinc 2 0, [], .int 1), (.goto 0, [1], .null)]),
  (20, [(.nop, [0, 1, 2, 3], .null), (.return_, [], .null)])]
def mj_b379 : List (Nat × List mj_I) := [
  (0, [(.ldc 0, [], .int 0), (.istore 3, [], .null), (.aload 0, [], .null), (.arraylength, [], .null), (.istore 4, [], .null), (.jsr 0, [1], .null)]),
  (6, [(.iload 3, [], .null), (.iload 4, [], .null), (.if_icmp .ge 0, [3, 2], .null)]),
  (12, [(.aload 0, [], .null), (.iload 3, [], .null), (.lload 1, [], .null), (.lastore, [], .null), (.iinc 3 0, [], .int 1), (.goto 0, [1], .null)]),
  (22, [(.nop, [0, 1, 3, 4], .null), (.return_, [], .null)])]
def mj_b380 : List (Nat × List mj_I) := [
  (0, [(.aload 0, [], .null), (.invokevirtual 492, [385, 1, 16, 501], .null), (.ifCond .eq 0, [2, 1], .null)]),
  (7, [(.aload 0, [], .null), (.getfield 9, [16, 0, 502], .null), (.iload 1, [], .null), (.invokestatic 495, [388, 2, 17, 503], .null), (.ireturn, [2], .null)]),
  (16, [])]
def mj_b381 : List (Nat × List mj_I) := [
  (0, [(.iload 0, [], .null), (.iload 1, [], .null), (.ldc 1053, [504], .float 0), (.invokestatic 1059, [391, 3, 18, 505], .null), (.pop, [], .null), (.return_, [], .null)])]
def mj_b382 : List (Nat × List mj_I) := [
  (0, [(.ldc 38, [506], .int 1), (.ifCond .eq 0, [2, 1], .null)]),
  (6, [(.aload 0, [], .null), (.getfield 15, [16, 1, 507], .null), (.nop, [0], .null), (.goto 0, [3], .null)]),
  (13, [(.nop, [0], .null), (.ldc 0, [], .int 1), (.jsr 0, [3], .null)]),
  (14, [(.ireturn, [3], .null)])]
def mj_b383 : List (Nat × List mj_I) := [
  (0, [(.aload 0, [], .null), (.iload 1, [], .null), (.ldc 0, [], .int 0), (.invokevirtual 633, [384, 3, 16, 508], .null), (.ireturn, [], .null)])]
def mj_b384 : List (Nat × List mj_I) := [
  (0, [(.aload 0, [], .null), (.invokevirtual 492, [385, 1, 16, 501], .null), (.ifCond .eq 0, [2, 1], .null)]),
  (7, [(.aload 0, [], .null), (.getfield 9, [16, 0, 502], .null), (.iload 1, [], .null), (.iload 2, [], .null), (.aload 0, [], .null), (.invokevirtual 505, [386, 1, 16, 509], .null), (.invokestatic 637, [389, 4, 17, 510], .null), (.nop, [0, 1, 2], .null), (.goto 0, [3], .null)]),
  (23, []),
  (36, [(.ireturn, [], .null)])]
def mj_b385 : List (Nat × List mj_I) := [
  (0, [(.ldc 38, [506], .int 1), (.ifCond .eq 0, [3, 1], .null)]),
  (6, [(.aload 0, [], .null), (.getfield 15, [16, 1, 507], .null), (.nop, [0], .null), (.ifCond .ne 0, [3, 2], .null)]),
  (13, [(.ldc 0, [], .int 1), (.goto 0, [4], .null)]),
  (17, [(.nop, [0], .null), (.ldc 0, [], .int 0), (.jsr 0, [4], .null)]),
  (18, [(.ireturn, [1], .null)])]
def mj_b386 : List (Nat × List mj_I) := [
  (0, [(.aload 0, [], .null), (.getfield 9, [16, 0, 502], .null), (.arraylength, [], .null), (.aload 0, [], .null), (.invokevirtual 335, [382, 1, 16, 511], .null), (.ishr, [], .null), (.ireturn, [], .null)])]
def mj_b387 : List (Nat × List mj_I) := [
  (0, [(.iload 0, [], .null), (.ifCond .lt 0, [3, 1], .null)]),
  (4, [(.iload 0, [], .null), (.ldc 0, [], .int 255), (.nop, [0], .null), (.if_icmp .gt 0, [3, 2], .null)]),
  (11, [(.ldc 0, [], .int 1), (.goto 0, [4], .null)]),
  (15, [(.nop, [0], .null), (.ldc 0, [], .int 0), (.jsr 0, [4], .null)]),
  (16, [(.ireturn, [1], .null)])]
def mj_b388 : List (Nat × List mj_I) := [
  (0, [(.iload 1, [], .null), (.aload 0, [], .null), (.arraylength, [], .null), (.invokestatic 9, [381, 2, 16, 512], .null), (.aload 0, [], .null), (.iload 1, [], .null), (.baload, [], .null), (.ldc 0, [], .int 255), (.iand, [], .null), (.i2c, [], .null), (.ireturn, [2], .null)])]
def mj_b389 : List (Nat × List mj_I) := [
  (0, [(.iload 1, [], .null), (.invokestatic 88, [387, 1, 17, 513], .null), (.ifCond .ne 0, [2, 1], .null)]),
  (7, [(.nop, [0, 1, 2, 3], .null), (.ldc 0, [], .int (-1)), (.ireturn, [], .null)]),
  (9, [(.iload 2, [], .null), (.ldc 0, [], .int 0), (.invokedynamic 92, [0, 2, 514], .null), (.istore 2, [], .null), (.iload 3, [], .null), (.aload 0, [], .null), (.arraylength, [], .null), (.invokedynamic 38, [1, 2, 515], .null), (.istore 3, [], .null), (.iload 2, [], .null), (.iload 3, [], .null), (.if_icmp .lt 0, [4, 3], .null)]),
  (27, [(.nop, [0, 1, 2, 3], .null), (.ldc 0, [], .int (-1)), (.ireturn, [], .null)]),
  (29, [(.aload 0, [], .null), (.iload 1, [], .null), (.iload 2, [], .null), (.iload 3, [], .null), (.invokestatic 95, [390, 4, 17, 516], .null), (.ireturn, [], .null)])]
def mj_b390 : List (Nat × List mj_I) := [
  (0, [(.iload 1, [], .null), (.i2b, [], .null), (.istore 4, [], .null), (.iload 2, [], .null), (.istore 5, [], .null), (.nop, [1, 2], .null), (.jsr 0, [1], .null)]),
  (7, [(.iload 5, [], .null), (.iload 3, [], .null), (.if_icmp .ge 0, [5, 2], .null)]),
  (13, [(.aload 0, [], .null), (.iload 5, [], .null), (.baload, [], .null), (.iload 4, [], .null), (.if_icmp .ne 0, [4, 3], .null)]),
  (22, [(.nop, [0, 3, 4], .null), (.iload 5, [], .null), (.ireturn, [], .null)]),
  (25, [(.iinc 5 0, [], .int 1), (.goto 0, [1], .null)]),
  (31, [(.nop, [0, 3, 4, 5], .null), (.ldc 0, [], .int (-1)), (.ireturn, [], .null)])]
def mj_b391 : List (Nat × List mj_I) := [
  (0, [(.iload 0, [], .null), (.ifCond .lt 0, [2, 1], .null)]),
  (4, [(.iload 0, [], .null), (.iload 1, [], .null), (.if_icmp .lt 0, [3, 2], .null)]),
  (9, []),
  (16, [(.nop, [1, 2], .null), (.iload 0, [], .null), (.ireturn, [], .null)])]
def mj_b392 : List (Nat × List mj_I) := [
  (0, [(.new 7, [11, 517], .null), (.dup, [], .null), (.invokespecial 9, [172, 1, 11, 518], .null), (.astore 1, [], .null), (.new 10, [12, 519], .null), (.dup, [], .null), (.invokespecial 12, [226, 1, 12, 520], .null), (.astore 2, [], .null), (.ldc 0, [], .int 0), (.istore 3, [], .null), (.jsr 0, [1], .null)]),
  (18, [(.iload 3, [], .null), (.aload 0, [], .null), (.arraylength, [], .null), (.ldc 0, [], .int 6), (.isub, [], .null), (.if_icmp .gt 0, [122, 2], .null)]),
  (27, [(.aload 0, [], .null), (.iload 3, [], .null), (.iaload, [], .null), (.ldc 0, [], .int 63), (.iand, [], .null), (.tableswitch 0 0 49 #[], [121, 3, 5, 7, 9, 11, 13, 15, 17, 19, 21, 23, 25, 27, 29, 31, 33, 35, 37, 39, 41, 43, 45, 47, 55, 57, 59, 61, 63, 65, 67, 69, 71, 73, 75, 77, 79, 81, 83, 85, 93, 101, 103, 105, 107, 109, 111, 113, 115, 117, 119], .null)]),
  (248, [(.aload 1, [], .null), (.aload 0, [], .null), (.iload 3, [], .null), (.ldc 0, [], .int 1), (.iadd, [], .null), (.iaload, [], .null), (.aload 0, [], .null), (.iload 3, [], .null), (.ldc 0, [], .int 2), (.iadd, [], .null), (.iaload, [], .null), (.invokevirtual 13, [173, 3, 11, 521], .null), (.aload 2, [], .null), (.aload 0, [], .null), (.iload 3, [], .null), (.ldc 0, [], .int 1), (.iadd, [], .null), (.iaload, [], .null), (.aload 0, [], .null), (.iload 3, [], .null), (.ldc 0, [], .int 2), (.iadd, [], .null), (.iaload, [], .null), (.invokevirtual 17, [239, 3, 12, 522], .null), (.if_icmp .eq 0, [121, 4], .null)]),
  (279, [(.nop, [0, 1, 2, 3], .null), (.ldc 0, [], .int 0), (.ireturn, [1], .null)]),
  (281, [(.aload 1, [], .null), (.aload 0, [], .null), (.iload 3, [], .null), (.ldc 0, [], .int 1), (.iadd, [], .null), (.iaload, [], .null), (.aload 0, [], .null), (.iload 3, [], .null), (.ldc 0, [], .int 2), (.iadd, [], .null), (.iaload, [], .null), (.invokevirtual 18, [174, 3, 11, 523], .null), (.aload 2, [], .null), (.aload 0, [], .null), (.iload 3, [], .null), (.ldc 0, [], .int 1), (.iadd, [], .null), (.iaload, [], .null), (.aload 0, [], .null), (.iload 3, [], .null), (.ldc 0, [], .int 2), (.iadd, [], .null), (.iaload, [], .null), (.invokevirtual 22, [241, 3, 12, 524], .null), (.if_icmp .eq 0, [121, 6], .null)]),
  (312, [(.nop, [0, 1, 2, 3], .null), (.ldc 0, [], .int 0), (.ireturn, [1], .null)]),
  (314, [(.aload 1, [], .null), (.aload 0, [], .null), (.iload 3, [], .null), (.ldc 0, [], .int 1), (.iadd, [], .null), (.iaload, [], .null), (.aload 0, [], .null), (.iload 3, [], .null), (.ldc 0, [], .int 2), (.iadd, [], .null), (.iaload, [], .null), (.invokevirtual 23, [175, 3, 11, 525], .null), (.aload 2, [], .null), (.aload 0, [], .null), (.iload 3, [], .null), (.ldc 0, [], .int 1), (.iadd, [], .null), (.iaload, [], .null), (.aload 0, [], .null), (.iload 3, [], .null), (.ldc 0, [], .int 2), (.iadd, [], .null), (.iaload, [], .null), (.invokevirtual 26, [242, 3, 12, 526], .null), (.if_icmp .eq 0, [121, 8], .null)]),
  (345, [(.nop, [0, 1, 2, 3], .null), (.ldc 0, [], .int 0), (.ireturn, [1], .null)]),
  (347, [(.aload 1, [], .null), (.aload 0, [], .null), (.iload 3, [], .null), (.ldc 0, [], .int 1), (.iadd, [], .null), (.iaload, [], .null), (.aload 0, [], .null), (.iload 3, [], .null), (.ldc 0, [], .int 2), (.iadd, [], .null), (.iaload, [], .null), (.aload 0, [], .null), (.iload 3, [], .null), (.ldc 0, [], .int 3), (.iadd, [], .null), (.iaload, [], .null), (.aload 0, [], .null), (.iload 3, [], .null), (.ldc 0, [], .int 4), (.iadd, [], .null), (.iaload, [], .null), (.aload 0, [], .null), (.iload 3, [], .null), (.ldc 0, [], .int 5), (.iadd, [], .null), (.iaload, [], .null), (.invokevirtual 27, [176, 6, 11, 527], .null), (.aload 2, [], .null), (.aload 0, [], .null), (.iload 3, [], .null), (.ldc 0, [], .int 1), (.iadd, [], .null), (.iaload, [], .null), (.aload 0, [], .null), (.iload 3, [], .null), (.ldc 0, [], .int 2), (.iadd, [], .null), (.iaload, [], .null), (.aload 0, [], .null), (.iload 3, [], .null), (.ldc 0, [], .int 3), (.iadd, [], .null), (.iaload, [], .null), (.aload 0, [], .null), (.iload 3, [], .null), (.ldc 0, [], .int 4), (.iadd, [], .null), (.iaload, [], .null), (.aload 0, [], .null), (.iload 3, [], .null), (.ldc 0, [], .int 5), (.iadd, [], .null), (.iaload, [], .null), (.invokevirtual 31, [244, 6, 12, 528], .null), (.if_icmp .eq 0, [121, 10], .null)]),
  (408, [(.nop, [0, 1, 2, 3], .null), (.ldc 0, [], .int 0), (.ireturn, [1], .null)]),
  (410, [(.aload 1, [], .null), (.aload 0, [], .null), (.iload 3, [], .null), (.ldc 0, [], .int 1), (.iadd, [], .null), (.iaload, [], .null), (.invokevirtual 32, [177, 2, 11, 529], .null), (.aload 2, [], .null), (.aload 0, [], .null), (.iload 3, [], .null), (.ldc 0, [], .int 1), (.iadd, [], .null), (.iaload, [], .null), (.invokevirtual 36, [245, 2, 12, 530], .null), (.if_icmp .eq 0, [121, 12], .null)]),
  (431, [(.nop, [0, 1, 2, 3], .null), (.ldc 0, [], .int 0), (.ireturn, [1], .null)]),
  (433, [(.aload 1, [], .null), (.invokevirtual 37, [178, 1, 11, 531], .null), (.aload 2, [], .null), (.invokevirtual 41, [281, 1, 12, 532], .null), (.if_icmp .eq 0, [121, 14], .null)]),
  (444, [(.nop, [0, 1, 2, 3], .null), (.ldc 0, [], .int 0), (.ireturn, [1], .null)]),
  (446, [(.aload 1, [], .null), (.aload 0, [], .null), (.iload 3, [], .null), (.ldc 0, [], .int 1), (.iadd, [], .null), (.iaload, [], .null), (.invokevirtual 42, [179, 2, 11, 533], .null), (.aload 2, [], .null), (.aload 0, [], .null), (.iload 3, [], .null), (.ldc 0, [], .int 1), (.iadd, [], .null), (.iaload, [], .null), (.invokevirtual 45, [282, 2, 12, 534], .null), (.if_icmp .eq 0, [121, 16], .null)]),
  (467, [(.nop, [0, 1, 2, 3], .null), (.ldc 0, [], .int 0), (.ireturn, [1], .null)]),
  (469, [(.aload 1, [], .null), (.aload 0, [], .null), (.iload 3, [], .null), (.ldc 0, [], .int 1), (.iadd, [], .null), (.iaload, [], .null), (.invokevirtual 46, [180, 2, 11, 535], .null), (.aload 2, [], .null), (.aload 0, [], .null), (.iload 3, [], .null), (.ldc 0, [], .int 1), (.iadd, [], .null), (.iaload, [], .null), (.invokevirtual 50, [283, 2, 12, 536], .null), (.if_icmp .eq 0, [121, 18], .null)]),
  (490, [(.nop, [0, 1, 2, 3], .null), (.ldc 0, [], .int 0), (.ireturn, [1], .null)]),
  (492, [(.aload 1, [], .null), (.aload 0, [], .null), (.iload 3, [], .null), (.ldc 0, [], .int 1), (.iadd, [], .null), (.iaload, [], .null), (.invokevirtual 51, [181, 2, 11, 537], .null), (.aload 2, [], .null), (.aload 0, [], .null), (.iload 3, [], .null), (.ldc 0, [], .int 1), (.iadd, [], .null), (.iaload, [], .null), (.invokevirtual 54, [308, 2, 12, 538], .null), (.if_icmp .eq 0, [121, 20], .null)]),
  (513, [(.nop, [0, 1, 2, 3], .null), (.ldc 0, [], .int 0), (.ireturn, [1], .null)]),
  (515, [(.aload 1, [], .null), (.aload 0, [], .null), (.iload 3, [], .null), (.ldc 0, [], .int 1), (.iadd, [], .null), (.iaload, [], .null), (.invokevirtual 55, [182, 2, 11, 539], .null), (.aload 2, [], .null), (.aload 0, [], .null), (.iload 3, [], .null), (.ldc 0, [], .int 1), (.iadd, [], .null), (.iaload, [], .null), (.invokevirtual 58, [309, 2, 12, 540], .null), (.if_icmp .eq 0, [121, 22], .null)]),
  (536, [(.nop, [0, 1, 2, 3], .null), (.ldc 0, [], .int 0), (.ireturn, [1], .null)]),
  (538, [(.aload 1, [], .null), (.aload 0, [], .null), (.iload 3, [], .null), (.ldc 0, [], .int 1), (.iadd, [], .null), (.iaload, [], .null), (.aload 0, [], .null), (.iload 3, [], .null), (.ldc 0, [], .int 2), (.iadd, [], .null), (.iaload, [], .null), (.invokevirtual 59, [183, 3, 11, 541], .null), (.aload 2, [], .null), (.aload 0, [], .null), (.iload 3, [], .null), (.ldc 0, [], .int 1), (.iadd, [], .null), (.iaload, [], .null), (.aload 0, [], .null), (.iload 3, [], .null), (.ldc 0, [], .int 2), (.iadd, [], .null), (.iaload, [], .null), (.invokevirtual 62, [310, 3, 12, 542], .null), (.if_icmp .eq 0, [121, 24], .null)]),
  (569, [(.nop, [0, 1, 2, 3], .null), (.ldc 0, [], .int 0), (.ireturn, [1], .null)]),
  (571, [(.aload 1, [], .null), (.aload 0, [], .null), (.iload 3, [], .null), (.ldc 0, [], .int 1), (.iadd, [], .null), (.iaload, [], .null), (.aload 0, [], .null), (.iload 3, [], .null), (.ldc 0, [], .int 2), (.iadd, [], .null), (.iaload, [], .null), (.invokevirtual 63, [184, 3, 11, 543], .null), (.aload 2, [], .null), (.aload 0, [], .null), (.iload 3, [], .null), (.ldc 0, [], .int 1), (.iadd, [], .null), (.iaload, [], .null), (.aload 0, [], .null), (.iload 3, [], .null), (.ldc 0, [], .int 2), (.iadd, [], .null), (.iaload, [], .null), (.invokevirtual 66, [311, 3, 12, 544], .null), (.if_icmp .eq 0, [121, 26], .null)]),
  (602, [(.nop, [0, 1, 2, 3], .null), (.ldc 0, [], .int 0), (.ireturn, [1], .null)]),
  (604, [(.aload 1, [], .null), (.aload 0, [], .null), (.iload 3, [], .null), (.ldc 0, [], .int 1), (.iadd, [], .null), (.iaload, [], .null), (.invokevirtual 67, [185, 2, 11, 545], .null), (.aload 2, [], .null), (.aload 0, [], .null), (.iload 3, [], .null), (.ldc 0, [], .int 1), (.iadd, [], .null), (.iaload, [], .null), (.invokevirtual 70, [313, 2, 12, 546], .null), (.if_icmp .eq 0, [121, 28], .null)]),
  (625, [(.nop, [0, 1, 2, 3], .null), (.ldc 0, [], .int 0), (.ireturn, [1], .null)]),
  (627, [(.aload 1, [], .null), (.aload 0, [], .null), (.iload 3, [], .null), (.ldc 0, [], .int 1), (.iadd, [], .null), (.iaload, [], .null), (.invokevirtual 71, [186, 2, 11, 547], .null), (.aload 2, [], .null), (.aload 0, [], .null), (.iload 3, [], .null), (.ldc 0, [], .int 1), (.iadd, [], .null), (.iaload, [], .null), (.invokevirtual 74, [315, 2, 12, 548], .null), (.if_icmp .eq 0, [121, 30], .null)]),
  (648, [(.nop, [0, 1, 2, 3], .null), (.ldc 0, [], .int 0), (.ireturn, [1], .null)]),
  (650, [(.aload 1, [], .null), (.aload 0, [], .null), (.iload 3, [], .null), (.ldc 0, [], .int 1), (.iadd, [], .null), (.iaload, [], .null), (.aload 0, [], .null), (.iload 3, [], .null), (.ldc 0, [], .int 2), (.iadd, [], .null), (.iaload, [], .null), (.invokevirtual 75, [187, 3, 11, 549], .null), (.aload 2, [], .null), (.aload 0, [], .null), (.iload 3, [], .null), (.ldc 0, [], .int 1), (.iadd, [], .null), (.iaload, [], .null), (.aload 0, [], .null), (.iload 3, [], .null), (.ldc 0, [], .int 2), (.iadd, [], .null), (.iaload, [], .null), (.invokevirtual 78, [317, 3, 12, 550], .null), (.if_icmp .eq 0, [121, 32], .null)]),
  (681, [(.nop, [0, 1, 2, 3], .null), (.ldc 0, [], .int 0), (.ireturn, [1], .null)]),
  (683, [(.aload 1, [], .null), (.invokevirtual 79, [188, 1, 11, 551], .null), (.aload 2, [], .null), (.invokevirtual 82, [307, 1, 12, 552], .null), (.if_icmp .eq 0, [121, 34], .null)]),
  (694, [(.nop, [0, 1, 2, 3], .null), (.ldc 0, [], .int 0), (.ireturn, [1], .null)]),
  (696, [(.aload 1, [], .null), (.aload 0, [], .null), (.iload 3, [], .null), (.ldc 0, [], .int 1), (.iadd, [], .null), (.iaload, [], .null), (.aload 0, [], .null), (.iload 3, [], .null), (.ldc 0, [], .int 2), (.iadd, [], .null), (.iaload, [], .null), (.invokevirtual 83, [189, 3, 11, 553], .null), (.aload 2, [], .null), (.aload 0, [], .null), (.iload 3, [], .null), (.ldc 0, [], .int 1), (.iadd, [], .null), (.iaload, [], .null), (.aload 0, [], .null), (.iload 3, [], .null), (.ldc 0, [], .int 2), (.iadd, [], .null), (.iaload, [], .null), (.invokevirtual 86, [318, 3, 12, 554], .null), (.if_icmp .eq 0, [121, 36], .null)]),
  (727, [(.nop, [0, 1, 2, 3], .null), (.ldc 0, [], .int 0), (.ireturn, [1], .null)]),
  (729, [(.aload 1, [], .null), (.aload 0, [], .null), (.iload 3, [], .null), (.ldc 0, [], .int 1), (.iadd, [], .null), (.iaload, [], .null), (.aload 0, [], .null), (.iload 3, [], .null), (.ldc 0, [], .int 2), (.iadd, [], .null), (.iaload, [], .null), (.invokevirtual 87, [190, 3, 11, 555], .null), (.aload 2, [], .null), (.aload 0, [], .null), (.iload 3, [], .null), (.ldc 0, [], .int 1), (.iadd, [], .null), (.iaload, [], .null), (.aload 0, [], .null), (.iload 3, [], .null), (.ldc 0, [], .int 2), (.iadd, [], .null), (.iaload, [], .null), (.invokevirtual 90, [319, 3, 12, 556], .null), (.if_icmp .eq 0, [121, 38], .null)]),
  (760, [(.nop, [0, 1, 2, 3], .null), (.ldc 0, [], .int 0), (.ireturn, [1], .null)]),
  (762, [(.aload 1, [], .null), (.aload 0, [], .null), (.iload 3, [], .null), (.ldc 0, [], .int 1), (.iadd, [], .null), (.iaload, [], .null), (.invokevirtual 91, [191, 2, 11, 557], .null), (.aload 2, [], .null), (.aload 0, [], .null), (.iload 3, [], .null), (.ldc 0, [], .int 1), (.iadd, [], .null), (.iaload, [], .null), (.invokevirtual 94, [321, 2, 12, 558], .null), (.if_icmp .eq 0, [121, 40], .null)]),
  (783, [(.nop, [0, 1, 2, 3], .null), (.ldc 0, [], .int 0), (.ireturn, [1], .null)]),
  (785, [(.aload 1, [], .null), (.aload 0, [], .null), (.iload 3, [], .null), (.ldc 0, [], .int 1), (.iadd, [], .null), (.iaload, [], .null), (.aload 0, [], .null), (.iload 3, [], .null), (.ldc 0, [], .int 2), (.iadd, [], .null), (.iaload, [], .null), (.invokevirtual 95, [192, 3, 11, 559], .null), (.aload 2, [], .null), (.aload 0, [], .null), (.iload 3, [], .null), (.ldc 0, [], .int 1), (.iadd, [], .null), (.iaload, [], .null), (.aload 0, [], .null), (.iload 3, [], .null), (.ldc 0, [], .int 2), (.iadd, [], .null), (.iaload, [], .null), (.invokevirtual 98, [323, 3, 12, 560], .null), (.if_icmp .eq 0, [121, 42], .null)]),
  (816, [(.nop, [0, 1, 2, 3], .null), (.ldc 0, [], .int 0), (.ireturn, [1], .null)]),
  (818, [(.aload 1, [], .null), (.aload 0, [], .null), (.iload 3, [], .null), (.ldc 0, [], .int 1), (.iadd, [], .null), (.iaload, [], .null), (.aload 0, [], .null), (.iload 3, [], .null), (.ldc 0, [], .int 2), (.iadd, [], .null), (.iaload, [], .null), (.invokevirtual 99, [193, 3, 11, 561], .null), (.aload 2, [], .null), (.aload 0, [], .null), (.iload 3, [], .null), (.ldc 0, [], .int 1), (.iadd, [], .null), (.iaload, [], .null), (.aload 0, [], .null), (.iload 3, [], .null), (.ldc 0, [], .int 2), (.iadd, [], .null), (.iaload, [], .null), (.invokevirtual 102, [330, 3, 12, 562], .null), (.if_icmp .eq 0, [121, 44], .null)]),
  (849, [(.nop, [0, 1, 2, 3], .null), (.ldc 0, [], .int 0), (.ireturn, [1], .null)]),
  (851, [(.aload 1, [], .null), (.aload 0, [], .null), (.iload 3, [], .null), (.ldc 0, [], .int 1), (.iadd, [], .null), (.iaload, [], .null), (.aload 0, [], .null), (.iload 3, [], .null), (.ldc 0, [], .int 2), (.iadd, [], .null), (.iaload, [], .null), (.invokevirtual 103, [194, 3, 11, 563], .null), (.aload 2, [], .null), (.aload 0, [], .null), (.iload 3, [], .null), (.ldc 0, [], .int 1), (.iadd, [], .null), (.iaload, [], .null), (.aload 0, [], .null), (.iload 3, [], .null), (.ldc 0, [], .int 2), (.iadd, [], .null), (.iaload, [], .null), (.invokevirtual 106, [331, 3, 12, 564], .null), (.if_icmp .eq 0, [121, 46], .null)]),
  (882, [(.nop, [0, 1, 2, 3], .null), (.ldc 0, [], .int 0), (.ireturn, [1], .null)]),
  (884, [(.aload 1, [], .null), (.aload 0, [], .null), (.iload 3, [], .null), (.ldc 0, [], .int 1), (.iadd, [], .null), (.iaload, [], .null), (.aload 0, [], .null), (.iload 3, [], .null), (.ldc 0, [], .int 2), (.iadd, [], .null), (.iaload, [], .null), (.ifCond .eq 0, [49, 48], .null)]),
  (898, [(.ldc 0, [], .int 1), (.goto 0, [50], .null)]),
  (902, [(.ldc 0, [], .int 0), (.jsr 0, [50], .null)]),
  (903, [(.invokevirtual 107, [195, 3, 11, 565], .null), (.aload 2, [], .null), (.aload 0, [], .null), (.iload 3, [], .null), (.ldc 0, [], .int 1), (.iadd, [], .null), (.iaload, [], .null), (.aload 0, [], .null), (.iload 3, [], .null), (.ldc 0, [], .int 2), (.iadd, [], .null), (.iaload, [], .null), (.ifCond .eq 0, [52, 51], .null)]),
  (920, [(.ldc 0, [], .int 1), (.goto 0, [53], .null)]),
  (924, [(.ldc 0, [], .int 0), (.jsr 0, [53], .null)]),
  (925, [(.invokevirtual 111, [335, 3, 12, 566], .null), (.if_icmp .eq 0, [121, 54], .null)]),
  (931, [(.nop, [0, 1, 2, 3], .null), (.ldc 0, [], .int 0), (.ireturn, [1], .null)]),
  (933, [(.aload 1, [], .null), (.invokevirtual 112, [196, 1, 11, 567], .null), (.aload 2, [], .null), (.invokevirtual 115, [336, 1, 12, 568], .null), (.if_icmp .eq 0, [121, 56], .null)]),
  (944, [(.nop, [0, 1, 2, 3], .null), (.ldc 0, [], .int 0), (.ireturn, [1], .null)]),
  (946, [(.aload 1, [], .null), (.aload 0, [], .null), (.iload 3, [], .null), (.ldc 0, [], .int 1), (.iadd, [], .null), (.iaload, [], .null), (.invokevirtual 116, [197, 2, 11, 569], .null), (.aload 2, [], .null), (.aload 0, [], .null), (.iload 3, [], .null), (.ldc 0, [], .int 1), (.iadd, [], .null), (.iaload, [], .null), (.invokevirtual 119, [337, 2, 12, 570], .null), (.if_icmp .eq 0, [121, 58], .null)]),
  (967, [(.nop, [0, 1, 2, 3], .null), (.ldc 0, [], .int 0), (.ireturn, [1], .null)]),
  (969, [(.aload 1, [], .null), (.aload 0, [], .null), (.iload 3, [], .null), (.ldc 0, [], .int 1), (.iadd, [], .null), (.iaload, [], .null), (.invokevirtual 120, [198, 2, 11, 571], .null), (.aload 2, [], .null), (.aload 0, [], .null), (.iload 3, [], .null), (.ldc 0, [], .int 1), (.iadd, [], .null), (.iaload, [], .null), (.invokevirtual 123, [338, 2, 12, 572], .null), (.if_icmp .eq 0, [121, 60], .null)]),
  (990, [(.nop, [0, 1, 2, 3], .null), (.ldc 0, [], .int 0), (.ireturn, [1], .null)]),
  (992, [(.aload 1, [], .null), (.aload 0, [], .null), (.iload 3, [], .null), (.ldc 0, [], .int 1), (.iadd, [], .null), (.iaload, [], .null), (.aload 0, [], .null), (.iload 3, [], .null), (.ldc 0, [], .int 2), (.iadd, [], .null), (.iaload, [], .null), (.aload 0, [], .null), (.iload 3, [], .null), (.ldc 0, [], .int 3), (.iadd, [], .null), (.iaload, [], .null), (.invokevirtual 124, [199, 4, 11, 573], .null), (.aload 2, [], .null), (.aload 0, [], .null), (.iload 3, [], .null), (.ldc 0, [], .int 1), (.iadd, [], .null), (.iaload, [], .null), (.aload 0, [], .null), (.iload 3, [], .null), (.ldc 0, [], .int 2), (.iadd, [], .null), (.iaload, [], .null), (.aload 0, [], .null), (.iload 3, [], .null), (.ldc 0, [], .int 3), (.iadd, [], .null), (.iaload, [], .null), (.invokevirtual 128, [339, 4, 12, 574], .null), (.if_icmp .eq 0, [121, 62], .null)]),
  (1033, [(.nop, [0, 1, 2, 3], .null), (.ldc 0, [], .int 0), (.ireturn, [1], .null)]),
  (1035, [(.aload 1, [], .null), (.aload 0, [], .null), (.iload 3, [], .null), (.ldc 0, [], .int 1), (.iadd, [], .null), (.iaload, [], .null), (.invokevirtual 129, [200, 2, 11, 575], .null), (.aload 2, [], .null), (.aload 0, [], .null), (.iload 3, [], .null), (.ldc 0, [], .int 1), (.iadd, [], .null), (.iaload, [], .null), (.invokevirtual 132, [342, 2, 12, 576], .null), (.if_icmp .eq 0, [121, 64], .null)]),
  (1056, [(.nop, [0, 1, 2, 3], .null), (.ldc 0, [], .int 0), (.ireturn, [1], .null)]),
  (1058, [(.aload 1, [], .null), (.aload 0, [], .null), (.iload 3, [], .null), (.ldc 0, [], .int 1), (.iadd, [], .null), (.iaload, [], .null), (.invokevirtual 133, [201, 2, 11, 577], .null), (.aload 2, [], .null), (.aload 0, [], .null), (.iload 3, [], .null), (.ldc 0, [], .int 1), (.iadd, [], .null), (.iaload, [], .null), (.invokevirtual 136, [343, 2, 12, 578], .null), (.if_icmp .eq 0, [121, 66], .null)]),
  (1079, [(.nop, [0, 1, 2, 3], .null), (.ldc 0, [], .int 0), (.ireturn, [1], .null)]),
  (1081, [(.aload 1, [], .null), (.aload 0, [], .null), (.iload 3, [], .null), (.ldc 0, [], .int 1), (.iadd, [], .null), (.iaload, [], .null), (.aload 0, [], .null), (.iload 3, [], .null), (.ldc 0, [], .int 2), (.iadd, [], .null), (.iaload, [], .null), (.invokevirtual 137, [202, 3, 11, 579], .null), (.aload 2, [], .null), (.aload 0, [], .null), (.iload 3, [], .null), (.ldc 0, [], .int 1), (.iadd, [], .null), (.iaload, [], .null), (.aload 0, [], .null), (.iload 3, [], .null), (.ldc 0, [], .int 2), (.iadd, [], .null), (.iaload, [], .null), (.invokevirtual 140, [345, 3, 12, 580], .null), (.if_icmp .eq 0, [121, 68], .null)]),
  (1112, [(.nop, [0, 1, 2, 3], .null), (.ldc 0, [], .int 0), (.ireturn, [1], .null)]),
  (1114, [(.aload 1, [], .null), (.aload 0, [], .null), (.iload 3, [], .null), (.ldc 0, [], .int 1), (.iadd, [], .null), (.iaload, [], .null), (.aload 0, [], .null), (.iload 3, [], .null), (.ldc 0, [], .int 2), (.iadd, [], .null), (.iaload, [], .null), (.invokevirtual 141, [203, 3, 11, 581], .null), (.aload 2, [], .null), (.aload 0, [], .null), (.iload 3, [], .null), (.ldc 0, [], .int 1), (.iadd, [], .null), (.iaload, [], .null), (.aload 0, [], .null), (.iload 3, [], .null), (.ldc 0, [], .int 2), (.iadd, [], .null), (.iaload, [], .null), (.invokevirtual 144, [346, 3, 12, 582], .null), (.if_icmp .eq 0, [121, 70], .null)]),
  (1145, [(.nop, [0, 1, 2, 3], .null), (.ldc 0, [], .int 0), (.ireturn, [1], .null)]),
  (1147, [(.aload 1, [], .null), (.aload 0, [], .null), (.iload 3, [], .null), (.ldc 0, [], .int 1), (.iadd, [], .null), (.iaload, [], .null), (.aload 0, [], .null), (.iload 3, [], .null), (.ldc 0, [], .int 2), (.iadd, [], .null), (.iaload, [], .null), (.invokevirtual 145, [204, 3, 11, 583], .null), (.aload 2, [], .null), (.aload 0, [], .null), (.iload 3, [], .null), (.ldc 0, [], .int 1), (.iadd, [], .null), (.iaload, [], .null), (.aload 0, [], .null), (.iload 3, [], .null), (.ldc 0, [], .int 2), (.iadd, [], .null), (.iaload, [], .null), (.invokevirtual 148, [351, 3, 12, 584], .null), (.if_icmp .eq 0, [121, 72], .null)]),
  (1178, [(.nop, [0, 1, 2, 3], .null), (.ldc 0, [], .int 0), (.ireturn, [1], .null)]),
  (1180, [(.aload 1, [], .null), (.aload 0, [], .null), (.iload 3, [], .null), (.ldc 0, [], .int 1), (.iadd, [], .null), (.iaload, [], .null), (.invokevirtual 149, [205, 2, 11, 585], .null), (.aload 2, [], .null), (.aload 0, [], .null), (.iload 3, [], .null), (.ldc 0, [], .int 1), (.iadd, [], .null), (.iaload, [], .null), (.invokevirtual 152, [352, 2, 12, 586], .null), (.if_icmp .eq 0, [121, 74], .null)]),
  (1201, [(.nop, [0, 1, 2, 3], .null), (.ldc 0, [], .int 0), (.ireturn, [1], .null)]),
  (1203, [(.aload 1, [], .null), (.aload 0, [], .null), (.iload 3, [], .null), (.ldc 0, [], .int 1), (.iadd, [], .null), (.iaload, [], .null), (.invokevirtual 153, [206, 2, 11, 587], .null), (.aload 2, [], .null), (.aload 0, [], .null), (.iload 3, [], .null), (.ldc 0, [], .int 1), (.iadd, [], .null), (.iaload, [], .null), (.invokevirtual 156, [353, 2, 12, 588], .null), (.if_icmp .eq 0, [121, 76], .null)]),
  (1224, [(.nop, [0, 1, 2, 3], .null), (.ldc 0, [], .int 0), (.ireturn, [1], .null)]),
  (1226, [(.aload 1, [], .null), (.aload 0, [], .null), (.iload 3, [], .null), (.ldc 0, [], .int 1), (.iadd, [], .null), (.iaload, [], .null), (.invokevirtual 157, [207, 2, 11, 589], .null), (.aload 2, [], .null), (.aload 0, [], .null), (.iload 3, [], .null), (.ldc 0, [], .int 1), (.iadd, [], .null), (.iaload, [], .null), (.invokevirtual 160, [360, 2, 12, 590], .null), (.if_icmp .eq 0, [121, 78], .null)]),
  (1247, [(.nop, [0, 1, 2, 3], .null), (.ldc 0, [], .int 0), (.ireturn, [1], .null)]),
  (1249, [(.aload 1, [], .null), (.aload 0, [], .null), (.iload 3, [], .null), (.ldc 0, [], .int 1), (.iadd, [], .null), (.iaload, [], .null), (.invokevirtual 161, [208, 2, 11, 591], .null), (.aload 2, [], .null), (.aload 0, [], .null), (.iload 3, [], .null), (.ldc 0, [], .int 1), (.iadd, [], .null), (.iaload, [], .null), (.invokevirtual 164, [361, 2, 12, 592], .null), (.if_icmp .eq 0, [121, 80], .null)]),
  (1270, [(.nop, [0, 1, 2, 3], .null), (.ldc 0, [], .int 0), (.ireturn, [1], .null)]),
  (1272, [(.aload 1, [], .null), (.aload 0, [], .null), (.iload 3, [], .null), (.ldc 0, [], .int 1), (.iadd, [], .null), (.iaload, [], .null), (.aload 0, [], .null), (.iload 3, [], .null), (.ldc 0, [], .int 2), (.iadd, [], .null), (.iaload, [], .null), (.invokevirtual 165, [209, 3, 11, 593], .null), (.aload 2, [], .null), (.aload 0, [], .null), (.iload 3, [], .null), (.ldc 0, [], .int 1), (.iadd, [], .null), (.iaload, [], .null), (.aload 0, [], .null), (.iload 3, [], .null), (.ldc 0, [], .int 2), (.iadd, [], .null), (.iaload, [], .null), (.invokevirtual 168, [366, 3, 12, 594], .null), (.if_icmp .eq 0, [121, 82], .null)]),
  (1303, [(.nop, [0, 1, 2, 3], .null), (.ldc 0, [], .int 0), (.ireturn, [1], .null)]),
  (1305, [(.aload 1, [], .null), (.aload 0, [], .null), (.iload 3, [], .null), (.ldc 0, [], .int 1), (.iadd, [], .null), (.iaload, [], .null), (.aload 0, [], .null), (.iload 3, [], .null), (.ldc 0, [], .int 2), (.iadd, [], .null), (.iaload, [], .null), (.invokevirtual 169, [210, 3, 11, 595], .null), (.aload 2, [], .null), (.aload 0, [], .null), (.iload 3, [], .null), (.ldc 0, [], .int 1), (.iadd, [], .null), (.iaload, [], .null), (.aload 0, [], .null), (.iload 3, [], .null), (.ldc 0, [], .int 2), (.iadd, [], .null), (.iaload, [], .null), (.invokevirtual 172, [367, 3, 12, 596], .null), (.if_icmp .eq 0, [121, 84], .null)]),
  (1336, [(.nop, [0, 1, 2, 3], .null), (.ldc 0, [], .int 0), (.ireturn, [1], .null)]),
  (1338, [(.aload 1, [], .null), (.aload 0, [], .null), (.iload 3, [], .null), (.ldc 0, [], .int 1), (.iadd, [], .null), (.iaload, [], .null), (.aload 0, [], .null), (.iload 3, [], .null), (.ldc 0, [], .int 2), (.iadd, [], .null), (.iaload, [], .null), (.aload 0, [], .null), (.iload 3, [], .null), (.ldc 0, [], .int 3), (.iadd, [], .null), (.iaload, [], .null), (.aload 0, [], .null), (.iload 3, [], .null), (.ldc 0, [], .int 4), (.iadd, [], .null), (.iaload, [], .null), (.ifCond .eq 0, [87, 86], .null)]),
  (1362, [(.ldc 0, [], .int 1), (.goto 0, [88], .null)]),
  (1366, [(.ldc 0, [], .int 0), (.jsr 0, [88], .null)]),
  (1367, [(.invokevirtual 173, [211, 5, 11, 597], .null), (.aload 2, [], .null), (.aload 0, [], .null), (.iload 3, [], .null), (.ldc 0, [], .int 1), (.iadd, [], .null), (.iaload, [], .null), (.aload 0, [], .null), (.iload 3, [], .null), (.ldc 0, [], .int 2), (.iadd, [], .null), (.iaload, [], .null), (.aload 0, [], .null), (.iload 3, [], .null), (.ldc 0, [], .int 3), (.iadd, [], .null), (.iaload, [], .null), (.aload 0, [], .null), (.iload 3, [], .null), (.ldc 0, [], .int 4), (.iadd, [], .null), (.iaload, [], .null), (.ifCond .eq 0, [90, 89], .null)]),
  (1394, [(.ldc 0, [], .int 1), (.goto 0, [91], .null)]),
  (1398, [(.ldc 0, [], .int 0), (.jsr 0, [91], .null)]),
  (1399, [(.invokevirtual 177, [369, 5, 12, 598], .null), (.lcmp, [], .null), (.ifCond .eq 0, [121, 92], .null)]),
  (1406, [(.nop, [0, 1, 2, 3], .null), (.ldc 0, [], .int 0), (.ireturn, [1], .null)]),
  (1408, [(.aload 1, [], .null), (.aload 0, [], .null), (.iload 3, [], .null), (.ldc 0, [], .int 1), (.iadd, [], .null), (.iaload, [], .null), (.aload 0, [], .null), (.iload 3, [], .null), (.ldc 0, [], .int 2), (.iadd, [], .null), (.iaload, [], .null), (.ifCond .eq 0, [95, 94], .null)]),
  (1422, [(.ldc 0, [], .int 1), (.goto 0, [96], .null)]),
  (1426, [(.ldc 0, [], .int 0), (.jsr 0, [96], .null)]),
  (1427, [(.invokevirtual 178, [212, 3, 11, 599], .null), (.aload 2, [], .null), (.aload 0, [], .null), (.iload 3, [], .null), (.ldc 0, [], .int 1), (.iadd, [], .null), (.iaload, [], .null), (.aload 0, [], .null), (.iload 3, [], .null), (.ldc 0, [], .int 2), (.iadd, [], .null), (.iaload, [], .null), (.ifCond .eq 0, [98, 97], .null)]),
  (1444, [(.ldc 0, [], .int 1), (.goto 0, [99], .null)]),
  (1448, [(.ldc 0, [], .int 0), (.jsr 0, [99], .null)]),
  (1449, [(.invokevirtual 181, [370, 3, 12, 600], .null), (.if_icmp .eq 0, [121, 100], .null)]),
  (1455, [(.nop, [0, 1, 2, 3], .null), (.ldc 0, [], .int 0), (.ireturn, [1], .null)]),
  (1457, [(.aload 1, [], .null), (.aload 0, [], .null), (.iload 3, [], .null), (.ldc 0, [], .int 1), (.iadd, [], .null), (.iaload, [], .null), (.aload 0, [], .null), (.iload 3, [], .null), (.ldc 0, [], .int 2), (.iadd, [], .null), (.iaload, [], .null), (.invokevirtual 182, [213, 3, 11, 601], .null), (.aload 2, [], .null), (.aload 0, [], .null), (.iload 3, [], .null), (.ldc 0, [], .int 1), (.iadd, [], .null), (.iaload, [], .null), (.aload 0, [], .null), (.iload 3, [], .null), (.ldc 0, [], .int 2), (.iadd, [], .null), (.iaload, [], .null), (.invokevirtual 185, [371, 3, 12, 602], .null), (.if_icmp .eq 0, [121, 102], .null)]),
  (1488, [(.nop, [0, 1, 2, 3], .null), (.ldc 0, [], .int 0), (.ireturn, [1], .null)]),
  (1490, [(.aload 1, [], .null), (.invokevirtual 186, [214, 1, 11, 603], .null), (.aload 2, [], .null), (.invokevirtual 189, [372, 1, 12, 604], .null), (.if_icmp .eq 0, [121, 104], .null)]),
  (1501, [(.nop, [0, 1, 2, 3], .null), (.ldc 0, [], .int 0), (.ireturn, [1], .null)]),
  (1503, [(.aload 1, [], .null), (.invokevirtual 190, [215, 1, 11, 605], .null), (.aload 2, [], .null), (.invokevirtual 193, [325, 1, 12, 606], .null), (.if_icmp .eq 0, [121, 106], .null)]),
  (1514, [(.nop, [0, 1, 2, 3], .null), (.ldc 0, [], .int 0), (.ireturn, [1], .null)]),
  (1516, [(.aload 1, [], .null), (.invokevirtual 194, [216, 1, 11, 607], .null), (.aload 2, [], .null), (.invokevirtual 197, [326, 1, 12, 608], .null), (.if_icmp .eq 0, [121, 108], .null)]),
  (1527, [(.nop, [0, 1, 2, 3], .null), (.ldc 0, [], .int 0), (.ireturn, [1], .null)]),
  (1529, [(.aload 1, [], .null), (.invokevirtual 198, [217, 1, 11, 609], .null), (.aload 2, [], .null), (.invokevirtual 201, [327, 1, 12, 610], .null), (.if_icmp .eq 0, [121, 110], .null)]),
  (1540, [(.nop, [0, 1, 2, 3], .null), (.ldc 0, [], .int 0), (.ireturn, [1], .null)]),
  (1542, [(.aload 1, [], .null), (.invokevirtual 202, [218, 1, 11, 611], .null), (.aload 2, [], .null), (.invokevirtual 205, [329, 1, 12, 612], .null), (.if_icmp .eq 0, [121, 112], .null)]),
  (1553, [(.nop, [0, 1, 2, 3], .null), (.ldc 0, [], .int 0), (.ireturn, [1], .null)]),
  (1555, [(.aload 1, [], .null), (.aload 0, [], .null), (.iload 3, [], .null), (.ldc 0, [], .int 1), (.iadd, [], .null), (.iaload, [], .null), (.invokevirtual 206, [219, 2, 11, 613], .null), (.aload 2, [], .null), (.aload 0, [], .null), (.iload 3, [], .null), (.ldc 0, [], .int 1), (.iadd, [], .null), (.iaload, [], .null), (.invokevirtual 209, [324, 2, 12, 614], .null), (.if_icmp .eq 0, [121, 114], .null)]),
  (1576, [(.nop, [0, 1, 2, 3], .null), (.ldc 0, [], .int 0), (.ireturn, [1], .null)]),
  (1578, [(.aload 1, [], .null), (.invokevirtual 210, [220, 1, 11, 615], .null), (.aload 2, [], .null), (.invokevirtual 213, [373, 1, 12, 616], .null), (.if_icmp .eq 0, [121, 116], .null)]),
  (1589, [(.nop, [0, 1, 2, 3], .null), (.ldc 0, [], .int 0), (.ireturn, [1], .null)]),
  (1591, [(.aload 1, [], .null), (.invokevirtual 214, [221, 1, 11, 617], .null), (.aload 2, [], .null), (.invokevirtual 217, [374, 1, 12, 618], .null), (.if_icmp .eq 0, [121, 118], .null)]),
  (1602, [(.nop, [0, 1, 2, 3], .null), (.ldc 0, [], .int 0), (.ireturn, [1], .null)]),
  (1604, [(.aload 1, [], .null), (.aload 0, [], .null), (.iload 3, [], .null), (.ldc 0, [], .int 1), (.iadd, [], .null), (.iaload, [], .null), (.invokevirtual 218, [222, 2, 11, 619], .null), (.aload 2, [], .null), (.aload 0, [], .null), (.iload 3, [], .null), (.ldc 0, [], .int 1), (.iadd, [], .null), (.iaload, [], .null), (.invokevirtual 221, [375, 2, 12, 620], .null), (.if_icmp .eq 0, [121, 120], .null)]),
  (1625, [(.nop, [0, 1, 2, 3], .null), (.ldc 0, [], .int 0), (.ireturn, [1], .null)]),
  (1627, [(.iinc 3 0, [], .int 6), (.goto 0, [1], .null)]),
  (1633, [(.nop, [0, 1, 2, 3], .null), (.ldc 0, [], .int 1), (.ireturn, [1], .null)])]
def mj_bs0 : List (List (Nat × List mj_I)) := [mj_b0, mj_b1, mj_b2, mj_b3, mj_b4, mj_b5, mj_b6, mj_b7, mj_b8, mj_b9, mj_b10, mj_b11]
def mj_bs1 : List (List (Nat × List mj_I)) := [mj_b12, mj_b13, mj_b14, mj_b15, mj_b16, mj_b17, mj_b18, mj_b19, mj_b20, mj_b21, mj_b22, mj_b23]
def mj_bs2 : List (List (Nat × List mj_I)) := [mj_b24, mj_b25, mj_b26, mj_b27, mj_b28, mj_b29, mj_b30, mj_b31, mj_b32, mj_b33, mj_b34, mj_b35, mj_b36, mj_b37, mj_b38, mj_b39, mj_b40, mj_b41, mj_b42, mj_b43, mj_b44, mj_b45, mj_b46, mj_b47, mj_b48, mj_b49, mj_b50, mj_b51]
def mj_bs3 : List (List (Nat × List mj_I)) := [mj_b52, mj_b53, mj_b54, mj_b55, mj_b56, mj_b57, mj_b58, mj_b59, mj_b60, mj_b61, mj_b62, mj_b63, mj_b64, mj_b65, mj_b66, mj_b67, mj_b68, mj_b69, mj_b70]
def mj_bs4 : List (List (Nat × List mj_I)) := [mj_b71, mj_b72, mj_b73, mj_b74, mj_b75, mj_b76, mj_b77, mj_b78, mj_b79, mj_b80, mj_b81, mj_b82, mj_b83, mj_b84]
def mj_bs5 : List (List (Nat × List mj_I)) := [mj_b85, mj_b86, mj_b87, mj_b88, mj_b89, mj_b90, mj_b91, mj_b92, mj_b93, mj_b94]
def mj_bs6 : List (List (Nat × List mj_I)) := [mj_b95, mj_b96, mj_b97, mj_b98, mj_b99, mj_b100, mj_b101, mj_b102, mj_b103, mj_b104, mj_b105, mj_b106, mj_b107, mj_b108, mj_b109, mj_b110, mj_b111, mj_b112, mj_b113, mj_b114, mj_b115, mj_b116, mj_b117, mj_b118, mj_b119, mj_b120]
def mj_bs7 : List (List (Nat × List mj_I)) := [mj_b121, mj_b122, mj_b123, mj_b124, mj_b125]
def mj_bs8 : List (List (Nat × List mj_I)) := [mj_b126, mj_b127, mj_b128, mj_b129, mj_b130, mj_b131, mj_b132, mj_b133, mj_b134, mj_b135, mj_b136, mj_b137, mj_b138, mj_b139, mj_b140, mj_b141, mj_b142, mj_b143]
def mj_bs9 : List (List (Nat × List mj_I)) := [mj_b144, mj_b145, mj_b146]
def mj_bs10 : List (List (Nat × List mj_I)) := [mj_b147, mj_b148, mj_b149, mj_b150, mj_b151, mj_b152, mj_b153, mj_b154, mj_b155, mj_b156, mj_b157, mj_b158, mj_b159, mj_b160, mj_b161, mj_b162, mj_b163, mj_b164, mj_b165, mj_b166, mj_b167, mj_b168, mj_b169, mj_b170, mj_b171]
def mj_bs11 : List (List (Nat × List mj_I)) := [mj_b172, mj_b173, mj_b174, mj_b175, mj_b176, mj_b177, mj_b178, mj_b179, mj_b180, mj_b181, mj_b182, mj_b183, mj_b184, mj_b185, mj_b186, mj_b187, mj_b188, mj_b189, mj_b190, mj_b191, mj_b192, mj_b193, mj_b194, mj_b195, mj_b196, mj_b197, mj_b198, mj_b199, mj_b200, mj_b201, mj_b202, mj_b203, mj_b204, mj_b205, mj_b206, mj_b207, mj_b208, mj_b209, mj_b210, mj_b211, mj_b212, mj_b213, mj_b214, mj_b215, mj_b216, mj_b217, mj_b218, mj_b219, mj_b220, mj_b221, mj_b222, mj_b223, mj_b224, mj_b225]
def mj_bs12 : List (List (Nat × List mj_I)) := [mj_b226, mj_b227, mj_b228, mj_b229, mj_b230, mj_b231, mj_b232, mj_b233, mj_b234, mj_b235, mj_b236, mj_b237, mj_b238, mj_b239, mj_b240, mj_b241, mj_b242, mj_b243, mj_b244, mj_b245, mj_b246, mj_b247, mj_b248, mj_b249, mj_b250, mj_b251, mj_b252, mj_b253, mj_b254, mj_b255, mj_b256, mj_b257, mj_b258, mj_b259, mj_b260, mj_b261, mj_b262, mj_b263, mj_b264, mj_b265, mj_b266, mj_b267, mj_b268, mj_b269, mj_b270, mj_b271, mj_b272, mj_b273, mj_b274, mj_b275, mj_b276, mj_b277, mj_b278, mj_b279, mj_b280, mj_b281, mj_b282, mj_b283, mj_b284, mj_b285, mj_b286, mj_b287, mj_b288, mj_b289, mj_b290, mj_b291, mj_b292, mj_b293, mj_b294, mj_b295, mj_b296, mj_b297, mj_b298, mj_b299, mj_b300, mj_b301, mj_b302, mj_b303, mj_b304, mj_b305, mj_b306, mj_b307, mj_b308, mj_b309, mj_b310, mj_b311, mj_b312, mj_b313, mj_b314, mj_b315, mj_b316, mj_b317, mj_b318, mj_b319, mj_b320, mj_b321, mj_b322, mj_b323, mj_b324, mj_b325, mj_b326, mj_b327, mj_b328, mj_b329, mj_b330, mj_b331, mj_b332, mj_b333, mj_b334, mj_b335, mj_b336, mj_b337, mj_b338, mj_b339, mj_b340, mj_b341, mj_b342, mj_b343, mj_b344, mj_b345, mj_b346, mj_b347, mj_b348, mj_b349, mj_b350, mj_b351, mj_b352, mj_b353, mj_b354, mj_b355, mj_b356, mj_b357, mj_b358, mj_b359, mj_b360, mj_b361, mj_b362, mj_b363, mj_b364, mj_b365, mj_b366, mj_b367, mj_b368, mj_b369, mj_b370, mj_b371, mj_b372, mj_b373, mj_b374, mj_b375]
def mj_bs13 : List (List (Nat × List mj_I)) := [mj_b376]
def mj_bs14 : List (List (Nat × List mj_I)) := [mj_b377, mj_b378, mj_b379]
def mj_bs15 : List (List (Nat × List mj_I)) := [mj_b380, mj_b381, mj_b382, mj_b383, mj_b384, mj_b385, mj_b386]
def mj_bs16 : List (List (Nat × List mj_I)) := [mj_b387, mj_b388, mj_b389, mj_b390]
def mj_bs17 : List (List (Nat × List mj_I)) := [mj_b391]
def mj_bs18 : List (List (Nat × List mj_I)) := [mj_b392]
def mj_bs : List (List (Nat × List mj_I)) := mj_bs0 ++ (mj_bs1 ++ (mj_bs2 ++ (mj_bs3 ++ (mj_bs4 ++ (mj_bs5 ++ (mj_bs6 ++ (mj_bs7 ++ (mj_bs8 ++ (mj_bs9 ++ (mj_bs10 ++ (mj_bs11 ++ (mj_bs12 ++ (mj_bs13 ++ (mj_bs14 ++ (mj_bs15 ++ (mj_bs16 ++ (mj_bs17 ++ (mj_bs18))))))))))))))))))
def mj_meth (m : Nat) : mj_M := mj_ms.getD m ((13, "", 0, true), code, 0, none)
def mj_dsc (M : mj_M) : String × Nat := mj_ds.getD M.1.2.2.1 ("", 0)
def mj_blk (m b : Nat) : List mj_I := ((mj_bs.getD m []).getD b (0, [])).2
def mj_sp (m b : Nat) : Nat := ((mj_bs.getD m []).getD b (0, [])).1
/-- the locals at a method's entry -/
def mj_args : List Value → mj_L
  | [] => []
  | .long x :: vs => some (.long x) :: none :: mj_args vs
  | v :: vs => some v :: mj_args vs
def mj_fill : Nat → mj_L → mj_L
  | 0, _ => []
  | n + 1, [] => none :: mj_fill n []
  | n + 1, a :: l => a :: mj_fill n l
def mj_ent (n : Nat) (vs : List Value) : mj_L := mj_fill n (mj_args vs)
/-- n: how many blocks at most; d: how deep calls may go -/
def mj_go (E : mj_E) (bi : Nat → List Value → mj_H → mj_R) : Nat → Nat → Nat → Nat → mj_L → List Value → mj_H → mj_R
  | 0, _, _, _, _, _, _ => none
  | n + 1, d, m, b, loc, st, h => mj_ex E mj_df (mj_go E bi n d m) (fun m' as h' => match d with
    | 0 => none
    | d' + 1 => mj_go E bi n d' m' 0 (mj_ent (mj_meth m').2.2.1 as) [] h') bi (mj_blk m b) loc st h
/-- is it a constructor: the names of constructors are kept as the empty text, so that none need be compared -/
abbrev mj_n : Nat := 392
def mj_ini (m : Nat) : Bool := ([0, 12, 24, 52, 71, 85, 95, 121, 126, 144, 147, 172, 226] : List Nat).any (fun k => k == m)
def mj_yn (m : Nat) : MethodName := ⟨mj_cn (mj_meth m).1.1, if mj_ini m = true then "<init>" else (mj_meth m).1.2.1, (mj_dsc (mj_meth m)).1⟩
def mj_ps0 : List (Nat × Nat × Nat × Nat) := [(621, 622, 0, 623), (624, 625, 626, 623), (627, 628, 629, 623), (630, 631, 632, 623), (633, 634, 635, 623), (636, 637, 638, 623), (639, 640, 641, 623), (642, 643, 644, 623), (645, 646, 0, 623), (647, 648, 0, 623), (649, 650, 0, 623), (651, 652, 0, 623)]
def mj_ps1 : List (Nat × Nat × Nat × Nat) := [(653, 654, 0, 655), (656, 657, 658, 655), (659, 660, 661, 655), (662, 663, 664, 655), (665, 666, 0, 655), (667, 668, 0, 655), (669, 670, 671, 655), (672, 673, 674, 655), (675, 676, 677, 655), (678, 679, 680, 655), (681, 682, 683, 655), (684, 685, 686, 655)]
def mj_ps2 : List (Nat × Nat × Nat × Nat) := [(687, 688, 0, 689), (690, 691, 692, 689), (693, 694, 695, 689), (696, 697, 698, 689), (699, 700, 701, 689), (702, 703, 704, 689), (705, 706, 707, 689), (708, 709, 710, 689), (711, 712, 713, 689), (714, 715, 716, 689), (717, 718, 719, 689), (720, 721, 722, 689), (723, 724, 725, 689), (726, 727, 728, 689), (729, 730, 731, 689), (732, 733, 734, 689), (735, 736, 737, 689), (738, 739, 740, 689), (741, 742, 743, 689), (744, 745, 746, 689), (747, 748, 749, 689), (750, 751, 752, 689), (753, 754, 755, 689), (756, 757, 758, 689), (759, 760, 761, 689), (762, 763, 764, 689), (765, 766, 767, 689), (768, 769, 770, 689)]
def mj_ps3 : List (Nat × Nat × Nat × Nat) := [(771, 772, 0, 773), (774, 775, 776, 773), (777, 778, 779, 773), (780, 781, 782, 773), (783, 784, 785, 773), (786, 787, 788, 773), (789, 790, 791, 773), (792, 793, 794, 773), (795, 796, 797, 773), (798, 799, 800, 773), (801, 802, 803, 773), (804, 805, 806, 773), (807, 808, 809, 773), (810, 811, 812, 773), (813, 814, 815, 773), (816, 817, 818, 773), (819, 820, 821, 773), (822, 823, 824, 773), (825, 826, 827, 773)]
def mj_ps4 : List (Nat × Nat × Nat × Nat) := [(828, 829, 0, 830), (831, 832, 833, 830), (834, 835, 836, 830), (837, 838, 839, 830), (840, 841, 842, 830), (843, 844, 845, 830), (846, 847, 848, 830), (849, 850, 851, 830), (852, 853, 854, 830), (855, 856, 857, 830), (858, 859, 860, 830), (861, 862, 863, 830), (864, 865, 866, 830), (867, 868, 869, 830)]
def mj_ps5 : List (Nat × Nat × Nat × Nat) := [(870, 871, 0, 872), (873, 874, 875, 872), (876, 877, 878, 872), (879, 880, 881, 872), (882, 883, 884, 872), (885, 886, 887, 872), (888, 889, 890, 872), (891, 892, 893, 872), (894, 895, 896, 872), (897, 898, 0, 872)]
def mj_ps6 : List (Nat × Nat × Nat × Nat) := [(899, 900, 0, 901), (902, 903, 904, 901), (905, 906, 907, 901), (908, 909, 910, 901), (911, 912, 913, 901), (914, 915, 916, 901), (917, 918, 919, 901), (920, 921, 922, 901), (923, 924, 925, 901), (926, 927, 928, 901), (929, 930, 931, 901), (932, 933, 934, 901), (935, 936, 937, 901), (938, 939, 940, 901), (941, 942, 943, 901), (944, 945, 946, 901), (947, 948, 949, 901), (950, 951, 0, 901), (952, 953, 954, 901), (955, 956, 957, 901), (958, 959, 960, 901), (961, 962, 963, 901), (964, 965, 966, 901), (967, 968, 969, 901), (970, 971, 972, 901), (973, 974, 0, 901)]
def mj_ps7 : List (Nat × Nat × Nat × Nat) := [(975, 976, 0, 977), (978, 979, 980, 977), (981, 982, 983, 977), (984, 985, 986, 977), (987, 988, 989, 977)]
def mj_ps8 : List (Nat × Nat × Nat × Nat) := [(990, 991, 0, 992), (993, 994, 995, 992), (996, 997, 998, 992), (999, 1000, 1001, 992), (1002, 1003, 1004, 992), (1005, 1006, 1007, 992), (1008, 1009, 1010, 992), (1011, 1012, 1013, 992), (1014, 1015, 1016, 992), (1017, 1018, 1019, 992), (1020, 1021, 1022, 992), (1023, 1024, 1025, 992), (1026, 1027, 1028, 992), (1029, 1030, 1031, 992), (1032, 1033, 1034, 992), (1035, 1036, 0, 992), (1037, 1038, 0, 992), (1039, 1040, 0, 992)]
def mj_ps9 : List (Nat × Nat × Nat × Nat) := [(1041, 1042, 0, 1043), (1044, 1045, 1046, 1043), (1047, 1048, 1049, 1043)]
def mj_ps10 : List (Nat × Nat × Nat × Nat) := [(1050, 1051, 0, 1052), (1053, 1054, 1055, 1052), (1056, 1057, 1058, 1052), (1059, 1060, 1061, 1052), (1062, 1063, 1064, 1052), (1065, 1066, 1067, 1052), (1068, 1069, 1070, 1052), (1071, 1072, 1073, 1052), (1074, 1075, 1076, 1052), (1077, 1078, 1079, 1052), (1080, 1081, 1082, 1052), (1083, 1084, 1085, 1052), (1086, 1087, 1088, 1052), (1089, 1090, 1091, 1052), (1092, 1093, 1094, 1052), (1095, 1096, 1097, 1052), (1098, 1099, 1100, 1052), (1101, 1102, 1103, 1052), (1104, 1105, 1106, 1052), (1107, 1108, 1109, 1052), (1110, 1111, 1112, 1052), (1113, 1114, 1115, 1052), (1116, 1117, 1118, 1052), (1119, 1120, 1121, 1052), (1122, 1123, 1124, 1052)]
def mj_ps11 : List (Nat × Nat × Nat × Nat) := [(1125, 1126, 0, 1127), (1128, 1129, 1130, 1127), (1131, 1132, 1133, 1127), (1134, 1135, 1136, 1127), (1137, 1138, 1139, 1127), (1140, 1141, 1142, 1127), (1143, 1144, 1145, 1127), (1146, 1147, 1148, 1127), (1149, 1150, 1151, 1127), (1152, 1153, 1154, 1127), (1155, 1156, 1157, 1127), (1158, 1159, 1160, 1127), (1161, 1162, 1163, 1127), (1164, 1165, 1166, 1127), (1167, 1168, 1169, 1127), (1170, 1171, 1172, 1127), (1173, 1174, 1175, 1127), (1176, 1177, 1178, 1127), (1179, 1180, 1181, 1127), (1182, 1183, 1184, 1127), (1185, 1186, 1187, 1127), (1188, 1189, 1190, 1127), (1191, 1192, 1193, 1127), (1194, 1195, 1196, 1127), (1197, 1198, 1199, 1127), (1200, 1201, 1202, 1127), (1203, 1204, 1205, 1127), (1206, 1207, 1208, 1127), (1209, 1210, 1211, 1127), (1212, 1213, 1214, 1127), (1215, 1216, 1217, 1127), (1218, 1219, 1220, 1127), (1221, 1222, 1223, 1127), (1224, 1225, 1226, 1127), (1227, 1228, 1229, 1127), (1230, 1231, 1232, 1127), (1233, 1234, 1235, 1127), (1236, 1237, 1238, 1127), (1239, 1240, 1241, 1127), (1242, 1243, 1244, 1127), (1245, 1246, 1247, 1127), (1248, 1249, 1250, 1127), (1251, 1252, 1253, 1127), (1254, 1255, 1256, 1127), (1257, 1258, 1259, 1127), (1260, 1261, 1262, 1127), (1263, 1264, 1265, 1127), (1266, 1267, 1268, 1127), (1269, 1270, 1271, 1127), (1272, 1273, 1274, 1127), (1275, 1276, 1277, 1127), (1278, 1279, 0, 1127), (1280, 1281, 0, 1127), (1282, 1283, 0, 1127)]
def mj_ps12 : List (Nat × Nat × Nat × Nat) := [(1284, 1285, 0, 1286), (1287, 1288, 0, 1286), (1289, 1290, 0, 1286), (1291, 1292, 0, 1286), (1293, 1294, 0, 1286), (1295, 1296, 0, 1286), (1297, 1298, 1299, 1286), (1300, 1301, 0, 1286), (1302, 1303, 1304, 1286), (1305, 1306, 1307, 1286), (1308, 1309, 1310, 1286), (1311, 1312, 1313, 1286), (1314, 1315, 1316, 1286), (1317, 1318, 1319, 1286), (1320, 1321, 1322, 1286), (1323, 1324, 1325, 1286), (1326, 1327, 1328, 1286), (1329, 1330, 1331, 1286), (1332, 1333, 1334, 1286), (1335, 1336, 1337, 1286), (1338, 1339, 1340, 1286), (1341, 1342, 0, 1286), (1343, 1344, 0, 1286), (1345, 1346, 0, 1286), (1347, 1348, 1349, 1286), (1350, 1351, 0, 1286), (1352, 1353, 0, 1286), (1354, 1355, 0, 1286), (1356, 1357, 0, 1286), (1358, 1359, 0, 1286), (1360, 1361, 1362, 1286), (1363, 1364, 1365, 1286), (1366, 1367, 1368, 1286), (1369, 1370, 1371, 1286), (1372, 1373, 1374, 1286), (1375, 1376, 0, 1286), (1377, 1378, 1379, 1286), (1380, 1381, 1382, 1286), (1383, 1384, 1385, 1286), (1386, 1387, 1388, 1286), (1389, 1390, 1391, 1286), (1392, 1393, 1394, 1286), (1395, 1396, 1397, 1286), (1398, 1399, 1400, 1286), (1401, 1402, 1403, 1286), (1404, 1405, 1406, 1286), (1407, 1408, 1409, 1286), (1410, 1411, 1412, 1286), (1413, 1414, 1415, 1286), (1416, 1417, 1418, 1286), (1419, 1420, 1421, 1286), (1422, 1423, 1424, 1286), (1425, 1426, 1427, 1286), (1428, 1429, 1430, 1286), (1431, 1432, 1433, 1286), (1434, 1435, 1436, 1286), (1437, 1438, 1439, 1286), (1440, 1441, 1442, 1286), (1443, 1444, 0, 1286), (1445, 1446, 0, 1286), (1447, 1448, 0, 1286), (1449, 1450, 1451, 1286), (1452, 1453, 1454, 1286), (1455, 1456, 1457, 1286), (1458, 1459, 0, 1286), (1460, 1461, 1462, 1286), (1463, 1464, 1465, 1286), (1466, 1467, 1468, 1286), (1469, 1470, 1471, 1286), (1472, 1473, 1474, 1286), (1475, 1476, 1477, 1286), (1478, 1479, 1480, 1286), (1481, 1482, 1483, 1286), (1484, 1485, 1486, 1286), (1487, 1488, 1489, 1286), (1490, 1491, 1492, 1286), (1493, 1494, 1495, 1286), (1496, 1497, 1498, 1286), (1499, 1500, 1501, 1286), (1502, 1503, 1504, 1286), (1505, 1506, 1507, 1286), (1508, 1509, 1510, 1286), (1511, 1512, 1513, 1286), (1514, 1515, 1516, 1286), (1517, 1518, 1519, 1286), (1520, 1521, 1522, 1286), (1523, 1524, 1525, 1286), (1526, 1527, 1528, 1286), (1529, 1530, 1531, 1286), (1532, 1533, 1534, 1286), (1535, 1536, 1537, 1286), (1538, 1539, 1540, 1286), (1541, 1542, 1543, 1286), (1544, 1545, 1546, 1286), (1547, 1548, 1549, 1286), (1550, 1551, 1552, 1286), (1553, 1554, 1555, 1286), (1556, 1557, 1558, 1286), (1559, 1560, 1561, 1286), (1562, 1563, 1564, 1286), (1565, 1566, 1567, 1286), (1568, 1569, 1570, 1286), (1571, 1572, 1573, 1286), (1574, 1575, 1576, 1286), (1577, 1578, 1579, 1286), (1580, 1581, 1582, 1286), (1583, 1584, 1585, 1286), (1586, 1587, 1588, 1286), (1589, 1590, 1591, 1286), (1592, 1593, 1594, 1286), (1595, 1596, 1597, 1286), (1598, 1599, 1600, 1286), (1601, 1602, 1603, 1286), (1604, 1605, 1606, 1286), (1607, 1608, 1609, 1286), (1610, 1611, 1612, 1286), (1613, 1614, 1615, 1286), (1616, 1617, 1618, 1286), (1619, 1620, 1621, 1286), (1622, 1623, 1624, 1286), (1625, 1626, 1627, 1286), (1628, 1629, 1630, 1286), (1631, 1632, 0, 1286), (1633, 1634, 1635, 1286), (1636, 1637, 1638, 1286), (1639, 1640, 1641, 1286), (1642, 1643, 1644, 1286), (1645, 1646, 1647, 1286), (1648, 1649, 0, 1286), (1650, 1651, 1652, 1286), (1653, 1654, 1655, 1286), (1656, 1657, 1658, 1286), (1659, 1660, 1661, 1286), (1662, 1663, 1664, 1286), (1665, 1666, 1667, 1286), (1668, 1669, 1670, 1286), (1671, 1672, 0, 1286), (1673, 1674, 1675, 1286), (1676, 1677, 1678, 1286), (1679, 1680, 1681, 1286), (1682, 1683, 1684, 1286), (1685, 1686, 1687, 1286), (1688, 1689, 0, 1286), (1690, 1691, 1692, 1286), (1693, 1694, 1695, 1286), (1696, 1697, 1698, 1286), (1699, 1700, 1701, 1286), (1702, 1703, 1704, 1286), (1705, 1706, 1707, 1286), (1708, 1709, 1710, 1286)]
def mj_ps13 : List (Nat × Nat × Nat × Nat) := [(1711, 1712, 0, 1713)]
def mj_ps14 : List (Nat × Nat × Nat × Nat) := [(1714, 1715, 0, 1716), (1717, 1718, 0, 1716), (1719, 1720, 0, 1716)]
def mj_ps15 : List (Nat × Nat × Nat × Nat) := [(1721, 1722, 1723, 1724), (1725, 1726, 0, 1724), (1727, 1728, 1729, 1724), (1730, 1731, 1732, 1724), (1733, 1734, 1735, 1724), (1736, 1737, 1738, 1724), (1739, 1740, 1741, 1724)]
def mj_ps16 : List (Nat × Nat × Nat × Nat) := [(1742, 1743, 0, 1744), (1745, 1746, 0, 1744), (1747, 1748, 0, 1744), (1749, 1750, 0, 1744)]
def mj_ps17 : List (Nat × Nat × Nat × Nat) := [(1751, 1752, 0, 1753)]
def mj_ps18 : List (Nat × Nat × Nat × Nat) := [(0, 0, 0, 0)]
def mj_ps : List (Nat × Nat × Nat × Nat) := mj_ps0 ++ (mj_ps1 ++ (mj_ps2 ++ (mj_ps3 ++ (mj_ps4 ++ (mj_ps5 ++ (mj_ps6 ++ (mj_ps7 ++ (mj_ps8 ++ (mj_ps9 ++ (mj_ps10 ++ (mj_ps11 ++ (mj_ps12 ++ (mj_ps13 ++ (mj_ps14 ++ (mj_ps15 ++ (mj_ps16 ++ (mj_ps17 ++ (mj_ps18))))))))))))))))))
def mj_cp : List (Nat × Nat) := [(1754, 623), (1755, 655), (1756, 689), (1757, 773), (1758, 830), (1759, 872), (1760, 901), (1761, 977), (1762, 992), (1763, 1043), (1764, 1052), (1765, 1127), (1766, 1286)]
