/-! THE PROGRAM, by program (wip/whole/gen): classes, words, methods -/
/-- literals' addresses, their bytes' addresses, the script, a static of the JDK -/
abbrev jx_Gv : Type := (Nat → Nat) × (Nat → Nat) × (Nat × Nat × (Nat → Int32)) × Option Nat
def fT_0 : u_T := fun k => match k with
  | 0 => ("PartText", "text", "LPartText$Octets;", true)
  | 1 => ("PartText", "reader", "LPartText$Reader;", true)
  | 2 => ("PartText", "writer", "LPartText$Writer;", true)
  | 3 => ("PartText", "rules", "LPartText$Rules;", true)
  | 4 => ("PartText", "slots", "[LPartText$Edition;", true)
  | 5 => ("PartText", "kept", "I", false)
  | _ => ("PartText", "handSlot", "I", false)
def ft_0 : Nat → FieldType := fun k => match k with
  | 0 => (.object "PartText$Octets")
  | 1 => (.object "PartText$Reader")
  | 2 => (.object "PartText$Writer")
  | 3 => (.object "PartText$Rules")
  | 4 => (.array (.object "PartText$Edition"))
  | 5 => .int
  | _ => .int
def fT_1 : u_T := fun k => match k with
  | 0 => ("PartText$Octets", "octets", "[I", true)
  | 1 => ("PartText$Octets", "length", "I", false)
  | _ => ("PartText$Octets", "overfull", "Z", false)
def ft_1 : Nat → FieldType := fun k => match k with
  | 0 => (.array .int)
  | 1 => .int
  | _ => .boolean
def fT_2 : u_T := fun k => match k with
  | _ => ("PartText$Words", "names", "[J", true)
def ft_2 : Nat → FieldType := fun k => match k with
  | _ => (.array .long)
def fT_3 : u_T := fun k => match k with
  | 0 => ("PartText$Scanner", "text", "LPartText$Octets;", true)
  | 1 => ("PartText$Scanner", "words", "LPartText$Words;", true)
  | 2 => ("PartText$Scanner", "place", "I", false)
  | 3 => ("PartText$Scanner", "line", "I", false)
  | 4 => ("PartText$Scanner", "sort", "I", false)
  | 5 => ("PartText$Scanner", "value", "I", false)
  | _ => ("PartText$Scanner", "name", "J", false)
def ft_3 : Nat → FieldType := fun k => match k with
  | 0 => (.object "PartText$Octets")
  | 1 => (.object "PartText$Words")
  | 2 => .int
  | 3 => .int
  | 4 => .int
  | 5 => .int
  | _ => .long
def fT_4 : u_T := fun k => match k with
  | 0 => ("PartText$Reader", "scanner", "LPartText$Scanner;", true)
  | 1 => ("PartText$Reader", "block", "I", false)
  | 2 => ("PartText$Reader", "form", "Ljava/lang/String;", false)
  | 3 => ("PartText$Reader", "step", "I", false)
  | 4 => ("PartText$Reader", "accesses", "I", false)
  | _ => ("PartText$Reader", "minus", "Z", false)
def ft_4 : Nat → FieldType := fun k => match k with
  | 0 => (.object "PartText$Scanner")
  | 1 => .int
  | 2 => (.object "java/lang/String")
  | 3 => .int
  | 4 => .int
  | _ => .boolean
def fT_5 : u_T := fun k => match k with
  | 0 => ("PartText$Writer", "text", "LPartText$Octets;", true)
  | _ => ("PartText$Writer", "words", "LPartText$Words;", true)
def ft_5 : Nat → FieldType := fun k => match k with
  | 0 => (.object "PartText$Octets")
  | _ => (.object "PartText$Words")
def fT_6 : u_T := fun k => match k with
  | _ => ("PartText$Rules", "reached", "[I", true)
def ft_6 : Nat → FieldType := fun k => match k with
  | _ => (.array .int)
def fT_7 : u_T := fun k => match k with
  | 0 => ("PartText$Edition", "sorts", "[B", true)
  | 1 => ("PartText$Edition", "values", "[I", true)
  | 2 => ("PartText$Edition", "tokenCount", "I", false)
  | 3 => ("PartText$Edition", "names", "[J", true)
  | 4 => ("PartText$Edition", "nameCount", "I", false)
  | 5 => ("PartText$Edition", "kinds", "[I", true)
  | 6 => ("PartText$Edition", "blocks", "[I", true)
  | 7 => ("PartText$Edition", "starts", "[I", true)
  | 8 => ("PartText$Edition", "lengths", "[I", true)
  | 9 => ("PartText$Edition", "targets", "[I", true)
  | _ => ("PartText$Edition", "rowCount", "I", false)
def ft_7 : Nat → FieldType := fun k => match k with
  | 0 => (.array .byte)
  | 1 => (.array .int)
  | 2 => .int
  | 3 => (.array .long)
  | 4 => .int
  | 5 => (.array .int)
  | 6 => (.array .int)
  | 7 => (.array .int)
  | 8 => (.array .int)
  | 9 => (.array .int)
  | _ => .int
def fT_8 : u_T := fun k => match k with
  | 0 => ("PartTextModel", "size", "I", false)
  | 1 => ("PartTextModel", "text", "[I", true)
  | 2 => ("PartTextModel", "at", "I", false)
  | 3 => ("PartTextModel", "line", "I", false)
  | 4 => ("PartTextModel", "kind", "I", false)
  | 5 => ("PartTextModel", "value", "I", false)
  | 6 => ("PartTextModel", "tokenLine", "I", false)
  | 7 => ("PartTextModel", "good", "Z", false)
  | 8 => ("PartTextModel", "names", "I", false)
  | 9 => ("PartTextModel", "nameLength", "[I", true)
  | 10 => ("PartTextModel", "nameOctets", "[I", true)
  | 11 => ("PartTextModel", "rows", "I", false)
  | 12 => ("PartTextModel", "rowKind", "[I", true)
  | 13 => ("PartTextModel", "rowBlock", "[I", true)
  | 14 => ("PartTextModel", "given", "[I", true)
  | 15 => ("PartTextModel", "second", "[I", true)
  | 16 => ("PartTextModel", "third", "[I", true)
  | 17 => ("PartTextModel", "fourth", "[I", true)
  | 18 => ("PartTextModel", "fifth", "[I", true)
  | 19 => ("PartTextModel", "low", "[I", true)
  | 20 => ("PartTextModel", "high", "[I", true)
  | 21 => ("PartTextModel", "trigger", "[I", true)
  | 22 => ("PartTextModel", "accessAt", "[I", true)
  | 23 => ("PartTextModel", "accessMany", "[I", true)
  | 24 => ("PartTextModel", "accesses", "I", false)
  | 25 => ("PartTextModel", "accessKind", "[I", true)
  | 26 => ("PartTextModel", "accessPort", "[I", true)
  | 27 => ("PartTextModel", "accessDatum", "[I", true)
  | 28 => ("PartTextModel", "written", "I", false)
  | 29 => ("PartTextModel", "writing", "[I", true)
  | 30 => ("PartTextModel", "writeAt", "[I", true)
  | 31 => ("PartTextModel", "block", "I", false)
  | 32 => ("PartTextModel", "inHand", "Z", false)
  | 33 => ("PartTextModel", "hRows", "I", false)
  | 34 => ("PartTextModel", "hKind", "[I", true)
  | 35 => ("PartTextModel", "hBlock", "[I", true)
  | 36 => ("PartTextModel", "hGiven", "[I", true)
  | 37 => ("PartTextModel", "hSecond", "[I", true)
  | 38 => ("PartTextModel", "hThird", "[I", true)
  | 39 => ("PartTextModel", "hFourth", "[I", true)
  | 40 => ("PartTextModel", "hFifth", "[I", true)
  | 41 => ("PartTextModel", "hLow", "[I", true)
  | 42 => ("PartTextModel", "hHigh", "[I", true)
  | 43 => ("PartTextModel", "hTrigger", "[I", true)
  | 44 => ("PartTextModel", "hAccessAt", "[I", true)
  | 45 => ("PartTextModel", "hAccessMany", "[I", true)
  | 46 => ("PartTextModel", "hAccessKind", "[I", true)
  | 47 => ("PartTextModel", "hAccessPort", "[I", true)
  | 48 => ("PartTextModel", "hAccessDatum", "[I", true)
  | 49 => ("PartTextModel", "hText", "[I", true)
  | 50 => ("PartTextModel", "hAt", "[I", true)
  | 51 => ("PartTextModel", "editions", "I", false)
  | 52 => ("PartTextModel", "eRows", "[I", true)
  | 53 => ("PartTextModel", "eBlock", "[I", true)
  | 54 => ("PartTextModel", "eAt", "[I", true)
  | 55 => ("PartTextModel", "eText", "[I", true)
  | _ => ("PartTextModel", "seen", "[Z", true)
def ft_8 : Nat → FieldType := fun k => match k with
  | 0 => .int
  | 1 => (.array .int)
  | 2 => .int
  | 3 => .int
  | 4 => .int
  | 5 => .int
  | 6 => .int
  | 7 => .boolean
  | 8 => .int
  | 9 => (.array .int)
  | 10 => (.array .int)
  | 11 => .int
  | 12 => (.array .int)
  | 13 => (.array .int)
  | 14 => (.array .int)
  | 15 => (.array .int)
  | 16 => (.array .int)
  | 17 => (.array .int)
  | 18 => (.array .int)
  | 19 => (.array .int)
  | 20 => (.array .int)
  | 21 => (.array .int)
  | 22 => (.array .int)
  | 23 => (.array .int)
  | 24 => .int
  | 25 => (.array .int)
  | 26 => (.array .int)
  | 27 => (.array .int)
  | 28 => .int
  | 29 => (.array .int)
  | 30 => (.array .int)
  | 31 => .int
  | 32 => .boolean
  | 33 => .int
  | 34 => (.array .int)
  | 35 => (.array .int)
  | 36 => (.array .int)
  | 37 => (.array .int)
  | 38 => (.array .int)
  | 39 => (.array .int)
  | 40 => (.array .int)
  | 41 => (.array .int)
  | 42 => (.array .int)
  | 43 => (.array .int)
  | 44 => (.array .int)
  | 45 => (.array .int)
  | 46 => (.array .int)
  | 47 => (.array .int)
  | 48 => (.array .int)
  | 49 => (.array .int)
  | 50 => (.array .int)
  | 51 => .int
  | 52 => (.array .int)
  | 53 => (.array .int)
  | 54 => (.array .int)
  | 55 => (.array .int)
  | _ => (.array .boolean)
def jC : List vw_C := [("PartText", fT_0, 7), ("PartText$Octets", fT_1, 3), ("PartText$Words", fT_2, 1), ("PartText$Scanner", fT_3, 7), ("PartText$Reader", fT_4, 6), ("PartText$Writer", fT_5, 2), ("PartText$Rules", fT_6, 1), ("PartText$Edition", fT_7, 11), ("PartTextModel", fT_8, 57)]
def jTy : List FieldType := [.int, .long, .byte, .boolean, (.object "PartText$Edition")]
def jT : List Cond := lw_tbl.filter goodWord
abbrev c_0 : ByteArray := prog_13_method_152_code
def y_0 : MethodName := ⟨"java/lang/String", "coder", "()B"⟩
abbrev c_1 : ByteArray := prog_13_method_54_code
def y_1 : MethodName := ⟨"java/lang/String", "length", "()I"⟩
abbrev c_2 : ByteArray := prog_13_method_154_code
def y_2 : MethodName := ⟨"java/lang/String", "isLatin1", "()Z"⟩
abbrev c_3 : ByteArray := prog_16_method_11_code
def y_3 : MethodName := ⟨"jdk/internal/util/Preconditions", "checkIndex", "(IILjava/util/function/BiFunction;)I"⟩
abbrev c_4 : ByteArray := prog_13_method_155_code
def y_4 : MethodName := ⟨"java/lang/String", "checkIndex", "(II)V"⟩
abbrev c_5 : ByteArray := prog_14_method_2_code
def y_5 : MethodName := ⟨"java/lang/StringLatin1", "charAt", "([BI)C"⟩
abbrev c_6 : ByteArray := prog_13_method_56_code
def y_6 : MethodName := ⟨"java/lang/String", "charAt", "(I)C"⟩
abbrev c_7 : ByteArray := prog_7_method_3_code
def y_7 : MethodName := ⟨"PartText$Words", "isDigit", "(I)Z"⟩
abbrev c_8 : ByteArray := prog_7_method_4_code
def y_8 : MethodName := ⟨"PartText$Words", "isLetter", "(I)Z"⟩
abbrev c_9 : ByteArray := prog_7_method_2_code
def y_9 : MethodName := ⟨"PartText$Words", "codeOf", "(I)I"⟩
abbrev c_10 : ByteArray := prog_7_method_1_code
def y_10 : MethodName := ⟨"PartText$Words", "<init>", "()V"⟩
abbrev c_11 : ByteArray := prog_3_method_1_code
def y_11 : MethodName := ⟨"PartText$Octets", "<init>", "()V"⟩
abbrev c_12 : ByteArray := prog_6_method_1_code
def y_12 : MethodName := ⟨"PartText$Scanner", "<init>", "(LPartText$Octets;LPartText$Words;)V"⟩
abbrev c_13 : ByteArray := prog_4_method_1_code
def y_13 : MethodName := ⟨"PartText$Reader", "<init>", "(LPartText$Scanner;)V"⟩
abbrev c_14 : ByteArray := prog_8_method_1_code
def y_14 : MethodName := ⟨"PartText$Writer", "<init>", "(LPartText$Octets;LPartText$Words;)V"⟩
abbrev c_15 : ByteArray := prog_5_method_1_code
def y_15 : MethodName := ⟨"PartText$Rules", "<init>", "()V"⟩
abbrev c_16 : ByteArray := prog_1_method_1_code
def y_16 : MethodName := ⟨"PartText", "<init>", "()V"⟩
abbrev c_17 : ByteArray := prog_10_method_1_code
def y_17 : MethodName := ⟨"PartTextModel", "<init>", "()V"⟩
abbrev c_18 : ByteArray := prog_3_method_3_code
def y_18 : MethodName := ⟨"PartText$Octets", "add", "(I)V"⟩
abbrev c_19 : ByteArray := prog_1_method_2_code
def y_19 : MethodName := ⟨"PartText", "sign", "(I)V"⟩
abbrev c_20 : ByteArray := prog_10_method_2_code
def y_20 : MethodName := ⟨"PartTextModel", "sign", "(I)V"⟩
abbrev c_21 : ByteArray := prog_1_method_13_code
def y_21 : MethodName := ⟨"PartText", "freeSlot", "()I"⟩
abbrev c_22 : ByteArray := prog_2_method_1_code
def y_22 : MethodName := ⟨"PartText$Edition", "<init>", "()V"⟩
abbrev c_23 : ByteArray := prog_1_method_14_code
def y_23 : MethodName := ⟨"PartText", "editionIn", "(I)LPartText$Edition;"⟩
abbrev c_24 : ByteArray := prog_2_method_2_code
def y_24 : MethodName := ⟨"PartText$Edition", "clear", "()V"⟩
abbrev c_25 : ByteArray := prog_6_method_2_code
def y_25 : MethodName := ⟨"PartText$Scanner", "restart", "()V"⟩
abbrev c_26 : ByteArray := prog_4_method_5_code
def y_26 : MethodName := ⟨"PartText$Reader", "follow", "(Ljava/lang/String;)V"⟩
abbrev c_27 : ByteArray := prog_3_method_5_code
def y_27 : MethodName := ⟨"PartText$Octets", "length", "()I"⟩
abbrev c_28 : ByteArray := prog_3_method_4_code
def y_28 : MethodName := ⟨"PartText$Octets", "octet", "(I)I"⟩
abbrev c_29 : ByteArray := prog_6_method_14_code
def y_29 : MethodName := ⟨"PartText$Scanner", "isBlank", "(I)Z"⟩
abbrev c_30 : ByteArray := prog_6_method_11_code
def y_30 : MethodName := ⟨"PartText$Scanner", "skipBlanks", "()V"⟩
abbrev c_31 : ByteArray := prog_7_method_6_code
def y_31 : MethodName := ⟨"PartText$Words", "bitOf", "(J)I"⟩
abbrev c_32 : ByteArray := prog_6_method_12_code
def y_32 : MethodName := ⟨"PartText$Scanner", "scanName", "()V"⟩
abbrev c_33 : ByteArray := prog_6_method_13_code
def y_33 : MethodName := ⟨"PartText$Scanner", "scanNumber", "()V"⟩
abbrev c_34 : ByteArray := prog_14_method_4_code
def y_34 : MethodName := ⟨"java/lang/StringLatin1", "canEncode", "(I)Z"⟩
abbrev c_35 : ByteArray := prog_14_method_23_code
def y_35 : MethodName := ⟨"java/lang/StringLatin1", "indexOfChar", "([BIII)I"⟩
abbrev c_36 : ByteArray := prog_14_method_22_code
def y_36 : MethodName := ⟨"java/lang/StringLatin1", "indexOf", "([BIII)I"⟩
abbrev c_37 : ByteArray := prog_13_method_80_code
def y_37 : MethodName := ⟨"java/lang/String", "indexOf", "(II)I"⟩
abbrev c_38 : ByteArray := prog_13_method_79_code
def y_38 : MethodName := ⟨"java/lang/String", "indexOf", "(I)I"⟩
abbrev c_39 : ByteArray := prog_6_method_10_code
def y_39 : MethodName := ⟨"PartText$Scanner", "advance", "()V"⟩
abbrev c_40 : ByteArray := prog_6_method_4_code
def y_40 : MethodName := ⟨"PartText$Scanner", "sort", "()I"⟩
abbrev c_41 : ByteArray := prog_4_method_4_code
def y_41 : MethodName := ⟨"PartText$Reader", "isRowOver", "()Z"⟩
abbrev c_42 : ByteArray := prog_2_method_8_code
def y_42 : MethodName := ⟨"PartText$Edition", "rowCount", "()I"⟩
abbrev c_43 : ByteArray := prog_6_method_8_code
def y_43 : MethodName := ⟨"PartText$Scanner", "isSignOf", "(I)Z"⟩
abbrev c_44 : ByteArray := prog_2_method_3_code
def y_44 : MethodName := ⟨"PartText$Edition", "addRow", "(II)V"⟩
abbrev c_45 : ByteArray := prog_2_method_4_code
def y_45 : MethodName := ⟨"PartText$Edition", "addToken", "(II)V"⟩
abbrev c_46 : ByteArray := prog_4_method_13_code
def y_46 : MethodName := ⟨"PartText$Reader", "take", "(LPartText$Edition;I)Z"⟩
abbrev c_47 : ByteArray := prog_2_method_9_code
def y_47 : MethodName := ⟨"PartText$Edition", "kind", "(I)I"⟩
abbrev c_48 : ByteArray := prog_4_method_7_code
def y_48 : MethodName := ⟨"PartText$Reader", "wordsIn", "(I)I"⟩
abbrev c_49 : ByteArray := prog_6_method_7_code
def y_49 : MethodName := ⟨"PartText$Scanner", "isWordOf", "(I)Z"⟩
abbrev c_50 : ByteArray := prog_6_method_5_code
def y_50 : MethodName := ⟨"PartText$Scanner", "value", "()I"⟩
abbrev c_51 : ByteArray := prog_4_method_8_code
def y_51 : MethodName := ⟨"PartText$Reader", "formOf", "(I)Ljava/lang/String;"⟩
abbrev c_52 : ByteArray := prog_4_method_6_code
def y_52 : MethodName := ⟨"PartText$Reader", "beginRow", "(LPartText$Edition;)Z"⟩
abbrev c_53 : ByteArray := prog_6_method_6_code
def y_53 : MethodName := ⟨"PartText$Scanner", "name", "()J"⟩
abbrev c_54 : ByteArray := prog_2_method_5_code
def y_54 : MethodName := ⟨"PartText$Edition", "nameNumber", "(J)I"⟩
abbrev c_55 : ByteArray := prog_6_method_9_code
def y_55 : MethodName := ⟨"PartText$Scanner", "isNumberWithin", "(II)Z"⟩
abbrev c_56 : ByteArray := prog_4_method_10_code
def y_56 : MethodName := ⟨"PartText$Reader", "takeValue", "(LPartText$Edition;)Z"⟩
abbrev c_57 : ByteArray := prog_4_method_12_code
def y_57 : MethodName := ⟨"PartText$Reader", "takeAccess", "(LPartText$Edition;)Z"⟩
abbrev c_58 : ByteArray := prog_4_method_11_code
def y_58 : MethodName := ⟨"PartText$Reader", "takeTrigger", "(LPartText$Edition;)Z"⟩
abbrev c_59 : ByteArray := prog_4_method_9_code
def y_59 : MethodName := ⟨"PartText$Reader", "takeStep", "(LPartText$Edition;)Z"⟩
abbrev c_60 : ByteArray := prog_4_method_2_code
def y_60 : MethodName := ⟨"PartText$Reader", "fill", "(LPartText$Edition;)Z"⟩
abbrev c_61 : ByteArray := prog_3_method_2_code
def y_61 : MethodName := ⟨"PartText$Octets", "clear", "()V"⟩
abbrev c_62 : ByteArray := prog_6_method_3_code
def y_62 : MethodName := ⟨"PartText$Scanner", "line", "()I"⟩
abbrev c_63 : ByteArray := prog_4_method_3_code
def y_63 : MethodName := ⟨"PartText$Reader", "faultLine", "()I"⟩
abbrev c_64 : ByteArray := prog_2_method_14_code
def y_64 : MethodName := ⟨"PartText$Edition", "value", "(II)I"⟩
abbrev c_65 : ByteArray := prog_2_method_17_code
def y_65 : MethodName := ⟨"PartText$Edition", "fits", "(III)Z"⟩
abbrev c_66 : ByteArray := prog_2_method_22_code
def y_66 : MethodName := ⟨"PartText$Edition", "meant", "(III)I"⟩
abbrev c_67 : ByteArray := prog_2_method_7_code
def y_67 : MethodName := ⟨"PartText$Edition", "resolve", "()V"⟩
abbrev c_68 : ByteArray := prog_2_method_20_code
def y_68 : MethodName := ⟨"PartText$Edition", "countUpTo", "(III)I"⟩
abbrev c_69 : ByteArray := prog_2_method_18_code
def y_69 : MethodName := ⟨"PartText$Edition", "count", "(II)I"⟩
abbrev c_70 : ByteArray := prog_1_method_3_code
def y_70 : MethodName := ⟨"PartText", "read", "()I"⟩
abbrev c_71 : ByteArray := prog_10_method_6_code
def y_71 : MethodName := ⟨"PartTextModel", "here", "()I"⟩
abbrev c_72 : ByteArray := prog_10_method_4_code
def y_72 : MethodName := ⟨"PartTextModel", "isLetter", "(I)Z"⟩
abbrev c_73 : ByteArray := prog_10_method_5_code
def y_73 : MethodName := ⟨"PartTextModel", "isDigit", "(I)Z"⟩
abbrev c_74 : ByteArray := prog_10_method_7_code
def y_74 : MethodName := ⟨"PartTextModel", "packed", "(II)J"⟩
abbrev c_75 : ByteArray := prog_10_method_8_code
def y_75 : MethodName := ⟨"PartTextModel", "wordOf", "(II)I"⟩
abbrev c_76 : ByteArray := prog_10_method_9_code
def y_76 : MethodName := ⟨"PartTextModel", "nameOf", "(II)I"⟩
abbrev c_77 : ByteArray := prog_10_method_10_code
def y_77 : MethodName := ⟨"PartTextModel", "next", "()V"⟩
abbrev c_78 : ByteArray := prog_10_method_15_code
def y_78 : MethodName := ⟨"PartTextModel", "lengthOf", "()I"⟩
abbrev c_79 : ByteArray := prog_10_method_11_code
def y_79 : MethodName := ⟨"PartTextModel", "put", "(I)V"⟩
abbrev c_80 : ByteArray := prog_10_method_12_code
def y_80 : MethodName := ⟨"PartTextModel", "putNumber", "(I)V"⟩
abbrev c_81 : ByteArray := prog_10_method_13_code
def y_81 : MethodName := ⟨"PartTextModel", "writeToken", "(I)V"⟩
abbrev c_82 : ByteArray := prog_10_method_14_code
def y_82 : MethodName := ⟨"PartTextModel", "accept", "()Z"⟩
abbrev c_83 : ByteArray := prog_10_method_22_code
def y_83 : MethodName := ⟨"PartTextModel", "begin", "(I)V"⟩
abbrev c_84 : ByteArray := prog_10_method_16_code
def y_84 : MethodName := ⟨"PartTextModel", "wants", "(Z)Z"⟩
abbrev c_85 : ByteArray := prog_10_method_19_code
def y_85 : MethodName := ⟨"PartTextModel", "name", "()I"⟩
abbrev c_86 : ByteArray := prog_10_method_17_code
def y_86 : MethodName := ⟨"PartTextModel", "sign0", "(I)Z"⟩
abbrev c_87 : ByteArray := prog_10_method_20_code
def y_87 : MethodName := ⟨"PartTextModel", "number", "(II)I"⟩
abbrev c_88 : ByteArray := prog_10_method_29_code
def y_88 : MethodName := ⟨"PartTextModel", "keepRow", "(IIIII)V"⟩
abbrev c_89 : ByteArray := prog_10_method_21_code
def y_89 : MethodName := ⟨"PartTextModel", "signed", "()I"⟩
abbrev c_90 : ByteArray := prog_10_method_18_code
def y_90 : MethodName := ⟨"PartTextModel", "word", "(I)Z"⟩
abbrev c_91 : ByteArray := prog_10_method_23_code
def y_91 : MethodName := ⟨"PartTextModel", "pair", "()V"⟩
abbrev c_92 : ByteArray := prog_10_method_24_code
def y_92 : MethodName := ⟨"PartTextModel", "access", "(I)V"⟩
abbrev c_93 : ByteArray := prog_10_method_25_code
def y_93 : MethodName := ⟨"PartTextModel", "runRow", "()V"⟩
abbrev c_94 : ByteArray := prog_10_method_26_code
def y_94 : MethodName := ⟨"PartTextModel", "connectRow", "()V"⟩
abbrev c_95 : ByteArray := prog_10_method_27_code
def y_95 : MethodName := ⟨"PartTextModel", "member", "(I)V"⟩
abbrev c_96 : ByteArray := prog_10_method_30_code
def y_96 : MethodName := ⟨"PartTextModel", "members", "(I)V"⟩
abbrev c_97 : ByteArray := prog_10_method_28_code
def y_97 : MethodName := ⟨"PartTextModel", "statement", "()V"⟩
abbrev c_98 : ByteArray := prog_10_method_32_code
def y_98 : MethodName := ⟨"PartTextModel", "comeInHand", "()V"⟩
abbrev c_99 : ByteArray := prog_10_method_33_code
def y_99 : MethodName := ⟨"PartTextModel", "keep", "(I)V"⟩
abbrev c_100 : ByteArray := prog_10_method_34_code
def y_100 : MethodName := ⟨"PartTextModel", "isParts", "(I)Z"⟩
abbrev c_101 : ByteArray := prog_10_method_35_code
def y_101 : MethodName := ⟨"PartTextModel", "isPort", "(I)Z"⟩
abbrev c_102 : ByteArray := prog_10_method_36_code
def y_102 : MethodName := ⟨"PartTextModel", "isSort", "(II)Z"⟩
abbrev c_103 : ByteArray := prog_10_method_38_code
def y_103 : MethodName := ⟨"PartTextModel", "many", "(II)I"⟩
abbrev c_104 : ByteArray := prog_10_method_37_code
def y_104 : MethodName := ⟨"PartTextModel", "parts", "()I"⟩
abbrev c_105 : ByteArray := prog_10_method_31_code
def y_105 : MethodName := ⟨"PartTextModel", "read", "()I"⟩
abbrev c_106 : ByteArray := prog_1_method_15_code
def y_106 : MethodName := ⟨"PartText", "inHand", "()LPartText$Edition;"⟩
abbrev c_107 : ByteArray := prog_2_method_21_code
def y_107 : MethodName := ⟨"PartText$Edition", "nth", "(III)I"⟩
abbrev c_108 : ByteArray := prog_1_method_16_code
def y_108 : MethodName := ⟨"PartText", "partRow", "(LPartText$Edition;I)I"⟩
abbrev c_109 : ByteArray := prog_1_method_4_code
def y_109 : MethodName := ⟨"PartText", "part", "(II)I"⟩
abbrev c_110 : ByteArray := prog_10_method_39_code
def y_110 : MethodName := ⟨"PartTextModel", "nth", "(III)I"⟩
abbrev c_111 : ByteArray := prog_10_method_45_code
def y_111 : MethodName := ⟨"PartTextModel", "part", "(II)I"⟩
abbrev c_112 : ByteArray := prog_1_method_17_code
def y_112 : MethodName := ⟨"PartText", "memberRow", "(LPartText$Edition;III)I"⟩
abbrev c_113 : ByteArray := prog_2_method_12_code
def y_113 : MethodName := ⟨"PartText$Edition", "target", "(I)I"⟩
abbrev c_114 : ByteArray := prog_2_method_19_code
def y_114 : MethodName := ⟨"PartText$Edition", "numberOf", "(III)I"⟩
abbrev c_115 : ByteArray := prog_1_method_5_code
def y_115 : MethodName := ⟨"PartText", "port", "(III)I"⟩
abbrev c_116 : ByteArray := prog_10_method_41_code
def y_116 : MethodName := ⟨"PartTextModel", "means", "(III)I"⟩
abbrev c_117 : ByteArray := prog_10_method_43_code
def y_117 : MethodName := ⟨"PartTextModel", "interfaceOf", "(I)I"⟩
abbrev c_118 : ByteArray := prog_10_method_40_code
def y_118 : MethodName := ⟨"PartTextModel", "index", "(II)I"⟩
abbrev c_119 : ByteArray := prog_10_method_46_code
def y_119 : MethodName := ⟨"PartTextModel", "port", "(III)I"⟩
abbrev c_120 : ByteArray := prog_2_method_13_code
def y_120 : MethodName := ⟨"PartText$Edition", "sort", "(II)I"⟩
abbrev c_121 : ByteArray := prog_2_method_15_code
def y_121 : MethodName := ⟨"PartText$Edition", "word", "(II)I"⟩
abbrev c_122 : ByteArray := prog_2_method_10_code
def y_122 : MethodName := ⟨"PartText$Edition", "block", "(I)I"⟩
abbrev c_123 : ByteArray := prog_2_method_23_code
def y_123 : MethodName := ⟨"PartText$Edition", "usedPort", "(II)I"⟩
abbrev c_124 : ByteArray := prog_1_method_18_code
def y_124 : MethodName := ⟨"PartText", "triggerPort", "(LPartText$Edition;I)I"⟩
abbrev c_125 : ByteArray := prog_2_method_11_code
def y_125 : MethodName := ⟨"PartText$Edition", "length", "(I)I"⟩
abbrev c_126 : ByteArray := prog_2_method_16_code
def y_126 : MethodName := ⟨"PartText$Edition", "countWord", "(II)I"⟩
abbrev c_127 : ByteArray := prog_1_method_6_code
def y_127 : MethodName := ⟨"PartText", "runnable", "(III)I"⟩
abbrev c_128 : ByteArray := prog_10_method_42_code
def y_128 : MethodName := ⟨"PartTextModel", "portIn", "(II)I"⟩
abbrev c_129 : ByteArray := prog_10_method_47_code
def y_129 : MethodName := ⟨"PartTextModel", "accessesOf", "(II)I"⟩
abbrev c_130 : ByteArray := prog_10_method_48_code
def y_130 : MethodName := ⟨"PartTextModel", "runnable", "(III)I"⟩
abbrev c_131 : ByteArray := prog_2_method_24_code
def y_131 : MethodName := ⟨"PartText$Edition", "inner", "(II)I"⟩
abbrev c_132 : ByteArray := prog_1_method_19_code
def y_132 : MethodName := ⟨"PartText", "innerNumber", "(LPartText$Edition;II)I"⟩
abbrev c_133 : ByteArray := prog_2_method_25_code
def y_133 : MethodName := ⟨"PartText$Edition", "innerPort", "(III)I"⟩
abbrev c_134 : ByteArray := prog_1_method_20_code
def y_134 : MethodName := ⟨"PartText", "innerPortNumber", "(LPartText$Edition;II)I"⟩
abbrev c_135 : ByteArray := prog_1_method_7_code
def y_135 : MethodName := ⟨"PartText", "connector", "(II)I"⟩
abbrev c_136 : ByteArray := prog_10_method_44_code
def y_136 : MethodName := ⟨"PartTextModel", "partsOf", "(I)I"⟩
abbrev c_137 : ByteArray := prog_10_method_49_code
def y_137 : MethodName := ⟨"PartTextModel", "connector", "(II)I"⟩
abbrev c_138 : ByteArray := prog_5_method_4_code
def y_138 : MethodName := ⟨"PartText$Rules", "isGivenBefore", "(LPartText$Edition;I)Z"⟩
abbrev c_139 : ByteArray := prog_5_method_5_code
def y_139 : MethodName := ⟨"PartText$Rules", "ruleOfType", "(LPartText$Edition;I)I"⟩
abbrev c_140 : ByteArray := prog_5_method_7_code
def y_140 : MethodName := ⟨"PartText$Rules", "isMissingDatum", "(LPartText$Edition;II)Z"⟩
abbrev c_141 : ByteArray := prog_5_method_6_code
def y_141 : MethodName := ⟨"PartText$Rules", "ruleOfRun", "(LPartText$Edition;I)I"⟩
abbrev c_142 : ByteArray := prog_5_method_10_code
def y_142 : MethodName := ⟨"PartText$Rules", "reach", "(II)I"⟩
abbrev c_143 : ByteArray := prog_5_method_9_code
def y_143 : MethodName := ⟨"PartText$Rules", "isWithinItself", "(LPartText$Edition;I)Z"⟩
abbrev c_144 : ByteArray := prog_5_method_8_code
def y_144 : MethodName := ⟨"PartText$Rules", "ruleOfInner", "(LPartText$Edition;I)I"⟩
abbrev c_145 : ByteArray := prog_5_method_12_code
def y_145 : MethodName := ⟨"PartText$Rules", "isMissingEnd", "(LPartText$Edition;II)Z"⟩
abbrev c_146 : ByteArray := prog_5_method_15_code
def y_146 : MethodName := ⟨"PartText$Rules", "isAtMost", "(LPartText$Edition;III)Z"⟩
abbrev c_147 : ByteArray := prog_5_method_14_code
def y_147 : MethodName := ⟨"PartText$Rules", "ruleOfDatum", "(LPartText$Edition;II)I"⟩
abbrev c_148 : ByteArray := prog_5_method_13_code
def y_148 : MethodName := ⟨"PartText$Rules", "ruleOfInterfaces", "(LPartText$Edition;II)I"⟩
abbrev c_149 : ByteArray := prog_5_method_16_code
def y_149 : MethodName := ⟨"PartText$Rules", "isConnectedBefore", "(LPartText$Edition;I)Z"⟩
abbrev c_150 : ByteArray := prog_5_method_11_code
def y_150 : MethodName := ⟨"PartText$Rules", "ruleOfConnect", "(LPartText$Edition;I)I"⟩
abbrev c_151 : ByteArray := prog_5_method_3_code
def y_151 : MethodName := ⟨"PartText$Rules", "leastBroken", "(LPartText$Edition;I)I"⟩
abbrev c_152 : ByteArray := prog_5_method_2_code
def y_152 : MethodName := ⟨"PartText$Rules", "firstBroken", "(LPartText$Edition;)I"⟩
abbrev c_153 : ByteArray := prog_1_method_8_code
def y_153 : MethodName := ⟨"PartText", "check", "()I"⟩
abbrev c_154 : ByteArray := prog_10_method_52_code
def y_154 : MethodName := ⟨"PartTextModel", "breaksGiven", "(I)Z"⟩
abbrev c_155 : ByteArray := prog_10_method_53_code
def y_155 : MethodName := ⟨"PartTextModel", "breaksAccess", "(II)Z"⟩
abbrev c_156 : ByteArray := prog_10_method_54_code
def y_156 : MethodName := ⟨"PartTextModel", "breaksEnd", "(III)Z"⟩
abbrev c_157 : ByteArray := prog_10_method_55_code
def y_157 : MethodName := ⟨"PartTextModel", "breaksNames", "(I)Z"⟩
abbrev c_158 : ByteArray := prog_10_method_57_code
def y_158 : MethodName := ⟨"PartTextModel", "firstPort", "(I)I"⟩
abbrev c_159 : ByteArray := prog_10_method_58_code
def y_159 : MethodName := ⟨"PartTextModel", "secondPort", "(I)I"⟩
abbrev c_160 : ByteArray := prog_10_method_56_code
def y_160 : MethodName := ⟨"PartTextModel", "breaksWays", "(I)Z"⟩
abbrev c_161 : ByteArray := prog_10_method_60_code
def y_161 : MethodName := ⟨"PartTextModel", "breaksTypes", "(III)Z"⟩
abbrev c_162 : ByteArray := prog_10_method_59_code
def y_162 : MethodName := ⟨"PartTextModel", "breaksData", "(II)Z"⟩
abbrev c_163 : ByteArray := prog_10_method_61_code
def y_163 : MethodName := ⟨"PartTextModel", "breaksTwice", "(I)Z"⟩
abbrev c_164 : ByteArray := prog_10_method_62_code
def y_164 : MethodName := ⟨"PartTextModel", "breaksRing", "(I)Z"⟩
abbrev c_165 : ByteArray := prog_10_method_63_code
def y_165 : MethodName := ⟨"PartTextModel", "breaks", "(II)Z"⟩
abbrev c_166 : ByteArray := prog_10_method_64_code
def y_166 : MethodName := ⟨"PartTextModel", "check", "()I"⟩
abbrev c_167 : ByteArray := prog_1_method_21_code
def y_167 : MethodName := ⟨"PartText", "commonDivisor", "(II)I"⟩
abbrev c_168 : ByteArray := prog_1_method_9_code
def y_168 : MethodName := ⟨"PartText", "unit", "(III)I"⟩
abbrev c_169 : ByteArray := prog_10_method_50_code
def y_169 : MethodName := ⟨"PartTextModel", "divisor", "(JJ)J"⟩
abbrev c_170 : ByteArray := prog_10_method_51_code
def y_170 : MethodName := ⟨"PartTextModel", "unit", "(III)I"⟩
abbrev c_171 : ByteArray := prog_7_method_7_code
def y_171 : MethodName := ⟨"PartText$Words", "nameOf", "(I)J"⟩
abbrev c_172 : ByteArray := prog_7_method_5_code
def y_172 : MethodName := ⟨"PartText$Words", "octetOf", "(I)I"⟩
abbrev c_173 : ByteArray := prog_8_method_5_code
def y_173 : MethodName := ⟨"PartText$Writer", "writeName", "(J)V"⟩
abbrev c_174 : ByteArray := prog_2_method_6_code
def y_174 : MethodName := ⟨"PartText$Edition", "nameOf", "(I)J"⟩
abbrev c_175 : ByteArray := prog_8_method_6_code
def y_175 : MethodName := ⟨"PartText$Writer", "writeNumber", "(I)V"⟩
abbrev c_176 : ByteArray := prog_8_method_4_code
def y_176 : MethodName := ⟨"PartText$Writer", "writeToken", "(LPartText$Edition;II)V"⟩
abbrev c_177 : ByteArray := prog_8_method_3_code
def y_177 : MethodName := ⟨"PartText$Writer", "writeRow", "(LPartText$Edition;I)V"⟩
abbrev c_178 : ByteArray := prog_8_method_2_code
def y_178 : MethodName := ⟨"PartText$Writer", "write", "(LPartText$Edition;)V"⟩
abbrev c_179 : ByteArray := prog_3_method_6_code
def y_179 : MethodName := ⟨"PartText$Octets", "isOverfull", "()Z"⟩
abbrev c_180 : ByteArray := prog_1_method_10_code
def y_180 : MethodName := ⟨"PartText", "print", "()I"⟩
abbrev c_181 : ByteArray := prog_10_method_65_code
def y_181 : MethodName := ⟨"PartTextModel", "print", "()I"⟩
abbrev c_182 : ByteArray := prog_1_method_11_code
def y_182 : MethodName := ⟨"PartText", "at", "(I)I"⟩
abbrev c_183 : ByteArray := prog_10_method_3_code
def y_183 : MethodName := ⟨"PartTextModel", "at", "(I)I"⟩
abbrev c_184 : ByteArray := prog_2_method_29_code
def y_184 : MethodName := ⟨"PartText$Edition", "isSameToken", "(IILPartText$Edition;I)Z"⟩
abbrev c_185 : ByteArray := prog_2_method_28_code
def y_185 : MethodName := ⟨"PartText$Edition", "isAlike", "(ILPartText$Edition;I)Z"⟩
abbrev c_186 : ByteArray := prog_2_method_27_code
def y_186 : MethodName := ⟨"PartText$Edition", "isIn", "(LPartText$Edition;I)Z"⟩
abbrev c_187 : ByteArray := prog_2_method_26_code
def y_187 : MethodName := ⟨"PartText$Edition", "countMissingIn", "(LPartText$Edition;)I"⟩
abbrev c_188 : ByteArray := prog_1_method_12_code
def y_188 : MethodName := ⟨"PartText", "compare", "(I)I"⟩
abbrev c_189 : ByteArray := prog_10_method_66_code
def y_189 : MethodName := ⟨"PartTextModel", "isAlike", "(III)Z"⟩
abbrev c_190 : ByteArray := prog_10_method_67_code
def y_190 : MethodName := ⟨"PartTextModel", "compare", "(I)I"⟩
abbrev c_191 : ByteArray := code
def y_191 : MethodName := ⟨"PartTextLaw", "law", "([I)Z"⟩
def jMIs : List jx_M := [(y_0, c_0, 1, (some .byte)), (y_1, c_1, 1, (some .int)), (y_2, c_2, 1, (some .boolean)), (y_3, c_3, 3, (some .int)), (y_4, c_4, 2, none), (y_5, c_5, 2, (some .char)), (y_6, c_6, 2, (some .char)), (y_7, c_7, 1, (some .boolean)), (y_8, c_8, 1, (some .boolean)), (y_9, c_9, 1, (some .int)), (y_10, c_10, 6, none), (y_11, c_11, 1, none), (y_12, c_12, 3, none), (y_13, c_13, 2, none), (y_14, c_14, 3, none), (y_15, c_15, 1, none), (y_16, c_16, 2, none), (y_17, c_17, 1, none), (y_18, c_18, 2, none), (y_19, c_19, 4, none), (y_20, c_20, 4, none), (y_21, c_21, 1, (some .int)), (y_22, c_22, 1, none), (y_23, c_23, 2, (some (Jvm.ClassFile.FieldType.object "PartText$Edition"))), (y_24, c_24, 1, none), (y_25, c_25, 1, none), (y_26, c_26, 2, none), (y_27, c_27, 1, (some .int)), (y_28, c_28, 2, (some .int)), (y_29, c_29, 1, (some .boolean)), (y_30, c_30, 1, none), (y_31, c_31, 4, (some .int)), (y_32, c_32, 5, none), (y_33, c_33, 2, none), (y_34, c_34, 1, (some .boolean)), (y_35, c_35, 6, (some .int)), (y_36, c_36, 4, (some .int)), (y_37, c_37, 3, (some .int)), (y_38, c_38, 2, (some .int)), (y_39, c_39, 2, none), (y_40, c_40, 1, (some .int)), (y_41, c_41, 1, (some .boolean)), (y_42, c_42, 1, (some .int)), (y_43, c_43, 2, (some .boolean)), (y_44, c_44, 3, none), (y_45, c_45, 3, none), (y_46, c_46, 3, (some .boolean)), (y_47, c_47, 2, (some .int)), (y_48, c_48, 1, (some .int)), (y_49, c_49, 2, (some .boolean)), (y_50, c_50, 1, (some .int)), (y_51, c_51, 1, (some (Jvm.ClassFile.FieldType.object "java/lang/String"))), (y_52, c_52, 4, (some .boolean)), (y_53, c_53, 1, (some .long)), (y_54, c_54, 4, (some .int)), (y_55, c_55, 3, (some .boolean)), (y_56, c_56, 3, (some .boolean)), (y_57, c_57, 2, (some .boolean)), (y_58, c_58, 2, (some .boolean)), (y_59, c_59, 3, (some .boolean)), (y_60, c_60, 4, (some .boolean)), (y_61, c_61, 1, none), (y_62, c_62, 1, (some .int)), (y_63, c_63, 1, (some .int)), (y_64, c_64, 3, (some .int)), (y_65, c_65, 4, (some .boolean)), (y_66, c_66, 5, (some .int)), (y_67, c_67, 3, none), (y_68, c_68, 6, (some .int)), (y_69, c_69, 3, (some .int)), (y_70, c_70, 4, (some .int)), (y_71, c_71, 1, (some .int)), (y_72, c_72, 1, (some .boolean)), (y_73, c_73, 1, (some .boolean)), (y_74, c_74, 6, (some .long)), (y_75, c_75, 6, (some .int)), (y_76, c_76, 6, (some .int)), (y_77, c_77, 4, none), (y_78, c_78, 2, (some .int)), (y_79, c_79, 2, none), (y_80, c_80, 3, none), (y_81, c_81, 3, none), (y_82, c_82, 1, (some .boolean)), (y_83, c_83, 2, none), (y_84, c_84, 2, (some .boolean)), (y_85, c_85, 2, (some .int)), (y_86, c_86, 2, (some .boolean)), (y_87, c_87, 4, (some .int)), (y_88, c_88, 6, none), (y_89, c_89, 5, (some .int)), (y_90, c_90, 2, (some .boolean)), (y_91, c_91, 2, none), (y_92, c_92, 4, none), (y_93, c_93, 3, none), (y_94, c_94, 2, none), (y_95, c_95, 3, none), (y_96, c_96, 2, none), (y_97, c_97, 7, none), (y_98, c_98, 2, none), (y_99, c_99, 3, none), (y_100, c_100, 2, (some .boolean)), (y_101, c_101, 2, (some .boolean)), (y_102, c_102, 3, (some .boolean)), (y_103, c_103, 5, (some .int)), (y_104, c_104, 1, (some .int)), (y_105, c_105, 2, (some .int)), (y_106, c_106, 1, (some (Jvm.ClassFile.FieldType.object "PartText$Edition"))), (y_107, c_107, 6, (some .int)), (y_108, c_108, 2, (some .int)), (y_109, c_109, 5, (some .int)), (y_110, c_110, 6, (some .int)), (y_111, c_111, 4, (some .int)), (y_112, c_112, 5, (some .int)), (y_113, c_113, 2, (some .int)), (y_114, c_114, 4, (some .int)), (y_115, c_115, 6, (some .int)), (y_116, c_116, 5, (some .int)), (y_117, c_117, 2, (some .int)), (y_118, c_118, 5, (some .int)), (y_119, c_119, 6, (some .int)), (y_120, c_120, 3, (some .int)), (y_121, c_121, 3, (some .int)), (y_122, c_122, 2, (some .int)), (y_123, c_123, 3, (some .int)), (y_124, c_124, 2, (some .int)), (y_125, c_125, 2, (some .int)), (y_126, c_126, 5, (some .int)), (y_127, c_127, 6, (some .int)), (y_128, c_128, 3, (some .int)), (y_129, c_129, 5, (some .int)), (y_130, c_130, 6, (some .int)), (y_131, c_131, 3, (some .int)), (y_132, c_132, 3, (some .int)), (y_133, c_133, 4, (some .int)), (y_134, c_134, 4, (some .int)), (y_135, c_135, 5, (some .int)), (y_136, c_136, 2, (some .int)), (y_137, c_137, 6, (some .int)), (y_138, c_138, 4, (some .boolean)), (y_139, c_139, 2, (some .int)), (y_140, c_140, 4, (some .boolean)), (y_141, c_141, 6, (some .int)), (y_142, c_142, 4, (some .int)), (y_143, c_143, 6, (some .boolean)), (y_144, c_144, 3, (some .int)), (y_145, c_145, 3, (some .boolean)), (y_146, c_146, 10, (some .boolean)), (y_147, c_147, 8, (some .int)), (y_148, c_148, 7, (some .int)), (y_149, c_149, 5, (some .boolean)), (y_150, c_150, 7, (some .int)), (y_151, c_151, 3, (some .int)), (y_152, c_152, 4, (some .int)), (y_153, c_153, 2, (some .int)), (y_154, c_154, 3, (some .boolean)), (y_155, c_155, 5, (some .boolean)), (y_156, c_156, 6, (some .boolean)), (y_157, c_157, 4, (some .boolean)), (y_158, c_158, 2, (some .int)), (y_159, c_159, 2, (some .int)), (y_160, c_160, 5, (some .boolean)), (y_161, c_161, 10, (some .boolean)), (y_162, c_162, 8, (some .boolean)), (y_163, c_163, 5, (some .boolean)), (y_164, c_164, 6, (some .boolean)), (y_165, c_165, 4, (some .boolean)), (y_166, c_166, 3, (some .int)), (y_167, c_167, 6, (some .int)), (y_168, c_168, 10, (some .int)), (y_169, c_169, 10, (some .long)), (y_170, c_170, 12, (some .int)), (y_171, c_171, 3, (some .long)), (y_172, c_172, 1, (some .int)), (y_173, c_173, 6, none), (y_174, c_174, 2, (some .long)), (y_175, c_175, 4, none), (y_176, c_176, 5, none), (y_177, c_177, 4, none), (y_178, c_178, 3, none), (y_179, c_179, 1, (some .boolean)), (y_180, c_180, 2, (some .int)), (y_181, c_181, 3, (some .int)), (y_182, c_182, 2, (some .int)), (y_183, c_183, 2, (some .int)), (y_184, c_184, 8, (some .boolean)), (y_185, c_185, 5, (some .boolean)), (y_186, c_186, 4, (some .boolean)), (y_187, c_187, 4, (some .int)), (y_188, c_188, 4, (some .int)), (y_189, c_189, 7, (some .boolean)), (y_190, c_190, 8, (some .int)), (y_191, c_191, 4, (some .boolean))]
def jMI (m : Nat) : jx_M := jMIs.getD m (y_0, c_0, 0, none)
def jDs : List (Nat × Nat) := [(0, 0), (1, 20), (0, 0), (0, 0), (1, 22), (2, 43), (3, 64), (0, 0), (0, 0), (1, 20), (4, 85), (1, 20), (1, 20), (1, 20), (1, 20), (1, 20), (5, 110), (1, 20), (0, 0), (1, 21), (0, 0), (0, 0), (1, 20), (2, 40), (0, 0), (0, 0), (0, 0), (0, 0), (0, 0), (0, 0), (1, 21), (0, 0), (2, 40), (2, 40), (0, 0), (0, 0), (1, 25), (2, 48), (3, 70), (4, 91), (0, 0), (2, 40), (0, 0), (0, 0), (0, 0), (0, 0), (1, 22), (0, 0), (0, 0), (0, 0), (0, 0), (0, 0), (2, 44), (0, 0), (0, 0), (0, 0), (2, 44), (2, 44), (3, 65), (4, 86), (5, 112), (0, 0), (0, 0), (1, 20), (0, 0), (0, 0), (1, 23), (2, 47), (1, 23), (2, 48), (6, 135), (0, 0), (0, 0), (0, 0), (0, 0), (1, 25), (0, 0), (2, 50), (1, 20), (0, 0), (1, 21), (2, 43), (3, 73), (4, 93), (4, 93), (5, 114), (5, 114), (5, 114), (0, 0), (6, 137), (5, 114), (6, 135), (6, 135), (7, 158), (6, 135), (8, 180), (9, 202), (10, 223), (0, 0), (0, 0), (0, 0), (0, 0), (1, 21), (2, 43), (3, 67), (11, 249), (0, 0), (1, 23), (2, 48), (3, 70), (2, 43), (3, 68), (3, 69), (0, 0), (2, 48), (4, 93), (2, 43), (3, 67), (2, 43), (4, 88), (0, 0), (1, 22), (0, 0), (2, 47), (3, 71), (0, 0), (2, 44), (4, 93), (3, 67), (0, 0), (4, 89), (2, 47), (3, 71), (2, 47), (3, 71), (4, 94), (3, 67), (4, 89), (2, 47), (1, 22), (2, 47), (3, 70), (0, 0), (1, 23), (2, 48), (1, 21), (1, 22), (2, 51), (3, 78), (1, 22), (4, 104), (5, 130), (6, 152), (7, 175), (0, 0), (4, 89), (4, 89), (5, 114), (4, 89), (4, 89), (5, 110), (3, 67), (5, 110), (5, 110), (4, 88), (6, 137), (7, 160), (0, 0), (2, 48), (0, 0), (3, 68), (0, 0), (0, 0), (1, 21), (0, 0), (1, 21), (2, 46), (3, 70), (4, 93), (0, 0), (5, 115), (0, 0), (1, 21), (0, 0), (1, 22), (2, 49), (3, 73), (4, 96), (5, 119), (0, 0), (1, 26), (12, 270)]
def jD (m : Nat) : Nat × Nat := jDs.getD m (0, 0)
def jNls : List Nat := [1, 1, 1, 3, 2, 2, 2, 1, 1, 1, 6, 1, 3, 2, 3, 1, 2, 1, 2, 4, 4, 1, 1, 2, 1, 1, 2, 1, 2, 1, 1, 4, 5, 2, 1, 6, 4, 3, 2, 2, 1, 1, 1, 2, 3, 3, 3, 2, 1, 2, 1, 1, 4, 1, 4, 3, 3, 2, 2, 3, 4, 1, 1, 1, 3, 4, 5, 3, 6, 3, 4, 1, 1, 1, 6, 6, 6, 4, 2, 2, 3, 3, 1, 2, 2, 2, 2, 4, 6, 5, 2, 2, 4, 3, 2, 3, 2, 7, 2, 3, 2, 2, 3, 5, 1, 2, 1, 6, 2, 5, 6, 4, 5, 2, 4, 6, 5, 2, 5, 6, 3, 3, 2, 3, 2, 2, 5, 6, 3, 5, 6, 3, 3, 4, 4, 5, 2, 6, 4, 2, 4, 6, 4, 6, 3, 3, 10, 8, 7, 5, 7, 3, 4, 2, 3, 5, 6, 4, 2, 2, 5, 10, 8, 5, 6, 4, 3, 6, 10, 10, 12, 3, 1, 6, 2, 4, 5, 4, 3, 1, 2, 3, 2, 2, 8, 5, 4, 4, 4, 7, 8, 4]
def jNl (m : Nat) : Nat := jNls.getD m 0
def jlen : List Nat := [96, 0, 8, 7, 7, 2, 2, 8, 4, 2, 4]
def jbyt : List (List Int32) := [[117, 110, 105, 116, 32, 116, 121, 112, 101, 32, 105, 110, 116, 101, 114, 102, 97, 99, 101, 32, 100, 97, 116, 97, 32, 112, 97, 114, 116, 32, 112, 114, 111, 118, 105, 100, 101, 115, 32, 114, 101, 113, 117, 105, 114, 101, 115, 32, 107, 101, 101, 112, 115, 32, 114, 117, 110, 32, 101, 118, 101, 114, 121, 32, 111, 110, 32, 114, 101, 97, 100, 115, 32, 119, 114, 105, 116, 101, 115, 32, 119, 104, 111, 108, 101, 32, 99, 111, 110, 110, 101, 99, 116, 32, 116, 111], [], [123, 125, 59, 58, 46, 61, 47, 45], [78, 61, 81, 47, 81, 78, 59], [78, 61, 86, 84, 86, 78, 59], [78, 123], [78, 82], [78, 46, 78, 84, 78, 46, 78, 59], [78, 58, 78, 59], [90, 65], [78, 46, 78, 65]]
def jStr : List (String × Nat × String × Nat) := [("PartText$Words", 15, "unit type interface data part provides requires keeps run every on reads writes whole connect to", 0), ("PartText$Reader", 19, "", 1), ("PartText$Scanner", 60, "{};:.=/-", 2), ("PartText$Reader", 109, "N=Q/QN;", 3), ("PartText$Reader", 111, "N=VTVN;", 4), ("PartText$Reader", 113, "N{", 5), ("PartText$Reader", 115, "NR", 6), ("PartText$Reader", 117, "N.NTN.N;", 7), ("PartText$Reader", 119, "N:N;", 8), ("PartText$Reader", 148, "ZA", 9), ("PartText$Reader", 150, "N.NA", 10)]
/-- what is known of every state: the literals, the statics of the JDK, the array class, the script -/
def jKS (H0 : Heap) (G : jx_Gv) (s : State) : Prop := (∀ q ∈ jStr, vk_R q.1 q.2.1 q.2.2.1 (G.1 q.2.2.2) s) ∧ vk_S 11 jlen jbyt G.1 G.2.1 (fun q => H0.size ≤ q) s H0 ∧ va_Z "java/lang/String" "COMPACT_STRINGS" "Z" (.int 1) (fun q => H0.size ≤ q) s H0 ∧ va_Z "jdk/internal/util/Preconditions" "SIOOBE_FORMATTER" "Ljava/util/function/BiFunction;" (va_rf G.2.2.2) (fun q => H0.size ≤ q) s H0 ∧ va_AO "PartText$Edition" s ∧ va_X G.2.2.1.1 G.2.2.1.2.1 G.2.2.1.2.2 s H0
abbrev jZ (l : Launch) (dC : Nat → ClassId) (dI : Nat → Nat → Nat) (aC : Nat → ClassId) (H0 : Heap) (G : jx_Gv) : jx_Z := (l, dC, dI, aC, H0, jC, jTy, jT, jKS H0 G, jMI, jD)
theorem jx_mem_ps {big ws : List Cond} (ps : List Nat) (hp : ws = ps.filterMap (fun i => big[i]?)) : ∀ w ∈ ws, w ∈ big := by
  intro w hw
  rw [hp] at hw
  obtain ⟨i, -, hi⟩ := List.mem_filterMap.mp hw
  exact List.mem_of_getElem? hi
theorem hc_0 {l : Launch} {dC : Nat → ClassId} {dI : Nat → Nat → Nat} {aC : Nat → ClassId} {H0 : Heap} {G : jx_Gv} : (jz_c (jZ l dC dI aC H0 G))[0]? = some ("PartText", fT_0, 7) := rfl
theorem hi_0 : ∀ w ∈ u_ws "PartText" fT_0 7, w ∈ jT := fun w hw => List.mem_filter.mpr ⟨jx_mem_ps [277, 279, 281, 283, 285, 287, 289] (by decide +kernel) w hw, List.all_eq_true.mp (show (u_ws "PartText" fT_0 7).all goodWord = true by decide +kernel) w hw⟩
theorem hn_0 : ∀ a, a < 7 → ∀ b, b < 7 → a ≠ b → (fT_0 a).2.1 ≠ (fT_0 b).2.1 := by decide +kernel
theorem ht_0 : ∀ k, k < 7 → parseFieldDescriptor (fT_0 k).2.2.1 = some (ft_0 k) := by decide +kernel
theorem hc_1 {l : Launch} {dC : Nat → ClassId} {dI : Nat → Nat → Nat} {aC : Nat → ClassId} {H0 : Heap} {G : jx_Gv} : (jz_c (jZ l dC dI aC H0 G))[1]? = some ("PartText$Octets", fT_1, 3) := rfl
theorem hi_1 : ∀ w ∈ u_ws "PartText$Octets" fT_1 3, w ∈ jT := fun w hw => List.mem_filter.mpr ⟨jx_mem_ps [183, 185, 187] (by decide +kernel) w hw, List.all_eq_true.mp (show (u_ws "PartText$Octets" fT_1 3).all goodWord = true by decide +kernel) w hw⟩
theorem hn_1 : ∀ a, a < 3 → ∀ b, b < 3 → a ≠ b → (fT_1 a).2.1 ≠ (fT_1 b).2.1 := by decide +kernel
theorem ht_1 : ∀ k, k < 3 → parseFieldDescriptor (fT_1 k).2.2.1 = some (ft_1 k) := by decide +kernel
theorem hc_2 {l : Launch} {dC : Nat → ClassId} {dI : Nat → Nat → Nat} {aC : Nat → ClassId} {H0 : Heap} {G : jx_Gv} : (jz_c (jZ l dC dI aC H0 G))[2]? = some ("PartText$Words", fT_2, 1) := rfl
theorem hi_2 : ∀ w ∈ u_ws "PartText$Words" fT_2 1, w ∈ jT := fun w hw => List.mem_filter.mpr ⟨jx_mem_ps [169] (by decide +kernel) w hw, List.all_eq_true.mp (show (u_ws "PartText$Words" fT_2 1).all goodWord = true by decide +kernel) w hw⟩
theorem hn_2 : ∀ a, a < 1 → ∀ b, b < 1 → a ≠ b → (fT_2 a).2.1 ≠ (fT_2 b).2.1 := by decide +kernel
theorem ht_2 : ∀ k, k < 1 → parseFieldDescriptor (fT_2 k).2.2.1 = some (ft_2 k) := by decide +kernel
theorem hc_3 {l : Launch} {dC : Nat → ClassId} {dI : Nat → Nat → Nat} {aC : Nat → ClassId} {H0 : Heap} {G : jx_Gv} : (jz_c (jZ l dC dI aC H0 G))[3]? = some ("PartText$Scanner", fT_3, 7) := rfl
theorem hi_3 : ∀ w ∈ u_ws "PartText$Scanner" fT_3 7, w ∈ jT := fun w hw => List.mem_filter.mpr ⟨jx_mem_ps [206, 208, 210, 212, 214, 216, 218] (by decide +kernel) w hw, List.all_eq_true.mp (show (u_ws "PartText$Scanner" fT_3 7).all goodWord = true by decide +kernel) w hw⟩
theorem hn_3 : ∀ a, a < 7 → ∀ b, b < 7 → a ≠ b → (fT_3 a).2.1 ≠ (fT_3 b).2.1 := by decide +kernel
theorem ht_3 : ∀ k, k < 7 → parseFieldDescriptor (fT_3 k).2.2.1 = some (ft_3 k) := by decide +kernel
theorem hc_4 {l : Launch} {dC : Nat → ClassId} {dI : Nat → Nat → Nat} {aC : Nat → ClassId} {H0 : Heap} {G : jx_Gv} : (jz_c (jZ l dC dI aC H0 G))[4]? = some ("PartText$Reader", fT_4, 6) := rfl
theorem hi_4 : ∀ w ∈ u_ws "PartText$Reader" fT_4 6, w ∈ jT := fun w hw => List.mem_filter.mpr ⟨jx_mem_ps [232, 234, 236, 238, 240, 242] (by decide +kernel) w hw, List.all_eq_true.mp (show (u_ws "PartText$Reader" fT_4 6).all goodWord = true by decide +kernel) w hw⟩
theorem hn_4 : ∀ a, a < 6 → ∀ b, b < 6 → a ≠ b → (fT_4 a).2.1 ≠ (fT_4 b).2.1 := by decide +kernel
theorem ht_4 : ∀ k, k < 6 → parseFieldDescriptor (fT_4 k).2.2.1 = some (ft_4 k) := by decide +kernel
theorem hc_5 {l : Launch} {dC : Nat → ClassId} {dI : Nat → Nat → Nat} {aC : Nat → ClassId} {H0 : Heap} {G : jx_Gv} : (jz_c (jZ l dC dI aC H0 G))[5]? = some ("PartText$Writer", fT_5, 2) := rfl
theorem hi_5 : ∀ w ∈ u_ws "PartText$Writer" fT_5 2, w ∈ jT := fun w hw => List.mem_filter.mpr ⟨jx_mem_ps [253, 255] (by decide +kernel) w hw, List.all_eq_true.mp (show (u_ws "PartText$Writer" fT_5 2).all goodWord = true by decide +kernel) w hw⟩
theorem hn_5 : ∀ a, a < 2 → ∀ b, b < 2 → a ≠ b → (fT_5 a).2.1 ≠ (fT_5 b).2.1 := by decide +kernel
theorem ht_5 : ∀ k, k < 2 → parseFieldDescriptor (fT_5 k).2.2.1 = some (ft_5 k) := by decide +kernel
theorem hc_6 {l : Launch} {dC : Nat → ClassId} {dI : Nat → Nat → Nat} {aC : Nat → ClassId} {H0 : Heap} {G : jx_Gv} : (jz_c (jZ l dC dI aC H0 G))[6]? = some ("PartText$Rules", fT_6, 1) := rfl
theorem hi_6 : ∀ w ∈ u_ws "PartText$Rules" fT_6 1, w ∈ jT := fun w hw => List.mem_filter.mpr ⟨jx_mem_ps [265] (by decide +kernel) w hw, List.all_eq_true.mp (show (u_ws "PartText$Rules" fT_6 1).all goodWord = true by decide +kernel) w hw⟩
theorem hn_6 : ∀ a, a < 1 → ∀ b, b < 1 → a ≠ b → (fT_6 a).2.1 ≠ (fT_6 b).2.1 := by decide +kernel
theorem ht_6 : ∀ k, k < 1 → parseFieldDescriptor (fT_6 k).2.2.1 = some (ft_6 k) := by decide +kernel
theorem hc_7 {l : Launch} {dC : Nat → ClassId} {dI : Nat → Nat → Nat} {aC : Nat → ClassId} {H0 : Heap} {G : jx_Gv} : (jz_c (jZ l dC dI aC H0 G))[7]? = some ("PartText$Edition", fT_7, 11) := rfl
theorem hi_7 : ∀ w ∈ u_ws "PartText$Edition" fT_7 11, w ∈ jT := fun w hw => List.mem_filter.mpr ⟨jx_mem_ps [328, 330, 332, 334, 336, 338, 340, 342, 344, 346, 348] (by decide +kernel) w hw, List.all_eq_true.mp (show (u_ws "PartText$Edition" fT_7 11).all goodWord = true by decide +kernel) w hw⟩
theorem hn_7 : ∀ a, a < 11 → ∀ b, b < 11 → a ≠ b → (fT_7 a).2.1 ≠ (fT_7 b).2.1 := by decide +kernel
theorem ht_7 : ∀ k, k < 11 → parseFieldDescriptor (fT_7 k).2.2.1 = some (ft_7 k) := by decide +kernel
theorem hc_8 {l : Launch} {dC : Nat → ClassId} {dI : Nat → Nat → Nat} {aC : Nat → ClassId} {H0 : Heap} {G : jx_Gv} : (jz_c (jZ l dC dI aC H0 G))[8]? = some ("PartTextModel", fT_8, 57) := rfl
theorem hi_8 : ∀ w ∈ u_ws "PartTextModel" fT_8 57, w ∈ jT := fun w hw => List.mem_filter.mpr ⟨jx_mem_ps [893, 895, 897, 899, 901, 903, 905, 907, 909, 911, 913, 915, 917, 919, 921, 923, 925, 927, 929, 931, 933, 935, 937, 939, 941, 943, 945, 947, 949, 951, 953, 955, 957, 959, 961, 963, 965, 967, 969, 971, 973, 975, 977, 979, 981, 983, 985, 987, 989, 991, 993, 995, 997, 999, 1001, 1003, 1005] (by decide +kernel) w hw, List.all_eq_true.mp (show (u_ws "PartTextModel" fT_8 57).all goodWord = true by decide +kernel) w hw⟩
theorem hn_8 : ∀ a, a < 57 → ∀ b, b < 57 → a ≠ b → (fT_8 a).2.1 ≠ (fT_8 b).2.1 := by decide +kernel
theorem ht_8 : ∀ k, k < 57 → parseFieldDescriptor (fT_8 k).2.2.1 = some (ft_8 k) := by decide +kernel
theorem hm_0 {l : Launch} {dC : Nat → ClassId} {dI : Nat → Nat → Nat} {aC : Nat → ClassId} {H0 : Heap} {G : jx_Gv} : (jz_m (jZ l dC dI aC H0 G) 0).2.1 = c_0 := rfl
theorem ho_0 {l : Launch} {dC : Nat → ClassId} {dI : Nat → Nat → Nat} {aC : Nat → ClassId} {H0 : Heap} {G : jx_Gv} : (jz_m (jZ l dC dI aC H0 G) 0).1.cls = "java/lang/String" := rfl
set_option maxRecDepth 100000 in
theorem hw_0 {l : Launch} {dC : Nat → ClassId} {dI : Nat → Nat → Nat} {aC : Nat → ClassId} {H0 : Heap} {G : jx_Gv} : Jvm.Cond.code (jz_m (jZ l dC dI aC H0 G) 0).1 (jz_m (jZ l dC dI aC H0 G) 0).2.1 (jz_m (jZ l dC dI aC H0 G) 0).2.2.1 (jz_m (jZ l dC dI aC H0 G) 0).2.2.2 ∈ jz_T (jZ l dC dI aC H0 G) := List.mem_filter.mpr ⟨List.mem_of_getElem? (i := 117) rfl, rfl⟩
theorem hp_0 {l : Launch} {dC : Nat → ClassId} {dI : Nat → Nat → Nat} {aC : Nat → ClassId} {H0 : Heap} {G : jx_Gv} : plainName (jz_m (jZ l dC dI aC H0 G) 0).1.cls = true := by show plainName "java/lang/String" = true; decide +kernel
theorem hs_0 {l : Launch} {dC : Nat → ClassId} {dI : Nat → Nat → Nat} {aC : Nat → ClassId} {H0 : Heap} {G : jx_Gv} : (jz_m (jZ l dC dI aC H0 G) 0).1.cls ≠ "java/lang/invoke/MethodHandle" ∧ (jz_m (jZ l dC dI aC H0 G) 0).1.cls ≠ "java/lang/invoke/VarHandle" ∧ (parseMethodDescriptor (jz_m (jZ l dC dI aC H0 G) 0).1.desc).map (fun d => d.parameters.length) = some 0 := by show "java/lang/String" ≠ _ ∧ "java/lang/String" ≠ _ ∧ (parseMethodDescriptor "()B").map _ = _; decide +kernel
theorem hm_1 {l : Launch} {dC : Nat → ClassId} {dI : Nat → Nat → Nat} {aC : Nat → ClassId} {H0 : Heap} {G : jx_Gv} : (jz_m (jZ l dC dI aC H0 G) 1).2.1 = c_1 := rfl
theorem ho_1 {l : Launch} {dC : Nat → ClassId} {dI : Nat → Nat → Nat} {aC : Nat → ClassId} {H0 : Heap} {G : jx_Gv} : (jz_m (jZ l dC dI aC H0 G) 1).1.cls = "java/lang/String" := rfl
set_option maxRecDepth 100000 in
theorem hw_1 {l : Launch} {dC : Nat → ClassId} {dI : Nat → Nat → Nat} {aC : Nat → ClassId} {H0 : Heap} {G : jx_Gv} : Jvm.Cond.code (jz_m (jZ l dC dI aC H0 G) 1).1 (jz_m (jZ l dC dI aC H0 G) 1).2.1 (jz_m (jZ l dC dI aC H0 G) 1).2.2.1 (jz_m (jZ l dC dI aC H0 G) 1).2.2.2 ∈ jz_T (jZ l dC dI aC H0 G) := List.mem_filter.mpr ⟨List.mem_of_getElem? (i := 113) rfl, rfl⟩
theorem hp_1 {l : Launch} {dC : Nat → ClassId} {dI : Nat → Nat → Nat} {aC : Nat → ClassId} {H0 : Heap} {G : jx_Gv} : plainName (jz_m (jZ l dC dI aC H0 G) 1).1.cls = true := by show plainName "java/lang/String" = true; decide +kernel
theorem hs_1 {l : Launch} {dC : Nat → ClassId} {dI : Nat → Nat → Nat} {aC : Nat → ClassId} {H0 : Heap} {G : jx_Gv} : (jz_m (jZ l dC dI aC H0 G) 1).1.cls ≠ "java/lang/invoke/MethodHandle" ∧ (jz_m (jZ l dC dI aC H0 G) 1).1.cls ≠ "java/lang/invoke/VarHandle" ∧ (parseMethodDescriptor (jz_m (jZ l dC dI aC H0 G) 1).1.desc).map (fun d => d.parameters.length) = some 0 := by show "java/lang/String" ≠ _ ∧ "java/lang/String" ≠ _ ∧ (parseMethodDescriptor "()I").map _ = _; decide +kernel
theorem hm_2 {l : Launch} {dC : Nat → ClassId} {dI : Nat → Nat → Nat} {aC : Nat → ClassId} {H0 : Heap} {G : jx_Gv} : (jz_m (jZ l dC dI aC H0 G) 2).2.1 = c_2 := rfl
theorem ho_2 {l : Launch} {dC : Nat → ClassId} {dI : Nat → Nat → Nat} {aC : Nat → ClassId} {H0 : Heap} {G : jx_Gv} : (jz_m (jZ l dC dI aC H0 G) 2).1.cls = "java/lang/String" := rfl
set_option maxRecDepth 100000 in
theorem hw_2 {l : Launch} {dC : Nat → ClassId} {dI : Nat → Nat → Nat} {aC : Nat → ClassId} {H0 : Heap} {G : jx_Gv} : Jvm.Cond.code (jz_m (jZ l dC dI aC H0 G) 2).1 (jz_m (jZ l dC dI aC H0 G) 2).2.1 (jz_m (jZ l dC dI aC H0 G) 2).2.2.1 (jz_m (jZ l dC dI aC H0 G) 2).2.2.2 ∈ jz_T (jZ l dC dI aC H0 G) := List.mem_filter.mpr ⟨List.mem_of_getElem? (i := 127) rfl, rfl⟩
theorem hp_2 {l : Launch} {dC : Nat → ClassId} {dI : Nat → Nat → Nat} {aC : Nat → ClassId} {H0 : Heap} {G : jx_Gv} : plainName (jz_m (jZ l dC dI aC H0 G) 2).1.cls = true := by show plainName "java/lang/String" = true; decide +kernel
theorem hs_2 {l : Launch} {dC : Nat → ClassId} {dI : Nat → Nat → Nat} {aC : Nat → ClassId} {H0 : Heap} {G : jx_Gv} : (jz_m (jZ l dC dI aC H0 G) 2).1.cls ≠ "java/lang/invoke/MethodHandle" ∧ (jz_m (jZ l dC dI aC H0 G) 2).1.cls ≠ "java/lang/invoke/VarHandle" ∧ (parseMethodDescriptor (jz_m (jZ l dC dI aC H0 G) 2).1.desc).map (fun d => d.parameters.length) = some 0 := by show "java/lang/String" ≠ _ ∧ "java/lang/String" ≠ _ ∧ (parseMethodDescriptor "()Z").map _ = _; decide +kernel
theorem hm_3 {l : Launch} {dC : Nat → ClassId} {dI : Nat → Nat → Nat} {aC : Nat → ClassId} {H0 : Heap} {G : jx_Gv} : (jz_m (jZ l dC dI aC H0 G) 3).2.1 = c_3 := rfl
theorem ho_3 {l : Launch} {dC : Nat → ClassId} {dI : Nat → Nat → Nat} {aC : Nat → ClassId} {H0 : Heap} {G : jx_Gv} : (jz_m (jZ l dC dI aC H0 G) 3).1.cls = "jdk/internal/util/Preconditions" := rfl
set_option maxRecDepth 100000 in
theorem hw_3 {l : Launch} {dC : Nat → ClassId} {dI : Nat → Nat → Nat} {aC : Nat → ClassId} {H0 : Heap} {G : jx_Gv} : Jvm.Cond.code (jz_m (jZ l dC dI aC H0 G) 3).1 (jz_m (jZ l dC dI aC H0 G) 3).2.1 (jz_m (jZ l dC dI aC H0 G) 3).2.2.1 (jz_m (jZ l dC dI aC H0 G) 3).2.2.2 ∈ jz_T (jZ l dC dI aC H0 G) := List.mem_filter.mpr ⟨List.mem_of_getElem? (i := 138) rfl, rfl⟩
theorem hp_3 {l : Launch} {dC : Nat → ClassId} {dI : Nat → Nat → Nat} {aC : Nat → ClassId} {H0 : Heap} {G : jx_Gv} : plainName (jz_m (jZ l dC dI aC H0 G) 3).1.cls = true := by show plainName "jdk/internal/util/Preconditions" = true; decide +kernel
theorem hs_3 {l : Launch} {dC : Nat → ClassId} {dI : Nat → Nat → Nat} {aC : Nat → ClassId} {H0 : Heap} {G : jx_Gv} : (jz_m (jZ l dC dI aC H0 G) 3).1.cls ≠ "java/lang/invoke/MethodHandle" ∧ (jz_m (jZ l dC dI aC H0 G) 3).1.cls ≠ "java/lang/invoke/VarHandle" ∧ (parseMethodDescriptor (jz_m (jZ l dC dI aC H0 G) 3).1.desc).map (fun d => d.parameters.length) = some 3 := by show "jdk/internal/util/Preconditions" ≠ _ ∧ "jdk/internal/util/Preconditions" ≠ _ ∧ (parseMethodDescriptor "(IILjava/util/function/BiFunction;)I").map _ = _; decide +kernel
theorem hm_4 {l : Launch} {dC : Nat → ClassId} {dI : Nat → Nat → Nat} {aC : Nat → ClassId} {H0 : Heap} {G : jx_Gv} : (jz_m (jZ l dC dI aC H0 G) 4).2.1 = c_4 := rfl
theorem ho_4 {l : Launch} {dC : Nat → ClassId} {dI : Nat → Nat → Nat} {aC : Nat → ClassId} {H0 : Heap} {G : jx_Gv} : (jz_m (jZ l dC dI aC H0 G) 4).1.cls = "java/lang/String" := rfl
set_option maxRecDepth 100000 in
theorem hw_4 {l : Launch} {dC : Nat → ClassId} {dI : Nat → Nat → Nat} {aC : Nat → ClassId} {H0 : Heap} {G : jx_Gv} : Jvm.Cond.code (jz_m (jZ l dC dI aC H0 G) 4).1 (jz_m (jZ l dC dI aC H0 G) 4).2.1 (jz_m (jZ l dC dI aC H0 G) 4).2.2.1 (jz_m (jZ l dC dI aC H0 G) 4).2.2.2 ∈ jz_T (jZ l dC dI aC H0 G) := List.mem_filter.mpr ⟨List.mem_of_getElem? (i := 133) rfl, rfl⟩
theorem hp_4 {l : Launch} {dC : Nat → ClassId} {dI : Nat → Nat → Nat} {aC : Nat → ClassId} {H0 : Heap} {G : jx_Gv} : plainName (jz_m (jZ l dC dI aC H0 G) 4).1.cls = true := by show plainName "java/lang/String" = true; decide +kernel
theorem hs_4 {l : Launch} {dC : Nat → ClassId} {dI : Nat → Nat → Nat} {aC : Nat → ClassId} {H0 : Heap} {G : jx_Gv} : (jz_m (jZ l dC dI aC H0 G) 4).1.cls ≠ "java/lang/invoke/MethodHandle" ∧ (jz_m (jZ l dC dI aC H0 G) 4).1.cls ≠ "java/lang/invoke/VarHandle" ∧ (parseMethodDescriptor (jz_m (jZ l dC dI aC H0 G) 4).1.desc).map (fun d => d.parameters.length) = some 2 := by show "java/lang/String" ≠ _ ∧ "java/lang/String" ≠ _ ∧ (parseMethodDescriptor "(II)V").map _ = _; decide +kernel
theorem hm_5 {l : Launch} {dC : Nat → ClassId} {dI : Nat → Nat → Nat} {aC : Nat → ClassId} {H0 : Heap} {G : jx_Gv} : (jz_m (jZ l dC dI aC H0 G) 5).2.1 = c_5 := rfl
theorem ho_5 {l : Launch} {dC : Nat → ClassId} {dI : Nat → Nat → Nat} {aC : Nat → ClassId} {H0 : Heap} {G : jx_Gv} : (jz_m (jZ l dC dI aC H0 G) 5).1.cls = "java/lang/StringLatin1" := rfl
set_option maxRecDepth 100000 in
theorem hw_5 {l : Launch} {dC : Nat → ClassId} {dI : Nat → Nat → Nat} {aC : Nat → ClassId} {H0 : Heap} {G : jx_Gv} : Jvm.Cond.code (jz_m (jZ l dC dI aC H0 G) 5).1 (jz_m (jZ l dC dI aC H0 G) 5).2.1 (jz_m (jZ l dC dI aC H0 G) 5).2.2.1 (jz_m (jZ l dC dI aC H0 G) 5).2.2.2 ∈ jz_T (jZ l dC dI aC H0 G) := List.mem_filter.mpr ⟨List.mem_of_getElem? (i := 130) rfl, rfl⟩
theorem hp_5 {l : Launch} {dC : Nat → ClassId} {dI : Nat → Nat → Nat} {aC : Nat → ClassId} {H0 : Heap} {G : jx_Gv} : plainName (jz_m (jZ l dC dI aC H0 G) 5).1.cls = true := by show plainName "java/lang/StringLatin1" = true; decide +kernel
theorem hs_5 {l : Launch} {dC : Nat → ClassId} {dI : Nat → Nat → Nat} {aC : Nat → ClassId} {H0 : Heap} {G : jx_Gv} : (jz_m (jZ l dC dI aC H0 G) 5).1.cls ≠ "java/lang/invoke/MethodHandle" ∧ (jz_m (jZ l dC dI aC H0 G) 5).1.cls ≠ "java/lang/invoke/VarHandle" ∧ (parseMethodDescriptor (jz_m (jZ l dC dI aC H0 G) 5).1.desc).map (fun d => d.parameters.length) = some 2 := by show "java/lang/StringLatin1" ≠ _ ∧ "java/lang/StringLatin1" ≠ _ ∧ (parseMethodDescriptor "([BI)C").map _ = _; decide +kernel
theorem hm_6 {l : Launch} {dC : Nat → ClassId} {dI : Nat → Nat → Nat} {aC : Nat → ClassId} {H0 : Heap} {G : jx_Gv} : (jz_m (jZ l dC dI aC H0 G) 6).2.1 = c_6 := rfl
theorem ho_6 {l : Launch} {dC : Nat → ClassId} {dI : Nat → Nat → Nat} {aC : Nat → ClassId} {H0 : Heap} {G : jx_Gv} : (jz_m (jZ l dC dI aC H0 G) 6).1.cls = "java/lang/String" := rfl
set_option maxRecDepth 100000 in
theorem hw_6 {l : Launch} {dC : Nat → ClassId} {dI : Nat → Nat → Nat} {aC : Nat → ClassId} {H0 : Heap} {G : jx_Gv} : Jvm.Cond.code (jz_m (jZ l dC dI aC H0 G) 6).1 (jz_m (jZ l dC dI aC H0 G) 6).2.1 (jz_m (jZ l dC dI aC H0 G) 6).2.2.1 (jz_m (jZ l dC dI aC H0 G) 6).2.2.2 ∈ jz_T (jZ l dC dI aC H0 G) := List.mem_filter.mpr ⟨List.mem_of_getElem? (i := 123) rfl, rfl⟩
theorem hp_6 {l : Launch} {dC : Nat → ClassId} {dI : Nat → Nat → Nat} {aC : Nat → ClassId} {H0 : Heap} {G : jx_Gv} : plainName (jz_m (jZ l dC dI aC H0 G) 6).1.cls = true := by show plainName "java/lang/String" = true; decide +kernel
theorem hs_6 {l : Launch} {dC : Nat → ClassId} {dI : Nat → Nat → Nat} {aC : Nat → ClassId} {H0 : Heap} {G : jx_Gv} : (jz_m (jZ l dC dI aC H0 G) 6).1.cls ≠ "java/lang/invoke/MethodHandle" ∧ (jz_m (jZ l dC dI aC H0 G) 6).1.cls ≠ "java/lang/invoke/VarHandle" ∧ (parseMethodDescriptor (jz_m (jZ l dC dI aC H0 G) 6).1.desc).map (fun d => d.parameters.length) = some 1 := by show "java/lang/String" ≠ _ ∧ "java/lang/String" ≠ _ ∧ (parseMethodDescriptor "(I)C").map _ = _; decide +kernel
theorem hm_7 {l : Launch} {dC : Nat → ClassId} {dI : Nat → Nat → Nat} {aC : Nat → ClassId} {H0 : Heap} {G : jx_Gv} : (jz_m (jZ l dC dI aC H0 G) 7).2.1 = c_7 := rfl
theorem ho_7 {l : Launch} {dC : Nat → ClassId} {dI : Nat → Nat → Nat} {aC : Nat → ClassId} {H0 : Heap} {G : jx_Gv} : (jz_m (jZ l dC dI aC H0 G) 7).1.cls = "PartText$Words" := rfl
set_option maxRecDepth 100000 in
theorem hw_7 {l : Launch} {dC : Nat → ClassId} {dI : Nat → Nat → Nat} {aC : Nat → ClassId} {H0 : Heap} {G : jx_Gv} : Jvm.Cond.code (jz_m (jZ l dC dI aC H0 G) 7).1 (jz_m (jZ l dC dI aC H0 G) 7).2.1 (jz_m (jZ l dC dI aC H0 G) 7).2.2.1 (jz_m (jZ l dC dI aC H0 G) 7).2.2.2 ∈ jz_T (jZ l dC dI aC H0 G) := List.mem_filter.mpr ⟨List.mem_of_getElem? (i := 163) rfl, rfl⟩
theorem hp_7 {l : Launch} {dC : Nat → ClassId} {dI : Nat → Nat → Nat} {aC : Nat → ClassId} {H0 : Heap} {G : jx_Gv} : plainName (jz_m (jZ l dC dI aC H0 G) 7).1.cls = true := by show plainName "PartText$Words" = true; decide +kernel
theorem hs_7 {l : Launch} {dC : Nat → ClassId} {dI : Nat → Nat → Nat} {aC : Nat → ClassId} {H0 : Heap} {G : jx_Gv} : (jz_m (jZ l dC dI aC H0 G) 7).1.cls ≠ "java/lang/invoke/MethodHandle" ∧ (jz_m (jZ l dC dI aC H0 G) 7).1.cls ≠ "java/lang/invoke/VarHandle" ∧ (parseMethodDescriptor (jz_m (jZ l dC dI aC H0 G) 7).1.desc).map (fun d => d.parameters.length) = some 1 := by show "PartText$Words" ≠ _ ∧ "PartText$Words" ≠ _ ∧ (parseMethodDescriptor "(I)Z").map _ = _; decide +kernel
theorem hm_8 {l : Launch} {dC : Nat → ClassId} {dI : Nat → Nat → Nat} {aC : Nat → ClassId} {H0 : Heap} {G : jx_Gv} : (jz_m (jZ l dC dI aC H0 G) 8).2.1 = c_8 := rfl
theorem ho_8 {l : Launch} {dC : Nat → ClassId} {dI : Nat → Nat → Nat} {aC : Nat → ClassId} {H0 : Heap} {G : jx_Gv} : (jz_m (jZ l dC dI aC H0 G) 8).1.cls = "PartText$Words" := rfl
set_option maxRecDepth 100000 in
theorem hw_8 {l : Launch} {dC : Nat → ClassId} {dI : Nat → Nat → Nat} {aC : Nat → ClassId} {H0 : Heap} {G : jx_Gv} : Jvm.Cond.code (jz_m (jZ l dC dI aC H0 G) 8).1 (jz_m (jZ l dC dI aC H0 G) 8).2.1 (jz_m (jZ l dC dI aC H0 G) 8).2.2.1 (jz_m (jZ l dC dI aC H0 G) 8).2.2.2 ∈ jz_T (jZ l dC dI aC H0 G) := List.mem_filter.mpr ⟨List.mem_of_getElem? (i := 166) rfl, rfl⟩
theorem hp_8 {l : Launch} {dC : Nat → ClassId} {dI : Nat → Nat → Nat} {aC : Nat → ClassId} {H0 : Heap} {G : jx_Gv} : plainName (jz_m (jZ l dC dI aC H0 G) 8).1.cls = true := by show plainName "PartText$Words" = true; decide +kernel
theorem hs_8 {l : Launch} {dC : Nat → ClassId} {dI : Nat → Nat → Nat} {aC : Nat → ClassId} {H0 : Heap} {G : jx_Gv} : (jz_m (jZ l dC dI aC H0 G) 8).1.cls ≠ "java/lang/invoke/MethodHandle" ∧ (jz_m (jZ l dC dI aC H0 G) 8).1.cls ≠ "java/lang/invoke/VarHandle" ∧ (parseMethodDescriptor (jz_m (jZ l dC dI aC H0 G) 8).1.desc).map (fun d => d.parameters.length) = some 1 := by show "PartText$Words" ≠ _ ∧ "PartText$Words" ≠ _ ∧ (parseMethodDescriptor "(I)Z").map _ = _; decide +kernel
theorem hm_9 {l : Launch} {dC : Nat → ClassId} {dI : Nat → Nat → Nat} {aC : Nat → ClassId} {H0 : Heap} {G : jx_Gv} : (jz_m (jZ l dC dI aC H0 G) 9).2.1 = c_9 := rfl
theorem ho_9 {l : Launch} {dC : Nat → ClassId} {dI : Nat → Nat → Nat} {aC : Nat → ClassId} {H0 : Heap} {G : jx_Gv} : (jz_m (jZ l dC dI aC H0 G) 9).1.cls = "PartText$Words" := rfl
set_option maxRecDepth 100000 in
theorem hw_9 {l : Launch} {dC : Nat → ClassId} {dI : Nat → Nat → Nat} {aC : Nat → ClassId} {H0 : Heap} {G : jx_Gv} : Jvm.Cond.code (jz_m (jZ l dC dI aC H0 G) 9).1 (jz_m (jZ l dC dI aC H0 G) 9).2.1 (jz_m (jZ l dC dI aC H0 G) 9).2.2.1 (jz_m (jZ l dC dI aC H0 G) 9).2.2.2 ∈ jz_T (jZ l dC dI aC H0 G) := List.mem_filter.mpr ⟨List.mem_of_getElem? (i := 160) rfl, rfl⟩
theorem hp_9 {l : Launch} {dC : Nat → ClassId} {dI : Nat → Nat → Nat} {aC : Nat → ClassId} {H0 : Heap} {G : jx_Gv} : plainName (jz_m (jZ l dC dI aC H0 G) 9).1.cls = true := by show plainName "PartText$Words" = true; decide +kernel
theorem hs_9 {l : Launch} {dC : Nat → ClassId} {dI : Nat → Nat → Nat} {aC : Nat → ClassId} {H0 : Heap} {G : jx_Gv} : (jz_m (jZ l dC dI aC H0 G) 9).1.cls ≠ "java/lang/invoke/MethodHandle" ∧ (jz_m (jZ l dC dI aC H0 G) 9).1.cls ≠ "java/lang/invoke/VarHandle" ∧ (parseMethodDescriptor (jz_m (jZ l dC dI aC H0 G) 9).1.desc).map (fun d => d.parameters.length) = some 1 := by show "PartText$Words" ≠ _ ∧ "PartText$Words" ≠ _ ∧ (parseMethodDescriptor "(I)I").map _ = _; decide +kernel
theorem hm_10 {l : Launch} {dC : Nat → ClassId} {dI : Nat → Nat → Nat} {aC : Nat → ClassId} {H0 : Heap} {G : jx_Gv} : (jz_m (jZ l dC dI aC H0 G) 10).2.1 = c_10 := rfl
theorem ho_10 {l : Launch} {dC : Nat → ClassId} {dI : Nat → Nat → Nat} {aC : Nat → ClassId} {H0 : Heap} {G : jx_Gv} : (jz_m (jZ l dC dI aC H0 G) 10).1.cls = "PartText$Words" := rfl
set_option maxRecDepth 100000 in
theorem hw_10 {l : Launch} {dC : Nat → ClassId} {dI : Nat → Nat → Nat} {aC : Nat → ClassId} {H0 : Heap} {G : jx_Gv} : Jvm.Cond.code (jz_m (jZ l dC dI aC H0 G) 10).1 (jz_m (jZ l dC dI aC H0 G) 10).2.1 (jz_m (jZ l dC dI aC H0 G) 10).2.2.1 (jz_m (jZ l dC dI aC H0 G) 10).2.2.2 ∈ jz_T (jZ l dC dI aC H0 G) := List.mem_filter.mpr ⟨List.mem_of_getElem? (i := 107) rfl, rfl⟩
theorem hp_10 {l : Launch} {dC : Nat → ClassId} {dI : Nat → Nat → Nat} {aC : Nat → ClassId} {H0 : Heap} {G : jx_Gv} : plainName (jz_m (jZ l dC dI aC H0 G) 10).1.cls = true := by show plainName "PartText$Words" = true; decide +kernel
theorem hs_10 {l : Launch} {dC : Nat → ClassId} {dI : Nat → Nat → Nat} {aC : Nat → ClassId} {H0 : Heap} {G : jx_Gv} : (jz_m (jZ l dC dI aC H0 G) 10).1.cls ≠ "java/lang/invoke/MethodHandle" ∧ (jz_m (jZ l dC dI aC H0 G) 10).1.cls ≠ "java/lang/invoke/VarHandle" ∧ (parseMethodDescriptor (jz_m (jZ l dC dI aC H0 G) 10).1.desc).map (fun d => d.parameters.length) = some 0 := by show "PartText$Words" ≠ _ ∧ "PartText$Words" ≠ _ ∧ (parseMethodDescriptor "()V").map _ = _; decide +kernel
theorem hm_11 {l : Launch} {dC : Nat → ClassId} {dI : Nat → Nat → Nat} {aC : Nat → ClassId} {H0 : Heap} {G : jx_Gv} : (jz_m (jZ l dC dI aC H0 G) 11).2.1 = c_11 := rfl
theorem ho_11 {l : Launch} {dC : Nat → ClassId} {dI : Nat → Nat → Nat} {aC : Nat → ClassId} {H0 : Heap} {G : jx_Gv} : (jz_m (jZ l dC dI aC H0 G) 11).1.cls = "PartText$Octets" := rfl
set_option maxRecDepth 100000 in
theorem hw_11 {l : Launch} {dC : Nat → ClassId} {dI : Nat → Nat → Nat} {aC : Nat → ClassId} {H0 : Heap} {G : jx_Gv} : Jvm.Cond.code (jz_m (jZ l dC dI aC H0 G) 11).1 (jz_m (jZ l dC dI aC H0 G) 11).2.1 (jz_m (jZ l dC dI aC H0 G) 11).2.2.1 (jz_m (jZ l dC dI aC H0 G) 11).2.2.2 ∈ jz_T (jZ l dC dI aC H0 G) := List.mem_filter.mpr ⟨List.mem_of_getElem? (i := 178) rfl, rfl⟩
theorem hp_11 {l : Launch} {dC : Nat → ClassId} {dI : Nat → Nat → Nat} {aC : Nat → ClassId} {H0 : Heap} {G : jx_Gv} : plainName (jz_m (jZ l dC dI aC H0 G) 11).1.cls = true := by show plainName "PartText$Octets" = true; decide +kernel
theorem hs_11 {l : Launch} {dC : Nat → ClassId} {dI : Nat → Nat → Nat} {aC : Nat → ClassId} {H0 : Heap} {G : jx_Gv} : (jz_m (jZ l dC dI aC H0 G) 11).1.cls ≠ "java/lang/invoke/MethodHandle" ∧ (jz_m (jZ l dC dI aC H0 G) 11).1.cls ≠ "java/lang/invoke/VarHandle" ∧ (parseMethodDescriptor (jz_m (jZ l dC dI aC H0 G) 11).1.desc).map (fun d => d.parameters.length) = some 0 := by show "PartText$Octets" ≠ _ ∧ "PartText$Octets" ≠ _ ∧ (parseMethodDescriptor "()V").map _ = _; decide +kernel
theorem hm_12 {l : Launch} {dC : Nat → ClassId} {dI : Nat → Nat → Nat} {aC : Nat → ClassId} {H0 : Heap} {G : jx_Gv} : (jz_m (jZ l dC dI aC H0 G) 12).2.1 = c_12 := rfl
theorem ho_12 {l : Launch} {dC : Nat → ClassId} {dI : Nat → Nat → Nat} {aC : Nat → ClassId} {H0 : Heap} {G : jx_Gv} : (jz_m (jZ l dC dI aC H0 G) 12).1.cls = "PartText$Scanner" := rfl
set_option maxRecDepth 100000 in
theorem hw_12 {l : Launch} {dC : Nat → ClassId} {dI : Nat → Nat → Nat} {aC : Nat → ClassId} {H0 : Heap} {G : jx_Gv} : Jvm.Cond.code (jz_m (jZ l dC dI aC H0 G) 12).1 (jz_m (jZ l dC dI aC H0 G) 12).2.1 (jz_m (jZ l dC dI aC H0 G) 12).2.2.1 (jz_m (jZ l dC dI aC H0 G) 12).2.2.2 ∈ jz_T (jZ l dC dI aC H0 G) := List.mem_filter.mpr ⟨List.mem_of_getElem? (i := 197) rfl, rfl⟩
theorem hp_12 {l : Launch} {dC : Nat → ClassId} {dI : Nat → Nat → Nat} {aC : Nat → ClassId} {H0 : Heap} {G : jx_Gv} : plainName (jz_m (jZ l dC dI aC H0 G) 12).1.cls = true := by show plainName "PartText$Scanner" = true; decide +kernel
theorem hs_12 {l : Launch} {dC : Nat → ClassId} {dI : Nat → Nat → Nat} {aC : Nat → ClassId} {H0 : Heap} {G : jx_Gv} : (jz_m (jZ l dC dI aC H0 G) 12).1.cls ≠ "java/lang/invoke/MethodHandle" ∧ (jz_m (jZ l dC dI aC H0 G) 12).1.cls ≠ "java/lang/invoke/VarHandle" ∧ (parseMethodDescriptor (jz_m (jZ l dC dI aC H0 G) 12).1.desc).map (fun d => d.parameters.length) = some 2 := by show "PartText$Scanner" ≠ _ ∧ "PartText$Scanner" ≠ _ ∧ (parseMethodDescriptor "(LPartText$Octets;LPartText$Words;)V").map _ = _; decide +kernel
theorem hm_13 {l : Launch} {dC : Nat → ClassId} {dI : Nat → Nat → Nat} {aC : Nat → ClassId} {H0 : Heap} {G : jx_Gv} : (jz_m (jZ l dC dI aC H0 G) 13).2.1 = c_13 := rfl
theorem ho_13 {l : Launch} {dC : Nat → ClassId} {dI : Nat → Nat → Nat} {aC : Nat → ClassId} {H0 : Heap} {G : jx_Gv} : (jz_m (jZ l dC dI aC H0 G) 13).1.cls = "PartText$Reader" := rfl
set_option maxRecDepth 100000 in
theorem hw_13 {l : Launch} {dC : Nat → ClassId} {dI : Nat → Nat → Nat} {aC : Nat → ClassId} {H0 : Heap} {G : jx_Gv} : Jvm.Cond.code (jz_m (jZ l dC dI aC H0 G) 13).1 (jz_m (jZ l dC dI aC H0 G) 13).2.1 (jz_m (jZ l dC dI aC H0 G) 13).2.2.1 (jz_m (jZ l dC dI aC H0 G) 13).2.2.2 ∈ jz_T (jZ l dC dI aC H0 G) := List.mem_filter.mpr ⟨List.mem_of_getElem? (i := 223) rfl, rfl⟩
theorem hp_13 {l : Launch} {dC : Nat → ClassId} {dI : Nat → Nat → Nat} {aC : Nat → ClassId} {H0 : Heap} {G : jx_Gv} : plainName (jz_m (jZ l dC dI aC H0 G) 13).1.cls = true := by show plainName "PartText$Reader" = true; decide +kernel
theorem hs_13 {l : Launch} {dC : Nat → ClassId} {dI : Nat → Nat → Nat} {aC : Nat → ClassId} {H0 : Heap} {G : jx_Gv} : (jz_m (jZ l dC dI aC H0 G) 13).1.cls ≠ "java/lang/invoke/MethodHandle" ∧ (jz_m (jZ l dC dI aC H0 G) 13).1.cls ≠ "java/lang/invoke/VarHandle" ∧ (parseMethodDescriptor (jz_m (jZ l dC dI aC H0 G) 13).1.desc).map (fun d => d.parameters.length) = some 1 := by show "PartText$Reader" ≠ _ ∧ "PartText$Reader" ≠ _ ∧ (parseMethodDescriptor "(LPartText$Scanner;)V").map _ = _; decide +kernel
theorem hm_14 {l : Launch} {dC : Nat → ClassId} {dI : Nat → Nat → Nat} {aC : Nat → ClassId} {H0 : Heap} {G : jx_Gv} : (jz_m (jZ l dC dI aC H0 G) 14).2.1 = c_14 := rfl
theorem ho_14 {l : Launch} {dC : Nat → ClassId} {dI : Nat → Nat → Nat} {aC : Nat → ClassId} {H0 : Heap} {G : jx_Gv} : (jz_m (jZ l dC dI aC H0 G) 14).1.cls = "PartText$Writer" := rfl
set_option maxRecDepth 100000 in
theorem hw_14 {l : Launch} {dC : Nat → ClassId} {dI : Nat → Nat → Nat} {aC : Nat → ClassId} {H0 : Heap} {G : jx_Gv} : Jvm.Cond.code (jz_m (jZ l dC dI aC H0 G) 14).1 (jz_m (jZ l dC dI aC H0 G) 14).2.1 (jz_m (jZ l dC dI aC H0 G) 14).2.2.1 (jz_m (jZ l dC dI aC H0 G) 14).2.2.2 ∈ jz_T (jZ l dC dI aC H0 G) := List.mem_filter.mpr ⟨List.mem_of_getElem? (i := 249) rfl, rfl⟩
theorem hp_14 {l : Launch} {dC : Nat → ClassId} {dI : Nat → Nat → Nat} {aC : Nat → ClassId} {H0 : Heap} {G : jx_Gv} : plainName (jz_m (jZ l dC dI aC H0 G) 14).1.cls = true := by show plainName "PartText$Writer" = true; decide +kernel
theorem hs_14 {l : Launch} {dC : Nat → ClassId} {dI : Nat → Nat → Nat} {aC : Nat → ClassId} {H0 : Heap} {G : jx_Gv} : (jz_m (jZ l dC dI aC H0 G) 14).1.cls ≠ "java/lang/invoke/MethodHandle" ∧ (jz_m (jZ l dC dI aC H0 G) 14).1.cls ≠ "java/lang/invoke/VarHandle" ∧ (parseMethodDescriptor (jz_m (jZ l dC dI aC H0 G) 14).1.desc).map (fun d => d.parameters.length) = some 2 := by show "PartText$Writer" ≠ _ ∧ "PartText$Writer" ≠ _ ∧ (parseMethodDescriptor "(LPartText$Octets;LPartText$Words;)V").map _ = _; decide +kernel
theorem hm_15 {l : Launch} {dC : Nat → ClassId} {dI : Nat → Nat → Nat} {aC : Nat → ClassId} {H0 : Heap} {G : jx_Gv} : (jz_m (jZ l dC dI aC H0 G) 15).2.1 = c_15 := rfl
theorem ho_15 {l : Launch} {dC : Nat → ClassId} {dI : Nat → Nat → Nat} {aC : Nat → ClassId} {H0 : Heap} {G : jx_Gv} : (jz_m (jZ l dC dI aC H0 G) 15).1.cls = "PartText$Rules" := rfl
set_option maxRecDepth 100000 in
theorem hw_15 {l : Launch} {dC : Nat → ClassId} {dI : Nat → Nat → Nat} {aC : Nat → ClassId} {H0 : Heap} {G : jx_Gv} : Jvm.Cond.code (jz_m (jZ l dC dI aC H0 G) 15).1 (jz_m (jZ l dC dI aC H0 G) 15).2.1 (jz_m (jZ l dC dI aC H0 G) 15).2.2.1 (jz_m (jZ l dC dI aC H0 G) 15).2.2.2 ∈ jz_T (jZ l dC dI aC H0 G) := List.mem_filter.mpr ⟨List.mem_of_getElem? (i := 262) rfl, rfl⟩
theorem hp_15 {l : Launch} {dC : Nat → ClassId} {dI : Nat → Nat → Nat} {aC : Nat → ClassId} {H0 : Heap} {G : jx_Gv} : plainName (jz_m (jZ l dC dI aC H0 G) 15).1.cls = true := by show plainName "PartText$Rules" = true; decide +kernel
theorem hs_15 {l : Launch} {dC : Nat → ClassId} {dI : Nat → Nat → Nat} {aC : Nat → ClassId} {H0 : Heap} {G : jx_Gv} : (jz_m (jZ l dC dI aC H0 G) 15).1.cls ≠ "java/lang/invoke/MethodHandle" ∧ (jz_m (jZ l dC dI aC H0 G) 15).1.cls ≠ "java/lang/invoke/VarHandle" ∧ (parseMethodDescriptor (jz_m (jZ l dC dI aC H0 G) 15).1.desc).map (fun d => d.parameters.length) = some 0 := by show "PartText$Rules" ≠ _ ∧ "PartText$Rules" ≠ _ ∧ (parseMethodDescriptor "()V").map _ = _; decide +kernel
theorem hm_16 {l : Launch} {dC : Nat → ClassId} {dI : Nat → Nat → Nat} {aC : Nat → ClassId} {H0 : Heap} {G : jx_Gv} : (jz_m (jZ l dC dI aC H0 G) 16).2.1 = c_16 := rfl
theorem ho_16 {l : Launch} {dC : Nat → ClassId} {dI : Nat → Nat → Nat} {aC : Nat → ClassId} {H0 : Heap} {G : jx_Gv} : (jz_m (jZ l dC dI aC H0 G) 16).1.cls = "PartText" := rfl
set_option maxRecDepth 100000 in
theorem hw_16 {l : Launch} {dC : Nat → ClassId} {dI : Nat → Nat → Nat} {aC : Nat → ClassId} {H0 : Heap} {G : jx_Gv} : Jvm.Cond.code (jz_m (jZ l dC dI aC H0 G) 16).1 (jz_m (jZ l dC dI aC H0 G) 16).2.1 (jz_m (jZ l dC dI aC H0 G) 16).2.2.1 (jz_m (jZ l dC dI aC H0 G) 16).2.2.2 ∈ jz_T (jZ l dC dI aC H0 G) := List.mem_filter.mpr ⟨List.mem_of_getElem? (i := 99) rfl, rfl⟩
theorem hp_16 {l : Launch} {dC : Nat → ClassId} {dI : Nat → Nat → Nat} {aC : Nat → ClassId} {H0 : Heap} {G : jx_Gv} : plainName (jz_m (jZ l dC dI aC H0 G) 16).1.cls = true := by show plainName "PartText" = true; decide +kernel
theorem hs_16 {l : Launch} {dC : Nat → ClassId} {dI : Nat → Nat → Nat} {aC : Nat → ClassId} {H0 : Heap} {G : jx_Gv} : (jz_m (jZ l dC dI aC H0 G) 16).1.cls ≠ "java/lang/invoke/MethodHandle" ∧ (jz_m (jZ l dC dI aC H0 G) 16).1.cls ≠ "java/lang/invoke/VarHandle" ∧ (parseMethodDescriptor (jz_m (jZ l dC dI aC H0 G) 16).1.desc).map (fun d => d.parameters.length) = some 0 := by show "PartText" ≠ _ ∧ "PartText" ≠ _ ∧ (parseMethodDescriptor "()V").map _ = _; decide +kernel
theorem hm_17 {l : Launch} {dC : Nat → ClassId} {dI : Nat → Nat → Nat} {aC : Nat → ClassId} {H0 : Heap} {G : jx_Gv} : (jz_m (jZ l dC dI aC H0 G) 17).2.1 = c_17 := rfl
theorem ho_17 {l : Launch} {dC : Nat → ClassId} {dI : Nat → Nat → Nat} {aC : Nat → ClassId} {H0 : Heap} {G : jx_Gv} : (jz_m (jZ l dC dI aC H0 G) 17).1.cls = "PartTextModel" := rfl
set_option maxRecDepth 100000 in
theorem hw_17 {l : Launch} {dC : Nat → ClassId} {dI : Nat → Nat → Nat} {aC : Nat → ClassId} {H0 : Heap} {G : jx_Gv} : Jvm.Cond.code (jz_m (jZ l dC dI aC H0 G) 17).1 (jz_m (jZ l dC dI aC H0 G) 17).2.1 (jz_m (jZ l dC dI aC H0 G) 17).2.2.1 (jz_m (jZ l dC dI aC H0 G) 17).2.2.2 ∈ jz_T (jZ l dC dI aC H0 G) := List.mem_filter.mpr ⟨List.mem_of_getElem? (i := 833) rfl, rfl⟩
theorem hp_17 {l : Launch} {dC : Nat → ClassId} {dI : Nat → Nat → Nat} {aC : Nat → ClassId} {H0 : Heap} {G : jx_Gv} : plainName (jz_m (jZ l dC dI aC H0 G) 17).1.cls = true := by show plainName "PartTextModel" = true; decide +kernel
theorem hs_17 {l : Launch} {dC : Nat → ClassId} {dI : Nat → Nat → Nat} {aC : Nat → ClassId} {H0 : Heap} {G : jx_Gv} : (jz_m (jZ l dC dI aC H0 G) 17).1.cls ≠ "java/lang/invoke/MethodHandle" ∧ (jz_m (jZ l dC dI aC H0 G) 17).1.cls ≠ "java/lang/invoke/VarHandle" ∧ (parseMethodDescriptor (jz_m (jZ l dC dI aC H0 G) 17).1.desc).map (fun d => d.parameters.length) = some 0 := by show "PartTextModel" ≠ _ ∧ "PartTextModel" ≠ _ ∧ (parseMethodDescriptor "()V").map _ = _; decide +kernel
theorem hm_18 {l : Launch} {dC : Nat → ClassId} {dI : Nat → Nat → Nat} {aC : Nat → ClassId} {H0 : Heap} {G : jx_Gv} : (jz_m (jZ l dC dI aC H0 G) 18).2.1 = c_18 := rfl
theorem ho_18 {l : Launch} {dC : Nat → ClassId} {dI : Nat → Nat → Nat} {aC : Nat → ClassId} {H0 : Heap} {G : jx_Gv} : (jz_m (jZ l dC dI aC H0 G) 18).1.cls = "PartText$Octets" := rfl
set_option maxRecDepth 100000 in
theorem hw_18 {l : Launch} {dC : Nat → ClassId} {dI : Nat → Nat → Nat} {aC : Nat → ClassId} {H0 : Heap} {G : jx_Gv} : Jvm.Cond.code (jz_m (jZ l dC dI aC H0 G) 18).1 (jz_m (jZ l dC dI aC H0 G) 18).2.1 (jz_m (jZ l dC dI aC H0 G) 18).2.2.1 (jz_m (jZ l dC dI aC H0 G) 18).2.2.2 ∈ jz_T (jZ l dC dI aC H0 G) := List.mem_filter.mpr ⟨List.mem_of_getElem? (i := 299) rfl, rfl⟩
theorem hp_18 {l : Launch} {dC : Nat → ClassId} {dI : Nat → Nat → Nat} {aC : Nat → ClassId} {H0 : Heap} {G : jx_Gv} : plainName (jz_m (jZ l dC dI aC H0 G) 18).1.cls = true := by show plainName "PartText$Octets" = true; decide +kernel
theorem hs_18 {l : Launch} {dC : Nat → ClassId} {dI : Nat → Nat → Nat} {aC : Nat → ClassId} {H0 : Heap} {G : jx_Gv} : (jz_m (jZ l dC dI aC H0 G) 18).1.cls ≠ "java/lang/invoke/MethodHandle" ∧ (jz_m (jZ l dC dI aC H0 G) 18).1.cls ≠ "java/lang/invoke/VarHandle" ∧ (parseMethodDescriptor (jz_m (jZ l dC dI aC H0 G) 18).1.desc).map (fun d => d.parameters.length) = some 1 := by show "PartText$Octets" ≠ _ ∧ "PartText$Octets" ≠ _ ∧ (parseMethodDescriptor "(I)V").map _ = _; decide +kernel
theorem hm_19 {l : Launch} {dC : Nat → ClassId} {dI : Nat → Nat → Nat} {aC : Nat → ClassId} {H0 : Heap} {G : jx_Gv} : (jz_m (jZ l dC dI aC H0 G) 19).2.1 = c_19 := rfl
theorem ho_19 {l : Launch} {dC : Nat → ClassId} {dI : Nat → Nat → Nat} {aC : Nat → ClassId} {H0 : Heap} {G : jx_Gv} : (jz_m (jZ l dC dI aC H0 G) 19).1.cls = "PartText" := rfl
set_option maxRecDepth 100000 in
theorem hw_19 {l : Launch} {dC : Nat → ClassId} {dI : Nat → Nat → Nat} {aC : Nat → ClassId} {H0 : Heap} {G : jx_Gv} : Jvm.Cond.code (jz_m (jZ l dC dI aC H0 G) 19).1 (jz_m (jZ l dC dI aC H0 G) 19).2.1 (jz_m (jZ l dC dI aC H0 G) 19).2.2.1 (jz_m (jZ l dC dI aC H0 G) 19).2.2.2 ∈ jz_T (jZ l dC dI aC H0 G) := List.mem_filter.mpr ⟨List.mem_of_getElem? (i := 295) rfl, rfl⟩
theorem hp_19 {l : Launch} {dC : Nat → ClassId} {dI : Nat → Nat → Nat} {aC : Nat → ClassId} {H0 : Heap} {G : jx_Gv} : plainName (jz_m (jZ l dC dI aC H0 G) 19).1.cls = true := by show plainName "PartText" = true; decide +kernel
theorem hs_19 {l : Launch} {dC : Nat → ClassId} {dI : Nat → Nat → Nat} {aC : Nat → ClassId} {H0 : Heap} {G : jx_Gv} : (jz_m (jZ l dC dI aC H0 G) 19).1.cls ≠ "java/lang/invoke/MethodHandle" ∧ (jz_m (jZ l dC dI aC H0 G) 19).1.cls ≠ "java/lang/invoke/VarHandle" ∧ (parseMethodDescriptor (jz_m (jZ l dC dI aC H0 G) 19).1.desc).map (fun d => d.parameters.length) = some 1 := by show "PartText" ≠ _ ∧ "PartText" ≠ _ ∧ (parseMethodDescriptor "(I)V").map _ = _; decide +kernel
theorem hm_20 {l : Launch} {dC : Nat → ClassId} {dI : Nat → Nat → Nat} {aC : Nat → ClassId} {H0 : Heap} {G : jx_Gv} : (jz_m (jZ l dC dI aC H0 G) 20).2.1 = c_20 := rfl
theorem ho_20 {l : Launch} {dC : Nat → ClassId} {dI : Nat → Nat → Nat} {aC : Nat → ClassId} {H0 : Heap} {G : jx_Gv} : (jz_m (jZ l dC dI aC H0 G) 20).1.cls = "PartTextModel" := rfl
set_option maxRecDepth 100000 in
theorem hw_20 {l : Launch} {dC : Nat → ClassId} {dI : Nat → Nat → Nat} {aC : Nat → ClassId} {H0 : Heap} {G : jx_Gv} : Jvm.Cond.code (jz_m (jZ l dC dI aC H0 G) 20).1 (jz_m (jZ l dC dI aC H0 G) 20).2.1 (jz_m (jZ l dC dI aC H0 G) 20).2.2.1 (jz_m (jZ l dC dI aC H0 G) 20).2.2.2 ∈ jz_T (jZ l dC dI aC H0 G) := List.mem_filter.mpr ⟨List.mem_of_getElem? (i := 1012) rfl, rfl⟩
theorem hp_20 {l : Launch} {dC : Nat → ClassId} {dI : Nat → Nat → Nat} {aC : Nat → ClassId} {H0 : Heap} {G : jx_Gv} : plainName (jz_m (jZ l dC dI aC H0 G) 20).1.cls = true := by show plainName "PartTextModel" = true; decide +kernel
theorem hs_20 {l : Launch} {dC : Nat → ClassId} {dI : Nat → Nat → Nat} {aC : Nat → ClassId} {H0 : Heap} {G : jx_Gv} : (jz_m (jZ l dC dI aC H0 G) 20).1.cls ≠ "java/lang/invoke/MethodHandle" ∧ (jz_m (jZ l dC dI aC H0 G) 20).1.cls ≠ "java/lang/invoke/VarHandle" ∧ (parseMethodDescriptor (jz_m (jZ l dC dI aC H0 G) 20).1.desc).map (fun d => d.parameters.length) = some 1 := by show "PartTextModel" ≠ _ ∧ "PartTextModel" ≠ _ ∧ (parseMethodDescriptor "(I)V").map _ = _; decide +kernel
theorem hm_21 {l : Launch} {dC : Nat → ClassId} {dI : Nat → Nat → Nat} {aC : Nat → ClassId} {H0 : Heap} {G : jx_Gv} : (jz_m (jZ l dC dI aC H0 G) 21).2.1 = c_21 := rfl
theorem ho_21 {l : Launch} {dC : Nat → ClassId} {dI : Nat → Nat → Nat} {aC : Nat → ClassId} {H0 : Heap} {G : jx_Gv} : (jz_m (jZ l dC dI aC H0 G) 21).1.cls = "PartText" := rfl
set_option maxRecDepth 100000 in
theorem hw_21 {l : Launch} {dC : Nat → ClassId} {dI : Nat → Nat → Nat} {aC : Nat → ClassId} {H0 : Heap} {G : jx_Gv} : Jvm.Cond.code (jz_m (jZ l dC dI aC H0 G) 21).1 (jz_m (jZ l dC dI aC H0 G) 21).2.1 (jz_m (jZ l dC dI aC H0 G) 21).2.2.1 (jz_m (jZ l dC dI aC H0 G) 21).2.2.2 ∈ jz_T (jZ l dC dI aC H0 G) := List.mem_filter.mpr ⟨List.mem_of_getElem? (i := 307) rfl, rfl⟩
theorem hp_21 {l : Launch} {dC : Nat → ClassId} {dI : Nat → Nat → Nat} {aC : Nat → ClassId} {H0 : Heap} {G : jx_Gv} : plainName (jz_m (jZ l dC dI aC H0 G) 21).1.cls = true := by show plainName "PartText" = true; decide +kernel
theorem hs_21 {l : Launch} {dC : Nat → ClassId} {dI : Nat → Nat → Nat} {aC : Nat → ClassId} {H0 : Heap} {G : jx_Gv} : (jz_m (jZ l dC dI aC H0 G) 21).1.cls ≠ "java/lang/invoke/MethodHandle" ∧ (jz_m (jZ l dC dI aC H0 G) 21).1.cls ≠ "java/lang/invoke/VarHandle" ∧ (parseMethodDescriptor (jz_m (jZ l dC dI aC H0 G) 21).1.desc).map (fun d => d.parameters.length) = some 0 := by show "PartText" ≠ _ ∧ "PartText" ≠ _ ∧ (parseMethodDescriptor "()I").map _ = _; decide +kernel
theorem hm_22 {l : Launch} {dC : Nat → ClassId} {dI : Nat → Nat → Nat} {aC : Nat → ClassId} {H0 : Heap} {G : jx_Gv} : (jz_m (jZ l dC dI aC H0 G) 22).2.1 = c_22 := rfl
theorem ho_22 {l : Launch} {dC : Nat → ClassId} {dI : Nat → Nat → Nat} {aC : Nat → ClassId} {H0 : Heap} {G : jx_Gv} : (jz_m (jZ l dC dI aC H0 G) 22).1.cls = "PartText$Edition" := rfl
set_option maxRecDepth 100000 in
theorem hw_22 {l : Launch} {dC : Nat → ClassId} {dI : Nat → Nat → Nat} {aC : Nat → ClassId} {H0 : Heap} {G : jx_Gv} : Jvm.Cond.code (jz_m (jZ l dC dI aC H0 G) 22).1 (jz_m (jZ l dC dI aC H0 G) 22).2.1 (jz_m (jZ l dC dI aC H0 G) 22).2.2.1 (jz_m (jZ l dC dI aC H0 G) 22).2.2.2 ∈ jz_T (jZ l dC dI aC H0 G) := List.mem_filter.mpr ⟨List.mem_of_getElem? (i := 315) rfl, rfl⟩
theorem hp_22 {l : Launch} {dC : Nat → ClassId} {dI : Nat → Nat → Nat} {aC : Nat → ClassId} {H0 : Heap} {G : jx_Gv} : plainName (jz_m (jZ l dC dI aC H0 G) 22).1.cls = true := by show plainName "PartText$Edition" = true; decide +kernel
theorem hs_22 {l : Launch} {dC : Nat → ClassId} {dI : Nat → Nat → Nat} {aC : Nat → ClassId} {H0 : Heap} {G : jx_Gv} : (jz_m (jZ l dC dI aC H0 G) 22).1.cls ≠ "java/lang/invoke/MethodHandle" ∧ (jz_m (jZ l dC dI aC H0 G) 22).1.cls ≠ "java/lang/invoke/VarHandle" ∧ (parseMethodDescriptor (jz_m (jZ l dC dI aC H0 G) 22).1.desc).map (fun d => d.parameters.length) = some 0 := by show "PartText$Edition" ≠ _ ∧ "PartText$Edition" ≠ _ ∧ (parseMethodDescriptor "()V").map _ = _; decide +kernel
theorem hm_23 {l : Launch} {dC : Nat → ClassId} {dI : Nat → Nat → Nat} {aC : Nat → ClassId} {H0 : Heap} {G : jx_Gv} : (jz_m (jZ l dC dI aC H0 G) 23).2.1 = c_23 := rfl
theorem ho_23 {l : Launch} {dC : Nat → ClassId} {dI : Nat → Nat → Nat} {aC : Nat → ClassId} {H0 : Heap} {G : jx_Gv} : (jz_m (jZ l dC dI aC H0 G) 23).1.cls = "PartText" := rfl
set_option maxRecDepth 100000 in
theorem hw_23 {l : Launch} {dC : Nat → ClassId} {dI : Nat → Nat → Nat} {aC : Nat → ClassId} {H0 : Heap} {G : jx_Gv} : Jvm.Cond.code (jz_m (jZ l dC dI aC H0 G) 23).1 (jz_m (jZ l dC dI aC H0 G) 23).2.1 (jz_m (jZ l dC dI aC H0 G) 23).2.2.1 (jz_m (jZ l dC dI aC H0 G) 23).2.2.2 ∈ jz_T (jZ l dC dI aC H0 G) := List.mem_filter.mpr ⟨List.mem_of_getElem? (i := 311) rfl, rfl⟩
theorem hp_23 {l : Launch} {dC : Nat → ClassId} {dI : Nat → Nat → Nat} {aC : Nat → ClassId} {H0 : Heap} {G : jx_Gv} : plainName (jz_m (jZ l dC dI aC H0 G) 23).1.cls = true := by show plainName "PartText" = true; decide +kernel
theorem hs_23 {l : Launch} {dC : Nat → ClassId} {dI : Nat → Nat → Nat} {aC : Nat → ClassId} {H0 : Heap} {G : jx_Gv} : (jz_m (jZ l dC dI aC H0 G) 23).1.cls ≠ "java/lang/invoke/MethodHandle" ∧ (jz_m (jZ l dC dI aC H0 G) 23).1.cls ≠ "java/lang/invoke/VarHandle" ∧ (parseMethodDescriptor (jz_m (jZ l dC dI aC H0 G) 23).1.desc).map (fun d => d.parameters.length) = some 1 := by show "PartText" ≠ _ ∧ "PartText" ≠ _ ∧ (parseMethodDescriptor "(I)LPartText$Edition;").map _ = _; decide +kernel
theorem hm_24 {l : Launch} {dC : Nat → ClassId} {dI : Nat → Nat → Nat} {aC : Nat → ClassId} {H0 : Heap} {G : jx_Gv} : (jz_m (jZ l dC dI aC H0 G) 24).2.1 = c_24 := rfl
theorem ho_24 {l : Launch} {dC : Nat → ClassId} {dI : Nat → Nat → Nat} {aC : Nat → ClassId} {H0 : Heap} {G : jx_Gv} : (jz_m (jZ l dC dI aC H0 G) 24).1.cls = "PartText$Edition" := rfl
set_option maxRecDepth 100000 in
theorem hw_24 {l : Launch} {dC : Nat → ClassId} {dI : Nat → Nat → Nat} {aC : Nat → ClassId} {H0 : Heap} {G : jx_Gv} : Jvm.Cond.code (jz_m (jZ l dC dI aC H0 G) 24).1 (jz_m (jZ l dC dI aC H0 G) 24).2.1 (jz_m (jZ l dC dI aC H0 G) 24).2.2.1 (jz_m (jZ l dC dI aC H0 G) 24).2.2.2 ∈ jz_T (jZ l dC dI aC H0 G) := List.mem_filter.mpr ⟨List.mem_of_getElem? (i := 358) rfl, rfl⟩
theorem hp_24 {l : Launch} {dC : Nat → ClassId} {dI : Nat → Nat → Nat} {aC : Nat → ClassId} {H0 : Heap} {G : jx_Gv} : plainName (jz_m (jZ l dC dI aC H0 G) 24).1.cls = true := by show plainName "PartText$Edition" = true; decide +kernel
theorem hs_24 {l : Launch} {dC : Nat → ClassId} {dI : Nat → Nat → Nat} {aC : Nat → ClassId} {H0 : Heap} {G : jx_Gv} : (jz_m (jZ l dC dI aC H0 G) 24).1.cls ≠ "java/lang/invoke/MethodHandle" ∧ (jz_m (jZ l dC dI aC H0 G) 24).1.cls ≠ "java/lang/invoke/VarHandle" ∧ (parseMethodDescriptor (jz_m (jZ l dC dI aC H0 G) 24).1.desc).map (fun d => d.parameters.length) = some 0 := by show "PartText$Edition" ≠ _ ∧ "PartText$Edition" ≠ _ ∧ (parseMethodDescriptor "()V").map _ = _; decide +kernel
theorem hm_25 {l : Launch} {dC : Nat → ClassId} {dI : Nat → Nat → Nat} {aC : Nat → ClassId} {H0 : Heap} {G : jx_Gv} : (jz_m (jZ l dC dI aC H0 G) 25).2.1 = c_25 := rfl
theorem ho_25 {l : Launch} {dC : Nat → ClassId} {dI : Nat → Nat → Nat} {aC : Nat → ClassId} {H0 : Heap} {G : jx_Gv} : (jz_m (jZ l dC dI aC H0 G) 25).1.cls = "PartText$Scanner" := rfl
set_option maxRecDepth 100000 in
theorem hw_25 {l : Launch} {dC : Nat → ClassId} {dI : Nat → Nat → Nat} {aC : Nat → ClassId} {H0 : Heap} {G : jx_Gv} : Jvm.Cond.code (jz_m (jZ l dC dI aC H0 G) 25).1 (jz_m (jZ l dC dI aC H0 G) 25).2.1 (jz_m (jZ l dC dI aC H0 G) 25).2.2.1 (jz_m (jZ l dC dI aC H0 G) 25).2.2.2 ∈ jz_T (jZ l dC dI aC H0 G) := List.mem_filter.mpr ⟨List.mem_of_getElem? (i := 362) rfl, rfl⟩
theorem hp_25 {l : Launch} {dC : Nat → ClassId} {dI : Nat → Nat → Nat} {aC : Nat → ClassId} {H0 : Heap} {G : jx_Gv} : plainName (jz_m (jZ l dC dI aC H0 G) 25).1.cls = true := by show plainName "PartText$Scanner" = true; decide +kernel
theorem hs_25 {l : Launch} {dC : Nat → ClassId} {dI : Nat → Nat → Nat} {aC : Nat → ClassId} {H0 : Heap} {G : jx_Gv} : (jz_m (jZ l dC dI aC H0 G) 25).1.cls ≠ "java/lang/invoke/MethodHandle" ∧ (jz_m (jZ l dC dI aC H0 G) 25).1.cls ≠ "java/lang/invoke/VarHandle" ∧ (parseMethodDescriptor (jz_m (jZ l dC dI aC H0 G) 25).1.desc).map (fun d => d.parameters.length) = some 0 := by show "PartText$Scanner" ≠ _ ∧ "PartText$Scanner" ≠ _ ∧ (parseMethodDescriptor "()V").map _ = _; decide +kernel
theorem hm_26 {l : Launch} {dC : Nat → ClassId} {dI : Nat → Nat → Nat} {aC : Nat → ClassId} {H0 : Heap} {G : jx_Gv} : (jz_m (jZ l dC dI aC H0 G) 26).2.1 = c_26 := rfl
theorem ho_26 {l : Launch} {dC : Nat → ClassId} {dI : Nat → Nat → Nat} {aC : Nat → ClassId} {H0 : Heap} {G : jx_Gv} : (jz_m (jZ l dC dI aC H0 G) 26).1.cls = "PartText$Reader" := rfl
set_option maxRecDepth 100000 in
theorem hw_26 {l : Launch} {dC : Nat → ClassId} {dI : Nat → Nat → Nat} {aC : Nat → ClassId} {H0 : Heap} {G : jx_Gv} : Jvm.Cond.code (jz_m (jZ l dC dI aC H0 G) 26).1 (jz_m (jZ l dC dI aC H0 G) 26).2.1 (jz_m (jZ l dC dI aC H0 G) 26).2.2.1 (jz_m (jZ l dC dI aC H0 G) 26).2.2.2 ∈ jz_T (jZ l dC dI aC H0 G) := List.mem_filter.mpr ⟨List.mem_of_getElem? (i := 366) rfl, rfl⟩
theorem hp_26 {l : Launch} {dC : Nat → ClassId} {dI : Nat → Nat → Nat} {aC : Nat → ClassId} {H0 : Heap} {G : jx_Gv} : plainName (jz_m (jZ l dC dI aC H0 G) 26).1.cls = true := by show plainName "PartText$Reader" = true; decide +kernel
theorem hs_26 {l : Launch} {dC : Nat → ClassId} {dI : Nat → Nat → Nat} {aC : Nat → ClassId} {H0 : Heap} {G : jx_Gv} : (jz_m (jZ l dC dI aC H0 G) 26).1.cls ≠ "java/lang/invoke/MethodHandle" ∧ (jz_m (jZ l dC dI aC H0 G) 26).1.cls ≠ "java/lang/invoke/VarHandle" ∧ (parseMethodDescriptor (jz_m (jZ l dC dI aC H0 G) 26).1.desc).map (fun d => d.parameters.length) = some 1 := by show "PartText$Reader" ≠ _ ∧ "PartText$Reader" ≠ _ ∧ (parseMethodDescriptor "(Ljava/lang/String;)V").map _ = _; decide +kernel
theorem hm_27 {l : Launch} {dC : Nat → ClassId} {dI : Nat → Nat → Nat} {aC : Nat → ClassId} {H0 : Heap} {G : jx_Gv} : (jz_m (jZ l dC dI aC H0 G) 27).2.1 = c_27 := rfl
theorem ho_27 {l : Launch} {dC : Nat → ClassId} {dI : Nat → Nat → Nat} {aC : Nat → ClassId} {H0 : Heap} {G : jx_Gv} : (jz_m (jZ l dC dI aC H0 G) 27).1.cls = "PartText$Octets" := rfl
set_option maxRecDepth 100000 in
theorem hw_27 {l : Launch} {dC : Nat → ClassId} {dI : Nat → Nat → Nat} {aC : Nat → ClassId} {H0 : Heap} {G : jx_Gv} : Jvm.Cond.code (jz_m (jZ l dC dI aC H0 G) 27).1 (jz_m (jZ l dC dI aC H0 G) 27).2.1 (jz_m (jZ l dC dI aC H0 G) 27).2.2.1 (jz_m (jZ l dC dI aC H0 G) 27).2.2.2 ∈ jz_T (jZ l dC dI aC H0 G) := List.mem_filter.mpr ⟨List.mem_of_getElem? (i := 378) rfl, rfl⟩
theorem hp_27 {l : Launch} {dC : Nat → ClassId} {dI : Nat → Nat → Nat} {aC : Nat → ClassId} {H0 : Heap} {G : jx_Gv} : plainName (jz_m (jZ l dC dI aC H0 G) 27).1.cls = true := by show plainName "PartText$Octets" = true; decide +kernel
theorem hs_27 {l : Launch} {dC : Nat → ClassId} {dI : Nat → Nat → Nat} {aC : Nat → ClassId} {H0 : Heap} {G : jx_Gv} : (jz_m (jZ l dC dI aC H0 G) 27).1.cls ≠ "java/lang/invoke/MethodHandle" ∧ (jz_m (jZ l dC dI aC H0 G) 27).1.cls ≠ "java/lang/invoke/VarHandle" ∧ (parseMethodDescriptor (jz_m (jZ l dC dI aC H0 G) 27).1.desc).map (fun d => d.parameters.length) = some 0 := by show "PartText$Octets" ≠ _ ∧ "PartText$Octets" ≠ _ ∧ (parseMethodDescriptor "()I").map _ = _; decide +kernel
theorem hm_28 {l : Launch} {dC : Nat → ClassId} {dI : Nat → Nat → Nat} {aC : Nat → ClassId} {H0 : Heap} {G : jx_Gv} : (jz_m (jZ l dC dI aC H0 G) 28).2.1 = c_28 := rfl
theorem ho_28 {l : Launch} {dC : Nat → ClassId} {dI : Nat → Nat → Nat} {aC : Nat → ClassId} {H0 : Heap} {G : jx_Gv} : (jz_m (jZ l dC dI aC H0 G) 28).1.cls = "PartText$Octets" := rfl
set_option maxRecDepth 100000 in
theorem hw_28 {l : Launch} {dC : Nat → ClassId} {dI : Nat → Nat → Nat} {aC : Nat → ClassId} {H0 : Heap} {G : jx_Gv} : Jvm.Cond.code (jz_m (jZ l dC dI aC H0 G) 28).1 (jz_m (jZ l dC dI aC H0 G) 28).2.1 (jz_m (jZ l dC dI aC H0 G) 28).2.2.1 (jz_m (jZ l dC dI aC H0 G) 28).2.2.2 ∈ jz_T (jZ l dC dI aC H0 G) := List.mem_filter.mpr ⟨List.mem_of_getElem? (i := 382) rfl, rfl⟩
theorem hp_28 {l : Launch} {dC : Nat → ClassId} {dI : Nat → Nat → Nat} {aC : Nat → ClassId} {H0 : Heap} {G : jx_Gv} : plainName (jz_m (jZ l dC dI aC H0 G) 28).1.cls = true := by show plainName "PartText$Octets" = true; decide +kernel
theorem hs_28 {l : Launch} {dC : Nat → ClassId} {dI : Nat → Nat → Nat} {aC : Nat → ClassId} {H0 : Heap} {G : jx_Gv} : (jz_m (jZ l dC dI aC H0 G) 28).1.cls ≠ "java/lang/invoke/MethodHandle" ∧ (jz_m (jZ l dC dI aC H0 G) 28).1.cls ≠ "java/lang/invoke/VarHandle" ∧ (parseMethodDescriptor (jz_m (jZ l dC dI aC H0 G) 28).1.desc).map (fun d => d.parameters.length) = some 1 := by show "PartText$Octets" ≠ _ ∧ "PartText$Octets" ≠ _ ∧ (parseMethodDescriptor "(I)I").map _ = _; decide +kernel
theorem hm_29 {l : Launch} {dC : Nat → ClassId} {dI : Nat → Nat → Nat} {aC : Nat → ClassId} {H0 : Heap} {G : jx_Gv} : (jz_m (jZ l dC dI aC H0 G) 29).2.1 = c_29 := rfl
theorem ho_29 {l : Launch} {dC : Nat → ClassId} {dI : Nat → Nat → Nat} {aC : Nat → ClassId} {H0 : Heap} {G : jx_Gv} : (jz_m (jZ l dC dI aC H0 G) 29).1.cls = "PartText$Scanner" := rfl
set_option maxRecDepth 100000 in
theorem hw_29 {l : Launch} {dC : Nat → ClassId} {dI : Nat → Nat → Nat} {aC : Nat → ClassId} {H0 : Heap} {G : jx_Gv} : Jvm.Cond.code (jz_m (jZ l dC dI aC H0 G) 29).1 (jz_m (jZ l dC dI aC H0 G) 29).2.1 (jz_m (jZ l dC dI aC H0 G) 29).2.2.1 (jz_m (jZ l dC dI aC H0 G) 29).2.2.2 ∈ jz_T (jZ l dC dI aC H0 G) := List.mem_filter.mpr ⟨List.mem_of_getElem? (i := 385) rfl, rfl⟩
theorem hp_29 {l : Launch} {dC : Nat → ClassId} {dI : Nat → Nat → Nat} {aC : Nat → ClassId} {H0 : Heap} {G : jx_Gv} : plainName (jz_m (jZ l dC dI aC H0 G) 29).1.cls = true := by show plainName "PartText$Scanner" = true; decide +kernel
theorem hs_29 {l : Launch} {dC : Nat → ClassId} {dI : Nat → Nat → Nat} {aC : Nat → ClassId} {H0 : Heap} {G : jx_Gv} : (jz_m (jZ l dC dI aC H0 G) 29).1.cls ≠ "java/lang/invoke/MethodHandle" ∧ (jz_m (jZ l dC dI aC H0 G) 29).1.cls ≠ "java/lang/invoke/VarHandle" ∧ (parseMethodDescriptor (jz_m (jZ l dC dI aC H0 G) 29).1.desc).map (fun d => d.parameters.length) = some 1 := by show "PartText$Scanner" ≠ _ ∧ "PartText$Scanner" ≠ _ ∧ (parseMethodDescriptor "(I)Z").map _ = _; decide +kernel
theorem hm_30 {l : Launch} {dC : Nat → ClassId} {dI : Nat → Nat → Nat} {aC : Nat → ClassId} {H0 : Heap} {G : jx_Gv} : (jz_m (jZ l dC dI aC H0 G) 30).2.1 = c_30 := rfl
theorem ho_30 {l : Launch} {dC : Nat → ClassId} {dI : Nat → Nat → Nat} {aC : Nat → ClassId} {H0 : Heap} {G : jx_Gv} : (jz_m (jZ l dC dI aC H0 G) 30).1.cls = "PartText$Scanner" := rfl
set_option maxRecDepth 100000 in
theorem hw_30 {l : Launch} {dC : Nat → ClassId} {dI : Nat → Nat → Nat} {aC : Nat → ClassId} {H0 : Heap} {G : jx_Gv} : Jvm.Cond.code (jz_m (jZ l dC dI aC H0 G) 30).1 (jz_m (jZ l dC dI aC H0 G) 30).2.1 (jz_m (jZ l dC dI aC H0 G) 30).2.2.1 (jz_m (jZ l dC dI aC H0 G) 30).2.2.2 ∈ jz_T (jZ l dC dI aC H0 G) := List.mem_filter.mpr ⟨List.mem_of_getElem? (i := 374) rfl, rfl⟩
theorem hp_30 {l : Launch} {dC : Nat → ClassId} {dI : Nat → Nat → Nat} {aC : Nat → ClassId} {H0 : Heap} {G : jx_Gv} : plainName (jz_m (jZ l dC dI aC H0 G) 30).1.cls = true := by show plainName "PartText$Scanner" = true; decide +kernel
theorem hs_30 {l : Launch} {dC : Nat → ClassId} {dI : Nat → Nat → Nat} {aC : Nat → ClassId} {H0 : Heap} {G : jx_Gv} : (jz_m (jZ l dC dI aC H0 G) 30).1.cls ≠ "java/lang/invoke/MethodHandle" ∧ (jz_m (jZ l dC dI aC H0 G) 30).1.cls ≠ "java/lang/invoke/VarHandle" ∧ (parseMethodDescriptor (jz_m (jZ l dC dI aC H0 G) 30).1.desc).map (fun d => d.parameters.length) = some 0 := by show "PartText$Scanner" ≠ _ ∧ "PartText$Scanner" ≠ _ ∧ (parseMethodDescriptor "()V").map _ = _; decide +kernel
theorem hm_31 {l : Launch} {dC : Nat → ClassId} {dI : Nat → Nat → Nat} {aC : Nat → ClassId} {H0 : Heap} {G : jx_Gv} : (jz_m (jZ l dC dI aC H0 G) 31).2.1 = c_31 := rfl
theorem ho_31 {l : Launch} {dC : Nat → ClassId} {dI : Nat → Nat → Nat} {aC : Nat → ClassId} {H0 : Heap} {G : jx_Gv} : (jz_m (jZ l dC dI aC H0 G) 31).1.cls = "PartText$Words" := rfl
set_option maxRecDepth 100000 in
theorem hw_31 {l : Launch} {dC : Nat → ClassId} {dI : Nat → Nat → Nat} {aC : Nat → ClassId} {H0 : Heap} {G : jx_Gv} : Jvm.Cond.code (jz_m (jZ l dC dI aC H0 G) 31).1 (jz_m (jZ l dC dI aC H0 G) 31).2.1 (jz_m (jZ l dC dI aC H0 G) 31).2.2.1 (jz_m (jZ l dC dI aC H0 G) 31).2.2.2 ∈ jz_T (jZ l dC dI aC H0 G) := List.mem_filter.mpr ⟨List.mem_of_getElem? (i := 396) rfl, rfl⟩
theorem hp_31 {l : Launch} {dC : Nat → ClassId} {dI : Nat → Nat → Nat} {aC : Nat → ClassId} {H0 : Heap} {G : jx_Gv} : plainName (jz_m (jZ l dC dI aC H0 G) 31).1.cls = true := by show plainName "PartText$Words" = true; decide +kernel
theorem hs_31 {l : Launch} {dC : Nat → ClassId} {dI : Nat → Nat → Nat} {aC : Nat → ClassId} {H0 : Heap} {G : jx_Gv} : (jz_m (jZ l dC dI aC H0 G) 31).1.cls ≠ "java/lang/invoke/MethodHandle" ∧ (jz_m (jZ l dC dI aC H0 G) 31).1.cls ≠ "java/lang/invoke/VarHandle" ∧ (parseMethodDescriptor (jz_m (jZ l dC dI aC H0 G) 31).1.desc).map (fun d => d.parameters.length) = some 1 := by show "PartText$Words" ≠ _ ∧ "PartText$Words" ≠ _ ∧ (parseMethodDescriptor "(J)I").map _ = _; decide +kernel
theorem hm_32 {l : Launch} {dC : Nat → ClassId} {dI : Nat → Nat → Nat} {aC : Nat → ClassId} {H0 : Heap} {G : jx_Gv} : (jz_m (jZ l dC dI aC H0 G) 32).2.1 = c_32 := rfl
theorem ho_32 {l : Launch} {dC : Nat → ClassId} {dI : Nat → Nat → Nat} {aC : Nat → ClassId} {H0 : Heap} {G : jx_Gv} : (jz_m (jZ l dC dI aC H0 G) 32).1.cls = "PartText$Scanner" := rfl
set_option maxRecDepth 100000 in
theorem hw_32 {l : Launch} {dC : Nat → ClassId} {dI : Nat → Nat → Nat} {aC : Nat → ClassId} {H0 : Heap} {G : jx_Gv} : Jvm.Cond.code (jz_m (jZ l dC dI aC H0 G) 32).1 (jz_m (jZ l dC dI aC H0 G) 32).2.1 (jz_m (jZ l dC dI aC H0 G) 32).2.2.1 (jz_m (jZ l dC dI aC H0 G) 32).2.2.2 ∈ jz_T (jZ l dC dI aC H0 G) := List.mem_filter.mpr ⟨List.mem_of_getElem? (i := 390) rfl, rfl⟩
theorem hp_32 {l : Launch} {dC : Nat → ClassId} {dI : Nat → Nat → Nat} {aC : Nat → ClassId} {H0 : Heap} {G : jx_Gv} : plainName (jz_m (jZ l dC dI aC H0 G) 32).1.cls = true := by show plainName "PartText$Scanner" = true; decide +kernel
theorem hs_32 {l : Launch} {dC : Nat → ClassId} {dI : Nat → Nat → Nat} {aC : Nat → ClassId} {H0 : Heap} {G : jx_Gv} : (jz_m (jZ l dC dI aC H0 G) 32).1.cls ≠ "java/lang/invoke/MethodHandle" ∧ (jz_m (jZ l dC dI aC H0 G) 32).1.cls ≠ "java/lang/invoke/VarHandle" ∧ (parseMethodDescriptor (jz_m (jZ l dC dI aC H0 G) 32).1.desc).map (fun d => d.parameters.length) = some 0 := by show "PartText$Scanner" ≠ _ ∧ "PartText$Scanner" ≠ _ ∧ (parseMethodDescriptor "()V").map _ = _; decide +kernel
theorem hm_33 {l : Launch} {dC : Nat → ClassId} {dI : Nat → Nat → Nat} {aC : Nat → ClassId} {H0 : Heap} {G : jx_Gv} : (jz_m (jZ l dC dI aC H0 G) 33).2.1 = c_33 := rfl
theorem ho_33 {l : Launch} {dC : Nat → ClassId} {dI : Nat → Nat → Nat} {aC : Nat → ClassId} {H0 : Heap} {G : jx_Gv} : (jz_m (jZ l dC dI aC H0 G) 33).1.cls = "PartText$Scanner" := rfl
set_option maxRecDepth 100000 in
theorem hw_33 {l : Launch} {dC : Nat → ClassId} {dI : Nat → Nat → Nat} {aC : Nat → ClassId} {H0 : Heap} {G : jx_Gv} : Jvm.Cond.code (jz_m (jZ l dC dI aC H0 G) 33).1 (jz_m (jZ l dC dI aC H0 G) 33).2.1 (jz_m (jZ l dC dI aC H0 G) 33).2.2.1 (jz_m (jZ l dC dI aC H0 G) 33).2.2.2 ∈ jz_T (jZ l dC dI aC H0 G) := List.mem_filter.mpr ⟨List.mem_of_getElem? (i := 401) rfl, rfl⟩
theorem hp_33 {l : Launch} {dC : Nat → ClassId} {dI : Nat → Nat → Nat} {aC : Nat → ClassId} {H0 : Heap} {G : jx_Gv} : plainName (jz_m (jZ l dC dI aC H0 G) 33).1.cls = true := by show plainName "PartText$Scanner" = true; decide +kernel
theorem hs_33 {l : Launch} {dC : Nat → ClassId} {dI : Nat → Nat → Nat} {aC : Nat → ClassId} {H0 : Heap} {G : jx_Gv} : (jz_m (jZ l dC dI aC H0 G) 33).1.cls ≠ "java/lang/invoke/MethodHandle" ∧ (jz_m (jZ l dC dI aC H0 G) 33).1.cls ≠ "java/lang/invoke/VarHandle" ∧ (parseMethodDescriptor (jz_m (jZ l dC dI aC H0 G) 33).1.desc).map (fun d => d.parameters.length) = some 0 := by show "PartText$Scanner" ≠ _ ∧ "PartText$Scanner" ≠ _ ∧ (parseMethodDescriptor "()V").map _ = _; decide +kernel
theorem hm_34 {l : Launch} {dC : Nat → ClassId} {dI : Nat → Nat → Nat} {aC : Nat → ClassId} {H0 : Heap} {G : jx_Gv} : (jz_m (jZ l dC dI aC H0 G) 34).2.1 = c_34 := rfl
theorem ho_34 {l : Launch} {dC : Nat → ClassId} {dI : Nat → Nat → Nat} {aC : Nat → ClassId} {H0 : Heap} {G : jx_Gv} : (jz_m (jZ l dC dI aC H0 G) 34).1.cls = "java/lang/StringLatin1" := rfl
set_option maxRecDepth 100000 in
theorem hw_34 {l : Launch} {dC : Nat → ClassId} {dI : Nat → Nat → Nat} {aC : Nat → ClassId} {H0 : Heap} {G : jx_Gv} : Jvm.Cond.code (jz_m (jZ l dC dI aC H0 G) 34).1 (jz_m (jZ l dC dI aC H0 G) 34).2.1 (jz_m (jZ l dC dI aC H0 G) 34).2.2.1 (jz_m (jZ l dC dI aC H0 G) 34).2.2.2 ∈ jz_T (jZ l dC dI aC H0 G) := List.mem_filter.mpr ⟨List.mem_of_getElem? (i := 417) rfl, rfl⟩
theorem hp_34 {l : Launch} {dC : Nat → ClassId} {dI : Nat → Nat → Nat} {aC : Nat → ClassId} {H0 : Heap} {G : jx_Gv} : plainName (jz_m (jZ l dC dI aC H0 G) 34).1.cls = true := by show plainName "java/lang/StringLatin1" = true; decide +kernel
theorem hs_34 {l : Launch} {dC : Nat → ClassId} {dI : Nat → Nat → Nat} {aC : Nat → ClassId} {H0 : Heap} {G : jx_Gv} : (jz_m (jZ l dC dI aC H0 G) 34).1.cls ≠ "java/lang/invoke/MethodHandle" ∧ (jz_m (jZ l dC dI aC H0 G) 34).1.cls ≠ "java/lang/invoke/VarHandle" ∧ (parseMethodDescriptor (jz_m (jZ l dC dI aC H0 G) 34).1.desc).map (fun d => d.parameters.length) = some 1 := by show "java/lang/StringLatin1" ≠ _ ∧ "java/lang/StringLatin1" ≠ _ ∧ (parseMethodDescriptor "(I)Z").map _ = _; decide +kernel
theorem hm_35 {l : Launch} {dC : Nat → ClassId} {dI : Nat → Nat → Nat} {aC : Nat → ClassId} {H0 : Heap} {G : jx_Gv} : (jz_m (jZ l dC dI aC H0 G) 35).2.1 = c_35 := rfl
theorem ho_35 {l : Launch} {dC : Nat → ClassId} {dI : Nat → Nat → Nat} {aC : Nat → ClassId} {H0 : Heap} {G : jx_Gv} : (jz_m (jZ l dC dI aC H0 G) 35).1.cls = "java/lang/StringLatin1" := rfl
set_option maxRecDepth 100000 in
theorem hw_35 {l : Launch} {dC : Nat → ClassId} {dI : Nat → Nat → Nat} {aC : Nat → ClassId} {H0 : Heap} {G : jx_Gv} : Jvm.Cond.code (jz_m (jZ l dC dI aC H0 G) 35).1 (jz_m (jZ l dC dI aC H0 G) 35).2.1 (jz_m (jZ l dC dI aC H0 G) 35).2.2.1 (jz_m (jZ l dC dI aC H0 G) 35).2.2.2 ∈ jz_T (jZ l dC dI aC H0 G) := List.mem_filter.mpr ⟨List.mem_of_getElem? (i := 426) rfl, rfl⟩
theorem hp_35 {l : Launch} {dC : Nat → ClassId} {dI : Nat → Nat → Nat} {aC : Nat → ClassId} {H0 : Heap} {G : jx_Gv} : plainName (jz_m (jZ l dC dI aC H0 G) 35).1.cls = true := by show plainName "java/lang/StringLatin1" = true; decide +kernel
theorem hs_35 {l : Launch} {dC : Nat → ClassId} {dI : Nat → Nat → Nat} {aC : Nat → ClassId} {H0 : Heap} {G : jx_Gv} : (jz_m (jZ l dC dI aC H0 G) 35).1.cls ≠ "java/lang/invoke/MethodHandle" ∧ (jz_m (jZ l dC dI aC H0 G) 35).1.cls ≠ "java/lang/invoke/VarHandle" ∧ (parseMethodDescriptor (jz_m (jZ l dC dI aC H0 G) 35).1.desc).map (fun d => d.parameters.length) = some 4 := by show "java/lang/StringLatin1" ≠ _ ∧ "java/lang/StringLatin1" ≠ _ ∧ (parseMethodDescriptor "([BIII)I").map _ = _; decide +kernel
theorem hm_36 {l : Launch} {dC : Nat → ClassId} {dI : Nat → Nat → Nat} {aC : Nat → ClassId} {H0 : Heap} {G : jx_Gv} : (jz_m (jZ l dC dI aC H0 G) 36).2.1 = c_36 := rfl
theorem ho_36 {l : Launch} {dC : Nat → ClassId} {dI : Nat → Nat → Nat} {aC : Nat → ClassId} {H0 : Heap} {G : jx_Gv} : (jz_m (jZ l dC dI aC H0 G) 36).1.cls = "java/lang/StringLatin1" := rfl
set_option maxRecDepth 100000 in
theorem hw_36 {l : Launch} {dC : Nat → ClassId} {dI : Nat → Nat → Nat} {aC : Nat → ClassId} {H0 : Heap} {G : jx_Gv} : Jvm.Cond.code (jz_m (jZ l dC dI aC H0 G) 36).1 (jz_m (jZ l dC dI aC H0 G) 36).2.1 (jz_m (jZ l dC dI aC H0 G) 36).2.2.1 (jz_m (jZ l dC dI aC H0 G) 36).2.2.2 ∈ jz_T (jZ l dC dI aC H0 G) := List.mem_filter.mpr ⟨List.mem_of_getElem? (i := 414) rfl, rfl⟩
theorem hp_36 {l : Launch} {dC : Nat → ClassId} {dI : Nat → Nat → Nat} {aC : Nat → ClassId} {H0 : Heap} {G : jx_Gv} : plainName (jz_m (jZ l dC dI aC H0 G) 36).1.cls = true := by show plainName "java/lang/StringLatin1" = true; decide +kernel
theorem hs_36 {l : Launch} {dC : Nat → ClassId} {dI : Nat → Nat → Nat} {aC : Nat → ClassId} {H0 : Heap} {G : jx_Gv} : (jz_m (jZ l dC dI aC H0 G) 36).1.cls ≠ "java/lang/invoke/MethodHandle" ∧ (jz_m (jZ l dC dI aC H0 G) 36).1.cls ≠ "java/lang/invoke/VarHandle" ∧ (parseMethodDescriptor (jz_m (jZ l dC dI aC H0 G) 36).1.desc).map (fun d => d.parameters.length) = some 4 := by show "java/lang/StringLatin1" ≠ _ ∧ "java/lang/StringLatin1" ≠ _ ∧ (parseMethodDescriptor "([BIII)I").map _ = _; decide +kernel
theorem hm_37 {l : Launch} {dC : Nat → ClassId} {dI : Nat → Nat → Nat} {aC : Nat → ClassId} {H0 : Heap} {G : jx_Gv} : (jz_m (jZ l dC dI aC H0 G) 37).2.1 = c_37 := rfl
theorem ho_37 {l : Launch} {dC : Nat → ClassId} {dI : Nat → Nat → Nat} {aC : Nat → ClassId} {H0 : Heap} {G : jx_Gv} : (jz_m (jZ l dC dI aC H0 G) 37).1.cls = "java/lang/String" := rfl
set_option maxRecDepth 100000 in
theorem hw_37 {l : Launch} {dC : Nat → ClassId} {dI : Nat → Nat → Nat} {aC : Nat → ClassId} {H0 : Heap} {G : jx_Gv} : Jvm.Cond.code (jz_m (jZ l dC dI aC H0 G) 37).1 (jz_m (jZ l dC dI aC H0 G) 37).2.1 (jz_m (jZ l dC dI aC H0 G) 37).2.2.1 (jz_m (jZ l dC dI aC H0 G) 37).2.2.2 ∈ jz_T (jZ l dC dI aC H0 G) := List.mem_filter.mpr ⟨List.mem_of_getElem? (i := 410) rfl, rfl⟩
theorem hp_37 {l : Launch} {dC : Nat → ClassId} {dI : Nat → Nat → Nat} {aC : Nat → ClassId} {H0 : Heap} {G : jx_Gv} : plainName (jz_m (jZ l dC dI aC H0 G) 37).1.cls = true := by show plainName "java/lang/String" = true; decide +kernel
theorem hs_37 {l : Launch} {dC : Nat → ClassId} {dI : Nat → Nat → Nat} {aC : Nat → ClassId} {H0 : Heap} {G : jx_Gv} : (jz_m (jZ l dC dI aC H0 G) 37).1.cls ≠ "java/lang/invoke/MethodHandle" ∧ (jz_m (jZ l dC dI aC H0 G) 37).1.cls ≠ "java/lang/invoke/VarHandle" ∧ (parseMethodDescriptor (jz_m (jZ l dC dI aC H0 G) 37).1.desc).map (fun d => d.parameters.length) = some 2 := by show "java/lang/String" ≠ _ ∧ "java/lang/String" ≠ _ ∧ (parseMethodDescriptor "(II)I").map _ = _; decide +kernel
theorem hm_38 {l : Launch} {dC : Nat → ClassId} {dI : Nat → Nat → Nat} {aC : Nat → ClassId} {H0 : Heap} {G : jx_Gv} : (jz_m (jZ l dC dI aC H0 G) 38).2.1 = c_38 := rfl
theorem ho_38 {l : Launch} {dC : Nat → ClassId} {dI : Nat → Nat → Nat} {aC : Nat → ClassId} {H0 : Heap} {G : jx_Gv} : (jz_m (jZ l dC dI aC H0 G) 38).1.cls = "java/lang/String" := rfl
set_option maxRecDepth 100000 in
theorem hw_38 {l : Launch} {dC : Nat → ClassId} {dI : Nat → Nat → Nat} {aC : Nat → ClassId} {H0 : Heap} {G : jx_Gv} : Jvm.Cond.code (jz_m (jZ l dC dI aC H0 G) 38).1 (jz_m (jZ l dC dI aC H0 G) 38).2.1 (jz_m (jZ l dC dI aC H0 G) 38).2.2.1 (jz_m (jZ l dC dI aC H0 G) 38).2.2.2 ∈ jz_T (jZ l dC dI aC H0 G) := List.mem_filter.mpr ⟨List.mem_of_getElem? (i := 406) rfl, rfl⟩
theorem hp_38 {l : Launch} {dC : Nat → ClassId} {dI : Nat → Nat → Nat} {aC : Nat → ClassId} {H0 : Heap} {G : jx_Gv} : plainName (jz_m (jZ l dC dI aC H0 G) 38).1.cls = true := by show plainName "java/lang/String" = true; decide +kernel
theorem hs_38 {l : Launch} {dC : Nat → ClassId} {dI : Nat → Nat → Nat} {aC : Nat → ClassId} {H0 : Heap} {G : jx_Gv} : (jz_m (jZ l dC dI aC H0 G) 38).1.cls ≠ "java/lang/invoke/MethodHandle" ∧ (jz_m (jZ l dC dI aC H0 G) 38).1.cls ≠ "java/lang/invoke/VarHandle" ∧ (parseMethodDescriptor (jz_m (jZ l dC dI aC H0 G) 38).1.desc).map (fun d => d.parameters.length) = some 1 := by show "java/lang/String" ≠ _ ∧ "java/lang/String" ≠ _ ∧ (parseMethodDescriptor "(I)I").map _ = _; decide +kernel
theorem hm_39 {l : Launch} {dC : Nat → ClassId} {dI : Nat → Nat → Nat} {aC : Nat → ClassId} {H0 : Heap} {G : jx_Gv} : (jz_m (jZ l dC dI aC H0 G) 39).2.1 = c_39 := rfl
theorem ho_39 {l : Launch} {dC : Nat → ClassId} {dI : Nat → Nat → Nat} {aC : Nat → ClassId} {H0 : Heap} {G : jx_Gv} : (jz_m (jZ l dC dI aC H0 G) 39).1.cls = "PartText$Scanner" := rfl
set_option maxRecDepth 100000 in
theorem hw_39 {l : Launch} {dC : Nat → ClassId} {dI : Nat → Nat → Nat} {aC : Nat → ClassId} {H0 : Heap} {G : jx_Gv} : Jvm.Cond.code (jz_m (jZ l dC dI aC H0 G) 39).1 (jz_m (jZ l dC dI aC H0 G) 39).2.1 (jz_m (jZ l dC dI aC H0 G) 39).2.2.1 (jz_m (jZ l dC dI aC H0 G) 39).2.2.2 ∈ jz_T (jZ l dC dI aC H0 G) := List.mem_filter.mpr ⟨List.mem_of_getElem? (i := 370) rfl, rfl⟩
theorem hp_39 {l : Launch} {dC : Nat → ClassId} {dI : Nat → Nat → Nat} {aC : Nat → ClassId} {H0 : Heap} {G : jx_Gv} : plainName (jz_m (jZ l dC dI aC H0 G) 39).1.cls = true := by show plainName "PartText$Scanner" = true; decide +kernel
theorem hs_39 {l : Launch} {dC : Nat → ClassId} {dI : Nat → Nat → Nat} {aC : Nat → ClassId} {H0 : Heap} {G : jx_Gv} : (jz_m (jZ l dC dI aC H0 G) 39).1.cls ≠ "java/lang/invoke/MethodHandle" ∧ (jz_m (jZ l dC dI aC H0 G) 39).1.cls ≠ "java/lang/invoke/VarHandle" ∧ (parseMethodDescriptor (jz_m (jZ l dC dI aC H0 G) 39).1.desc).map (fun d => d.parameters.length) = some 0 := by show "PartText$Scanner" ≠ _ ∧ "PartText$Scanner" ≠ _ ∧ (parseMethodDescriptor "()V").map _ = _; decide +kernel
theorem hm_40 {l : Launch} {dC : Nat → ClassId} {dI : Nat → Nat → Nat} {aC : Nat → ClassId} {H0 : Heap} {G : jx_Gv} : (jz_m (jZ l dC dI aC H0 G) 40).2.1 = c_40 := rfl
theorem ho_40 {l : Launch} {dC : Nat → ClassId} {dI : Nat → Nat → Nat} {aC : Nat → ClassId} {H0 : Heap} {G : jx_Gv} : (jz_m (jZ l dC dI aC H0 G) 40).1.cls = "PartText$Scanner" := rfl
set_option maxRecDepth 100000 in
theorem hw_40 {l : Launch} {dC : Nat → ClassId} {dI : Nat → Nat → Nat} {aC : Nat → ClassId} {H0 : Heap} {G : jx_Gv} : Jvm.Cond.code (jz_m (jZ l dC dI aC H0 G) 40).1 (jz_m (jZ l dC dI aC H0 G) 40).2.1 (jz_m (jZ l dC dI aC H0 G) 40).2.2.1 (jz_m (jZ l dC dI aC H0 G) 40).2.2.2 ∈ jz_T (jZ l dC dI aC H0 G) := List.mem_filter.mpr ⟨List.mem_of_getElem? (i := 465) rfl, rfl⟩
theorem hp_40 {l : Launch} {dC : Nat → ClassId} {dI : Nat → Nat → Nat} {aC : Nat → ClassId} {H0 : Heap} {G : jx_Gv} : plainName (jz_m (jZ l dC dI aC H0 G) 40).1.cls = true := by show plainName "PartText$Scanner" = true; decide +kernel
theorem hs_40 {l : Launch} {dC : Nat → ClassId} {dI : Nat → Nat → Nat} {aC : Nat → ClassId} {H0 : Heap} {G : jx_Gv} : (jz_m (jZ l dC dI aC H0 G) 40).1.cls ≠ "java/lang/invoke/MethodHandle" ∧ (jz_m (jZ l dC dI aC H0 G) 40).1.cls ≠ "java/lang/invoke/VarHandle" ∧ (parseMethodDescriptor (jz_m (jZ l dC dI aC H0 G) 40).1.desc).map (fun d => d.parameters.length) = some 0 := by show "PartText$Scanner" ≠ _ ∧ "PartText$Scanner" ≠ _ ∧ (parseMethodDescriptor "()I").map _ = _; decide +kernel
theorem hm_41 {l : Launch} {dC : Nat → ClassId} {dI : Nat → Nat → Nat} {aC : Nat → ClassId} {H0 : Heap} {G : jx_Gv} : (jz_m (jZ l dC dI aC H0 G) 41).2.1 = c_41 := rfl
theorem ho_41 {l : Launch} {dC : Nat → ClassId} {dI : Nat → Nat → Nat} {aC : Nat → ClassId} {H0 : Heap} {G : jx_Gv} : (jz_m (jZ l dC dI aC H0 G) 41).1.cls = "PartText$Reader" := rfl
set_option maxRecDepth 100000 in
theorem hw_41 {l : Launch} {dC : Nat → ClassId} {dI : Nat → Nat → Nat} {aC : Nat → ClassId} {H0 : Heap} {G : jx_Gv} : Jvm.Cond.code (jz_m (jZ l dC dI aC H0 G) 41).1 (jz_m (jZ l dC dI aC H0 G) 41).2.1 (jz_m (jZ l dC dI aC H0 G) 41).2.2.1 (jz_m (jZ l dC dI aC H0 G) 41).2.2.2 ∈ jz_T (jZ l dC dI aC H0 G) := List.mem_filter.mpr ⟨List.mem_of_getElem? (i := 469) rfl, rfl⟩
theorem hp_41 {l : Launch} {dC : Nat → ClassId} {dI : Nat → Nat → Nat} {aC : Nat → ClassId} {H0 : Heap} {G : jx_Gv} : plainName (jz_m (jZ l dC dI aC H0 G) 41).1.cls = true := by show plainName "PartText$Reader" = true; decide +kernel
theorem hs_41 {l : Launch} {dC : Nat → ClassId} {dI : Nat → Nat → Nat} {aC : Nat → ClassId} {H0 : Heap} {G : jx_Gv} : (jz_m (jZ l dC dI aC H0 G) 41).1.cls ≠ "java/lang/invoke/MethodHandle" ∧ (jz_m (jZ l dC dI aC H0 G) 41).1.cls ≠ "java/lang/invoke/VarHandle" ∧ (parseMethodDescriptor (jz_m (jZ l dC dI aC H0 G) 41).1.desc).map (fun d => d.parameters.length) = some 0 := by show "PartText$Reader" ≠ _ ∧ "PartText$Reader" ≠ _ ∧ (parseMethodDescriptor "()Z").map _ = _; decide +kernel
theorem hm_42 {l : Launch} {dC : Nat → ClassId} {dI : Nat → Nat → Nat} {aC : Nat → ClassId} {H0 : Heap} {G : jx_Gv} : (jz_m (jZ l dC dI aC H0 G) 42).2.1 = c_42 := rfl
theorem ho_42 {l : Launch} {dC : Nat → ClassId} {dI : Nat → Nat → Nat} {aC : Nat → ClassId} {H0 : Heap} {G : jx_Gv} : (jz_m (jZ l dC dI aC H0 G) 42).1.cls = "PartText$Edition" := rfl
set_option maxRecDepth 100000 in
theorem hw_42 {l : Launch} {dC : Nat → ClassId} {dI : Nat → Nat → Nat} {aC : Nat → ClassId} {H0 : Heap} {G : jx_Gv} : Jvm.Cond.code (jz_m (jZ l dC dI aC H0 G) 42).1 (jz_m (jZ l dC dI aC H0 G) 42).2.1 (jz_m (jZ l dC dI aC H0 G) 42).2.2.1 (jz_m (jZ l dC dI aC H0 G) 42).2.2.2 ∈ jz_T (jZ l dC dI aC H0 G) := List.mem_filter.mpr ⟨List.mem_of_getElem? (i := 478) rfl, rfl⟩
theorem hp_42 {l : Launch} {dC : Nat → ClassId} {dI : Nat → Nat → Nat} {aC : Nat → ClassId} {H0 : Heap} {G : jx_Gv} : plainName (jz_m (jZ l dC dI aC H0 G) 42).1.cls = true := by show plainName "PartText$Edition" = true; decide +kernel
theorem hs_42 {l : Launch} {dC : Nat → ClassId} {dI : Nat → Nat → Nat} {aC : Nat → ClassId} {H0 : Heap} {G : jx_Gv} : (jz_m (jZ l dC dI aC H0 G) 42).1.cls ≠ "java/lang/invoke/MethodHandle" ∧ (jz_m (jZ l dC dI aC H0 G) 42).1.cls ≠ "java/lang/invoke/VarHandle" ∧ (parseMethodDescriptor (jz_m (jZ l dC dI aC H0 G) 42).1.desc).map (fun d => d.parameters.length) = some 0 := by show "PartText$Edition" ≠ _ ∧ "PartText$Edition" ≠ _ ∧ (parseMethodDescriptor "()I").map _ = _; decide +kernel
theorem hm_43 {l : Launch} {dC : Nat → ClassId} {dI : Nat → Nat → Nat} {aC : Nat → ClassId} {H0 : Heap} {G : jx_Gv} : (jz_m (jZ l dC dI aC H0 G) 43).2.1 = c_43 := rfl
theorem ho_43 {l : Launch} {dC : Nat → ClassId} {dI : Nat → Nat → Nat} {aC : Nat → ClassId} {H0 : Heap} {G : jx_Gv} : (jz_m (jZ l dC dI aC H0 G) 43).1.cls = "PartText$Scanner" := rfl
set_option maxRecDepth 100000 in
theorem hw_43 {l : Launch} {dC : Nat → ClassId} {dI : Nat → Nat → Nat} {aC : Nat → ClassId} {H0 : Heap} {G : jx_Gv} : Jvm.Cond.code (jz_m (jZ l dC dI aC H0 G) 43).1 (jz_m (jZ l dC dI aC H0 G) 43).2.1 (jz_m (jZ l dC dI aC H0 G) 43).2.2.1 (jz_m (jZ l dC dI aC H0 G) 43).2.2.2 ∈ jz_T (jZ l dC dI aC H0 G) := List.mem_filter.mpr ⟨List.mem_of_getElem? (i := 482) rfl, rfl⟩
theorem hp_43 {l : Launch} {dC : Nat → ClassId} {dI : Nat → Nat → Nat} {aC : Nat → ClassId} {H0 : Heap} {G : jx_Gv} : plainName (jz_m (jZ l dC dI aC H0 G) 43).1.cls = true := by show plainName "PartText$Scanner" = true; decide +kernel
theorem hs_43 {l : Launch} {dC : Nat → ClassId} {dI : Nat → Nat → Nat} {aC : Nat → ClassId} {H0 : Heap} {G : jx_Gv} : (jz_m (jZ l dC dI aC H0 G) 43).1.cls ≠ "java/lang/invoke/MethodHandle" ∧ (jz_m (jZ l dC dI aC H0 G) 43).1.cls ≠ "java/lang/invoke/VarHandle" ∧ (parseMethodDescriptor (jz_m (jZ l dC dI aC H0 G) 43).1.desc).map (fun d => d.parameters.length) = some 1 := by show "PartText$Scanner" ≠ _ ∧ "PartText$Scanner" ≠ _ ∧ (parseMethodDescriptor "(I)Z").map _ = _; decide +kernel
theorem hm_44 {l : Launch} {dC : Nat → ClassId} {dI : Nat → Nat → Nat} {aC : Nat → ClassId} {H0 : Heap} {G : jx_Gv} : (jz_m (jZ l dC dI aC H0 G) 44).2.1 = c_44 := rfl
theorem ho_44 {l : Launch} {dC : Nat → ClassId} {dI : Nat → Nat → Nat} {aC : Nat → ClassId} {H0 : Heap} {G : jx_Gv} : (jz_m (jZ l dC dI aC H0 G) 44).1.cls = "PartText$Edition" := rfl
set_option maxRecDepth 100000 in
theorem hw_44 {l : Launch} {dC : Nat → ClassId} {dI : Nat → Nat → Nat} {aC : Nat → ClassId} {H0 : Heap} {G : jx_Gv} : Jvm.Cond.code (jz_m (jZ l dC dI aC H0 G) 44).1 (jz_m (jZ l dC dI aC H0 G) 44).2.1 (jz_m (jZ l dC dI aC H0 G) 44).2.2.1 (jz_m (jZ l dC dI aC H0 G) 44).2.2.2 ∈ jz_T (jZ l dC dI aC H0 G) := List.mem_filter.mpr ⟨List.mem_of_getElem? (i := 487) rfl, rfl⟩
theorem hp_44 {l : Launch} {dC : Nat → ClassId} {dI : Nat → Nat → Nat} {aC : Nat → ClassId} {H0 : Heap} {G : jx_Gv} : plainName (jz_m (jZ l dC dI aC H0 G) 44).1.cls = true := by show plainName "PartText$Edition" = true; decide +kernel
theorem hs_44 {l : Launch} {dC : Nat → ClassId} {dI : Nat → Nat → Nat} {aC : Nat → ClassId} {H0 : Heap} {G : jx_Gv} : (jz_m (jZ l dC dI aC H0 G) 44).1.cls ≠ "java/lang/invoke/MethodHandle" ∧ (jz_m (jZ l dC dI aC H0 G) 44).1.cls ≠ "java/lang/invoke/VarHandle" ∧ (parseMethodDescriptor (jz_m (jZ l dC dI aC H0 G) 44).1.desc).map (fun d => d.parameters.length) = some 2 := by show "PartText$Edition" ≠ _ ∧ "PartText$Edition" ≠ _ ∧ (parseMethodDescriptor "(II)V").map _ = _; decide +kernel
theorem hm_45 {l : Launch} {dC : Nat → ClassId} {dI : Nat → Nat → Nat} {aC : Nat → ClassId} {H0 : Heap} {G : jx_Gv} : (jz_m (jZ l dC dI aC H0 G) 45).2.1 = c_45 := rfl
theorem ho_45 {l : Launch} {dC : Nat → ClassId} {dI : Nat → Nat → Nat} {aC : Nat → ClassId} {H0 : Heap} {G : jx_Gv} : (jz_m (jZ l dC dI aC H0 G) 45).1.cls = "PartText$Edition" := rfl
set_option maxRecDepth 100000 in
theorem hw_45 {l : Launch} {dC : Nat → ClassId} {dI : Nat → Nat → Nat} {aC : Nat → ClassId} {H0 : Heap} {G : jx_Gv} : Jvm.Cond.code (jz_m (jZ l dC dI aC H0 G) 45).1 (jz_m (jZ l dC dI aC H0 G) 45).2.1 (jz_m (jZ l dC dI aC H0 G) 45).2.2.1 (jz_m (jZ l dC dI aC H0 G) 45).2.2.2 ∈ jz_T (jZ l dC dI aC H0 G) := List.mem_filter.mpr ⟨List.mem_of_getElem? (i := 495) rfl, rfl⟩
theorem hp_45 {l : Launch} {dC : Nat → ClassId} {dI : Nat → Nat → Nat} {aC : Nat → ClassId} {H0 : Heap} {G : jx_Gv} : plainName (jz_m (jZ l dC dI aC H0 G) 45).1.cls = true := by show plainName "PartText$Edition" = true; decide +kernel
theorem hs_45 {l : Launch} {dC : Nat → ClassId} {dI : Nat → Nat → Nat} {aC : Nat → ClassId} {H0 : Heap} {G : jx_Gv} : (jz_m (jZ l dC dI aC H0 G) 45).1.cls ≠ "java/lang/invoke/MethodHandle" ∧ (jz_m (jZ l dC dI aC H0 G) 45).1.cls ≠ "java/lang/invoke/VarHandle" ∧ (parseMethodDescriptor (jz_m (jZ l dC dI aC H0 G) 45).1.desc).map (fun d => d.parameters.length) = some 2 := by show "PartText$Edition" ≠ _ ∧ "PartText$Edition" ≠ _ ∧ (parseMethodDescriptor "(II)V").map _ = _; decide +kernel
theorem hm_46 {l : Launch} {dC : Nat → ClassId} {dI : Nat → Nat → Nat} {aC : Nat → ClassId} {H0 : Heap} {G : jx_Gv} : (jz_m (jZ l dC dI aC H0 G) 46).2.1 = c_46 := rfl
theorem ho_46 {l : Launch} {dC : Nat → ClassId} {dI : Nat → Nat → Nat} {aC : Nat → ClassId} {H0 : Heap} {G : jx_Gv} : (jz_m (jZ l dC dI aC H0 G) 46).1.cls = "PartText$Reader" := rfl
set_option maxRecDepth 100000 in
theorem hw_46 {l : Launch} {dC : Nat → ClassId} {dI : Nat → Nat → Nat} {aC : Nat → ClassId} {H0 : Heap} {G : jx_Gv} : Jvm.Cond.code (jz_m (jZ l dC dI aC H0 G) 46).1 (jz_m (jZ l dC dI aC H0 G) 46).2.1 (jz_m (jZ l dC dI aC H0 G) 46).2.2.1 (jz_m (jZ l dC dI aC H0 G) 46).2.2.2 ∈ jz_T (jZ l dC dI aC H0 G) := List.mem_filter.mpr ⟨List.mem_of_getElem? (i := 491) rfl, rfl⟩
theorem hp_46 {l : Launch} {dC : Nat → ClassId} {dI : Nat → Nat → Nat} {aC : Nat → ClassId} {H0 : Heap} {G : jx_Gv} : plainName (jz_m (jZ l dC dI aC H0 G) 46).1.cls = true := by show plainName "PartText$Reader" = true; decide +kernel
theorem hs_46 {l : Launch} {dC : Nat → ClassId} {dI : Nat → Nat → Nat} {aC : Nat → ClassId} {H0 : Heap} {G : jx_Gv} : (jz_m (jZ l dC dI aC H0 G) 46).1.cls ≠ "java/lang/invoke/MethodHandle" ∧ (jz_m (jZ l dC dI aC H0 G) 46).1.cls ≠ "java/lang/invoke/VarHandle" ∧ (parseMethodDescriptor (jz_m (jZ l dC dI aC H0 G) 46).1.desc).map (fun d => d.parameters.length) = some 2 := by show "PartText$Reader" ≠ _ ∧ "PartText$Reader" ≠ _ ∧ (parseMethodDescriptor "(LPartText$Edition;I)Z").map _ = _; decide +kernel
theorem hm_47 {l : Launch} {dC : Nat → ClassId} {dI : Nat → Nat → Nat} {aC : Nat → ClassId} {H0 : Heap} {G : jx_Gv} : (jz_m (jZ l dC dI aC H0 G) 47).2.1 = c_47 := rfl
theorem ho_47 {l : Launch} {dC : Nat → ClassId} {dI : Nat → Nat → Nat} {aC : Nat → ClassId} {H0 : Heap} {G : jx_Gv} : (jz_m (jZ l dC dI aC H0 G) 47).1.cls = "PartText$Edition" := rfl
set_option maxRecDepth 100000 in
theorem hw_47 {l : Launch} {dC : Nat → ClassId} {dI : Nat → Nat → Nat} {aC : Nat → ClassId} {H0 : Heap} {G : jx_Gv} : Jvm.Cond.code (jz_m (jZ l dC dI aC H0 G) 47).1 (jz_m (jZ l dC dI aC H0 G) 47).2.1 (jz_m (jZ l dC dI aC H0 G) 47).2.2.1 (jz_m (jZ l dC dI aC H0 G) 47).2.2.2 ∈ jz_T (jZ l dC dI aC H0 G) := List.mem_filter.mpr ⟨List.mem_of_getElem? (i := 499) rfl, rfl⟩
theorem hp_47 {l : Launch} {dC : Nat → ClassId} {dI : Nat → Nat → Nat} {aC : Nat → ClassId} {H0 : Heap} {G : jx_Gv} : plainName (jz_m (jZ l dC dI aC H0 G) 47).1.cls = true := by show plainName "PartText$Edition" = true; decide +kernel
theorem hs_47 {l : Launch} {dC : Nat → ClassId} {dI : Nat → Nat → Nat} {aC : Nat → ClassId} {H0 : Heap} {G : jx_Gv} : (jz_m (jZ l dC dI aC H0 G) 47).1.cls ≠ "java/lang/invoke/MethodHandle" ∧ (jz_m (jZ l dC dI aC H0 G) 47).1.cls ≠ "java/lang/invoke/VarHandle" ∧ (parseMethodDescriptor (jz_m (jZ l dC dI aC H0 G) 47).1.desc).map (fun d => d.parameters.length) = some 1 := by show "PartText$Edition" ≠ _ ∧ "PartText$Edition" ≠ _ ∧ (parseMethodDescriptor "(I)I").map _ = _; decide +kernel
theorem hm_48 {l : Launch} {dC : Nat → ClassId} {dI : Nat → Nat → Nat} {aC : Nat → ClassId} {H0 : Heap} {G : jx_Gv} : (jz_m (jZ l dC dI aC H0 G) 48).2.1 = c_48 := rfl
theorem ho_48 {l : Launch} {dC : Nat → ClassId} {dI : Nat → Nat → Nat} {aC : Nat → ClassId} {H0 : Heap} {G : jx_Gv} : (jz_m (jZ l dC dI aC H0 G) 48).1.cls = "PartText$Reader" := rfl
set_option maxRecDepth 100000 in
theorem hw_48 {l : Launch} {dC : Nat → ClassId} {dI : Nat → Nat → Nat} {aC : Nat → ClassId} {H0 : Heap} {G : jx_Gv} : Jvm.Cond.code (jz_m (jZ l dC dI aC H0 G) 48).1 (jz_m (jZ l dC dI aC H0 G) 48).2.1 (jz_m (jZ l dC dI aC H0 G) 48).2.2.1 (jz_m (jZ l dC dI aC H0 G) 48).2.2.2 ∈ jz_T (jZ l dC dI aC H0 G) := List.mem_filter.mpr ⟨List.mem_of_getElem? (i := 502) rfl, rfl⟩
theorem hp_48 {l : Launch} {dC : Nat → ClassId} {dI : Nat → Nat → Nat} {aC : Nat → ClassId} {H0 : Heap} {G : jx_Gv} : plainName (jz_m (jZ l dC dI aC H0 G) 48).1.cls = true := by show plainName "PartText$Reader" = true; decide +kernel
theorem hs_48 {l : Launch} {dC : Nat → ClassId} {dI : Nat → Nat → Nat} {aC : Nat → ClassId} {H0 : Heap} {G : jx_Gv} : (jz_m (jZ l dC dI aC H0 G) 48).1.cls ≠ "java/lang/invoke/MethodHandle" ∧ (jz_m (jZ l dC dI aC H0 G) 48).1.cls ≠ "java/lang/invoke/VarHandle" ∧ (parseMethodDescriptor (jz_m (jZ l dC dI aC H0 G) 48).1.desc).map (fun d => d.parameters.length) = some 1 := by show "PartText$Reader" ≠ _ ∧ "PartText$Reader" ≠ _ ∧ (parseMethodDescriptor "(I)I").map _ = _; decide +kernel
theorem hm_49 {l : Launch} {dC : Nat → ClassId} {dI : Nat → Nat → Nat} {aC : Nat → ClassId} {H0 : Heap} {G : jx_Gv} : (jz_m (jZ l dC dI aC H0 G) 49).2.1 = c_49 := rfl
theorem ho_49 {l : Launch} {dC : Nat → ClassId} {dI : Nat → Nat → Nat} {aC : Nat → ClassId} {H0 : Heap} {G : jx_Gv} : (jz_m (jZ l dC dI aC H0 G) 49).1.cls = "PartText$Scanner" := rfl
set_option maxRecDepth 100000 in
theorem hw_49 {l : Launch} {dC : Nat → ClassId} {dI : Nat → Nat → Nat} {aC : Nat → ClassId} {H0 : Heap} {G : jx_Gv} : Jvm.Cond.code (jz_m (jZ l dC dI aC H0 G) 49).1 (jz_m (jZ l dC dI aC H0 G) 49).2.1 (jz_m (jZ l dC dI aC H0 G) 49).2.2.1 (jz_m (jZ l dC dI aC H0 G) 49).2.2.2 ∈ jz_T (jZ l dC dI aC H0 G) := List.mem_filter.mpr ⟨List.mem_of_getElem? (i := 506) rfl, rfl⟩
theorem hp_49 {l : Launch} {dC : Nat → ClassId} {dI : Nat → Nat → Nat} {aC : Nat → ClassId} {H0 : Heap} {G : jx_Gv} : plainName (jz_m (jZ l dC dI aC H0 G) 49).1.cls = true := by show plainName "PartText$Scanner" = true; decide +kernel
theorem hs_49 {l : Launch} {dC : Nat → ClassId} {dI : Nat → Nat → Nat} {aC : Nat → ClassId} {H0 : Heap} {G : jx_Gv} : (jz_m (jZ l dC dI aC H0 G) 49).1.cls ≠ "java/lang/invoke/MethodHandle" ∧ (jz_m (jZ l dC dI aC H0 G) 49).1.cls ≠ "java/lang/invoke/VarHandle" ∧ (parseMethodDescriptor (jz_m (jZ l dC dI aC H0 G) 49).1.desc).map (fun d => d.parameters.length) = some 1 := by show "PartText$Scanner" ≠ _ ∧ "PartText$Scanner" ≠ _ ∧ (parseMethodDescriptor "(I)Z").map _ = _; decide +kernel
theorem hm_50 {l : Launch} {dC : Nat → ClassId} {dI : Nat → Nat → Nat} {aC : Nat → ClassId} {H0 : Heap} {G : jx_Gv} : (jz_m (jZ l dC dI aC H0 G) 50).2.1 = c_50 := rfl
theorem ho_50 {l : Launch} {dC : Nat → ClassId} {dI : Nat → Nat → Nat} {aC : Nat → ClassId} {H0 : Heap} {G : jx_Gv} : (jz_m (jZ l dC dI aC H0 G) 50).1.cls = "PartText$Scanner" := rfl
set_option maxRecDepth 100000 in
theorem hw_50 {l : Launch} {dC : Nat → ClassId} {dI : Nat → Nat → Nat} {aC : Nat → ClassId} {H0 : Heap} {G : jx_Gv} : Jvm.Cond.code (jz_m (jZ l dC dI aC H0 G) 50).1 (jz_m (jZ l dC dI aC H0 G) 50).2.1 (jz_m (jZ l dC dI aC H0 G) 50).2.2.1 (jz_m (jZ l dC dI aC H0 G) 50).2.2.2 ∈ jz_T (jZ l dC dI aC H0 G) := List.mem_filter.mpr ⟨List.mem_of_getElem? (i := 510) rfl, rfl⟩
theorem hp_50 {l : Launch} {dC : Nat → ClassId} {dI : Nat → Nat → Nat} {aC : Nat → ClassId} {H0 : Heap} {G : jx_Gv} : plainName (jz_m (jZ l dC dI aC H0 G) 50).1.cls = true := by show plainName "PartText$Scanner" = true; decide +kernel
theorem hs_50 {l : Launch} {dC : Nat → ClassId} {dI : Nat → Nat → Nat} {aC : Nat → ClassId} {H0 : Heap} {G : jx_Gv} : (jz_m (jZ l dC dI aC H0 G) 50).1.cls ≠ "java/lang/invoke/MethodHandle" ∧ (jz_m (jZ l dC dI aC H0 G) 50).1.cls ≠ "java/lang/invoke/VarHandle" ∧ (parseMethodDescriptor (jz_m (jZ l dC dI aC H0 G) 50).1.desc).map (fun d => d.parameters.length) = some 0 := by show "PartText$Scanner" ≠ _ ∧ "PartText$Scanner" ≠ _ ∧ (parseMethodDescriptor "()I").map _ = _; decide +kernel
theorem hm_51 {l : Launch} {dC : Nat → ClassId} {dI : Nat → Nat → Nat} {aC : Nat → ClassId} {H0 : Heap} {G : jx_Gv} : (jz_m (jZ l dC dI aC H0 G) 51).2.1 = c_51 := rfl
theorem ho_51 {l : Launch} {dC : Nat → ClassId} {dI : Nat → Nat → Nat} {aC : Nat → ClassId} {H0 : Heap} {G : jx_Gv} : (jz_m (jZ l dC dI aC H0 G) 51).1.cls = "PartText$Reader" := rfl
set_option maxRecDepth 100000 in
theorem hw_51 {l : Launch} {dC : Nat → ClassId} {dI : Nat → Nat → Nat} {aC : Nat → ClassId} {H0 : Heap} {G : jx_Gv} : Jvm.Cond.code (jz_m (jZ l dC dI aC H0 G) 51).1 (jz_m (jZ l dC dI aC H0 G) 51).2.1 (jz_m (jZ l dC dI aC H0 G) 51).2.2.1 (jz_m (jZ l dC dI aC H0 G) 51).2.2.2 ∈ jz_T (jZ l dC dI aC H0 G) := List.mem_filter.mpr ⟨List.mem_of_getElem? (i := 514) rfl, rfl⟩
theorem hp_51 {l : Launch} {dC : Nat → ClassId} {dI : Nat → Nat → Nat} {aC : Nat → ClassId} {H0 : Heap} {G : jx_Gv} : plainName (jz_m (jZ l dC dI aC H0 G) 51).1.cls = true := by show plainName "PartText$Reader" = true; decide +kernel
theorem hs_51 {l : Launch} {dC : Nat → ClassId} {dI : Nat → Nat → Nat} {aC : Nat → ClassId} {H0 : Heap} {G : jx_Gv} : (jz_m (jZ l dC dI aC H0 G) 51).1.cls ≠ "java/lang/invoke/MethodHandle" ∧ (jz_m (jZ l dC dI aC H0 G) 51).1.cls ≠ "java/lang/invoke/VarHandle" ∧ (parseMethodDescriptor (jz_m (jZ l dC dI aC H0 G) 51).1.desc).map (fun d => d.parameters.length) = some 1 := by show "PartText$Reader" ≠ _ ∧ "PartText$Reader" ≠ _ ∧ (parseMethodDescriptor "(I)Ljava/lang/String;").map _ = _; decide +kernel
theorem hm_52 {l : Launch} {dC : Nat → ClassId} {dI : Nat → Nat → Nat} {aC : Nat → ClassId} {H0 : Heap} {G : jx_Gv} : (jz_m (jZ l dC dI aC H0 G) 52).2.1 = c_52 := rfl
theorem ho_52 {l : Launch} {dC : Nat → ClassId} {dI : Nat → Nat → Nat} {aC : Nat → ClassId} {H0 : Heap} {G : jx_Gv} : (jz_m (jZ l dC dI aC H0 G) 52).1.cls = "PartText$Reader" := rfl
set_option maxRecDepth 100000 in
theorem hw_52 {l : Launch} {dC : Nat → ClassId} {dI : Nat → Nat → Nat} {aC : Nat → ClassId} {H0 : Heap} {G : jx_Gv} : Jvm.Cond.code (jz_m (jZ l dC dI aC H0 G) 52).1 (jz_m (jZ l dC dI aC H0 G) 52).2.1 (jz_m (jZ l dC dI aC H0 G) 52).2.2.1 (jz_m (jZ l dC dI aC H0 G) 52).2.2.2 ∈ jz_T (jZ l dC dI aC H0 G) := List.mem_filter.mpr ⟨List.mem_of_getElem? (i := 474) rfl, rfl⟩
theorem hp_52 {l : Launch} {dC : Nat → ClassId} {dI : Nat → Nat → Nat} {aC : Nat → ClassId} {H0 : Heap} {G : jx_Gv} : plainName (jz_m (jZ l dC dI aC H0 G) 52).1.cls = true := by show plainName "PartText$Reader" = true; decide +kernel
theorem hs_52 {l : Launch} {dC : Nat → ClassId} {dI : Nat → Nat → Nat} {aC : Nat → ClassId} {H0 : Heap} {G : jx_Gv} : (jz_m (jZ l dC dI aC H0 G) 52).1.cls ≠ "java/lang/invoke/MethodHandle" ∧ (jz_m (jZ l dC dI aC H0 G) 52).1.cls ≠ "java/lang/invoke/VarHandle" ∧ (parseMethodDescriptor (jz_m (jZ l dC dI aC H0 G) 52).1.desc).map (fun d => d.parameters.length) = some 1 := by show "PartText$Reader" ≠ _ ∧ "PartText$Reader" ≠ _ ∧ (parseMethodDescriptor "(LPartText$Edition;)Z").map _ = _; decide +kernel
theorem hm_53 {l : Launch} {dC : Nat → ClassId} {dI : Nat → Nat → Nat} {aC : Nat → ClassId} {H0 : Heap} {G : jx_Gv} : (jz_m (jZ l dC dI aC H0 G) 53).2.1 = c_53 := rfl
theorem ho_53 {l : Launch} {dC : Nat → ClassId} {dI : Nat → Nat → Nat} {aC : Nat → ClassId} {H0 : Heap} {G : jx_Gv} : (jz_m (jZ l dC dI aC H0 G) 53).1.cls = "PartText$Scanner" := rfl
set_option maxRecDepth 100000 in
theorem hw_53 {l : Launch} {dC : Nat → ClassId} {dI : Nat → Nat → Nat} {aC : Nat → ClassId} {H0 : Heap} {G : jx_Gv} : Jvm.Cond.code (jz_m (jZ l dC dI aC H0 G) 53).1 (jz_m (jZ l dC dI aC H0 G) 53).2.1 (jz_m (jZ l dC dI aC H0 G) 53).2.2.1 (jz_m (jZ l dC dI aC H0 G) 53).2.2.2 ∈ jz_T (jZ l dC dI aC H0 G) := List.mem_filter.mpr ⟨List.mem_of_getElem? (i := 529) rfl, rfl⟩
theorem hp_53 {l : Launch} {dC : Nat → ClassId} {dI : Nat → Nat → Nat} {aC : Nat → ClassId} {H0 : Heap} {G : jx_Gv} : plainName (jz_m (jZ l dC dI aC H0 G) 53).1.cls = true := by show plainName "PartText$Scanner" = true; decide +kernel
theorem hs_53 {l : Launch} {dC : Nat → ClassId} {dI : Nat → Nat → Nat} {aC : Nat → ClassId} {H0 : Heap} {G : jx_Gv} : (jz_m (jZ l dC dI aC H0 G) 53).1.cls ≠ "java/lang/invoke/MethodHandle" ∧ (jz_m (jZ l dC dI aC H0 G) 53).1.cls ≠ "java/lang/invoke/VarHandle" ∧ (parseMethodDescriptor (jz_m (jZ l dC dI aC H0 G) 53).1.desc).map (fun d => d.parameters.length) = some 0 := by show "PartText$Scanner" ≠ _ ∧ "PartText$Scanner" ≠ _ ∧ (parseMethodDescriptor "()J").map _ = _; decide +kernel
theorem hm_54 {l : Launch} {dC : Nat → ClassId} {dI : Nat → Nat → Nat} {aC : Nat → ClassId} {H0 : Heap} {G : jx_Gv} : (jz_m (jZ l dC dI aC H0 G) 54).2.1 = c_54 := rfl
theorem ho_54 {l : Launch} {dC : Nat → ClassId} {dI : Nat → Nat → Nat} {aC : Nat → ClassId} {H0 : Heap} {G : jx_Gv} : (jz_m (jZ l dC dI aC H0 G) 54).1.cls = "PartText$Edition" := rfl
set_option maxRecDepth 100000 in
theorem hw_54 {l : Launch} {dC : Nat → ClassId} {dI : Nat → Nat → Nat} {aC : Nat → ClassId} {H0 : Heap} {G : jx_Gv} : Jvm.Cond.code (jz_m (jZ l dC dI aC H0 G) 54).1 (jz_m (jZ l dC dI aC H0 G) 54).2.1 (jz_m (jZ l dC dI aC H0 G) 54).2.2.1 (jz_m (jZ l dC dI aC H0 G) 54).2.2.2 ∈ jz_T (jZ l dC dI aC H0 G) := List.mem_filter.mpr ⟨List.mem_of_getElem? (i := 533) rfl, rfl⟩
theorem hp_54 {l : Launch} {dC : Nat → ClassId} {dI : Nat → Nat → Nat} {aC : Nat → ClassId} {H0 : Heap} {G : jx_Gv} : plainName (jz_m (jZ l dC dI aC H0 G) 54).1.cls = true := by show plainName "PartText$Edition" = true; decide +kernel
theorem hs_54 {l : Launch} {dC : Nat → ClassId} {dI : Nat → Nat → Nat} {aC : Nat → ClassId} {H0 : Heap} {G : jx_Gv} : (jz_m (jZ l dC dI aC H0 G) 54).1.cls ≠ "java/lang/invoke/MethodHandle" ∧ (jz_m (jZ l dC dI aC H0 G) 54).1.cls ≠ "java/lang/invoke/VarHandle" ∧ (parseMethodDescriptor (jz_m (jZ l dC dI aC H0 G) 54).1.desc).map (fun d => d.parameters.length) = some 1 := by show "PartText$Edition" ≠ _ ∧ "PartText$Edition" ≠ _ ∧ (parseMethodDescriptor "(J)I").map _ = _; decide +kernel
theorem hm_55 {l : Launch} {dC : Nat → ClassId} {dI : Nat → Nat → Nat} {aC : Nat → ClassId} {H0 : Heap} {G : jx_Gv} : (jz_m (jZ l dC dI aC H0 G) 55).2.1 = c_55 := rfl
theorem ho_55 {l : Launch} {dC : Nat → ClassId} {dI : Nat → Nat → Nat} {aC : Nat → ClassId} {H0 : Heap} {G : jx_Gv} : (jz_m (jZ l dC dI aC H0 G) 55).1.cls = "PartText$Scanner" := rfl
set_option maxRecDepth 100000 in
theorem hw_55 {l : Launch} {dC : Nat → ClassId} {dI : Nat → Nat → Nat} {aC : Nat → ClassId} {H0 : Heap} {G : jx_Gv} : Jvm.Cond.code (jz_m (jZ l dC dI aC H0 G) 55).1 (jz_m (jZ l dC dI aC H0 G) 55).2.1 (jz_m (jZ l dC dI aC H0 G) 55).2.2.1 (jz_m (jZ l dC dI aC H0 G) 55).2.2.2 ∈ jz_T (jZ l dC dI aC H0 G) := List.mem_filter.mpr ⟨List.mem_of_getElem? (i := 537) rfl, rfl⟩
theorem hp_55 {l : Launch} {dC : Nat → ClassId} {dI : Nat → Nat → Nat} {aC : Nat → ClassId} {H0 : Heap} {G : jx_Gv} : plainName (jz_m (jZ l dC dI aC H0 G) 55).1.cls = true := by show plainName "PartText$Scanner" = true; decide +kernel
theorem hs_55 {l : Launch} {dC : Nat → ClassId} {dI : Nat → Nat → Nat} {aC : Nat → ClassId} {H0 : Heap} {G : jx_Gv} : (jz_m (jZ l dC dI aC H0 G) 55).1.cls ≠ "java/lang/invoke/MethodHandle" ∧ (jz_m (jZ l dC dI aC H0 G) 55).1.cls ≠ "java/lang/invoke/VarHandle" ∧ (parseMethodDescriptor (jz_m (jZ l dC dI aC H0 G) 55).1.desc).map (fun d => d.parameters.length) = some 2 := by show "PartText$Scanner" ≠ _ ∧ "PartText$Scanner" ≠ _ ∧ (parseMethodDescriptor "(II)Z").map _ = _; decide +kernel
theorem hm_56 {l : Launch} {dC : Nat → ClassId} {dI : Nat → Nat → Nat} {aC : Nat → ClassId} {H0 : Heap} {G : jx_Gv} : (jz_m (jZ l dC dI aC H0 G) 56).2.1 = c_56 := rfl
theorem ho_56 {l : Launch} {dC : Nat → ClassId} {dI : Nat → Nat → Nat} {aC : Nat → ClassId} {H0 : Heap} {G : jx_Gv} : (jz_m (jZ l dC dI aC H0 G) 56).1.cls = "PartText$Reader" := rfl
set_option maxRecDepth 100000 in
theorem hw_56 {l : Launch} {dC : Nat → ClassId} {dI : Nat → Nat → Nat} {aC : Nat → ClassId} {H0 : Heap} {G : jx_Gv} : Jvm.Cond.code (jz_m (jZ l dC dI aC H0 G) 56).1 (jz_m (jZ l dC dI aC H0 G) 56).2.1 (jz_m (jZ l dC dI aC H0 G) 56).2.2.1 (jz_m (jZ l dC dI aC H0 G) 56).2.2.2 ∈ jz_T (jZ l dC dI aC H0 G) := List.mem_filter.mpr ⟨List.mem_of_getElem? (i := 542) rfl, rfl⟩
theorem hp_56 {l : Launch} {dC : Nat → ClassId} {dI : Nat → Nat → Nat} {aC : Nat → ClassId} {H0 : Heap} {G : jx_Gv} : plainName (jz_m (jZ l dC dI aC H0 G) 56).1.cls = true := by show plainName "PartText$Reader" = true; decide +kernel
theorem hs_56 {l : Launch} {dC : Nat → ClassId} {dI : Nat → Nat → Nat} {aC : Nat → ClassId} {H0 : Heap} {G : jx_Gv} : (jz_m (jZ l dC dI aC H0 G) 56).1.cls ≠ "java/lang/invoke/MethodHandle" ∧ (jz_m (jZ l dC dI aC H0 G) 56).1.cls ≠ "java/lang/invoke/VarHandle" ∧ (parseMethodDescriptor (jz_m (jZ l dC dI aC H0 G) 56).1.desc).map (fun d => d.parameters.length) = some 1 := by show "PartText$Reader" ≠ _ ∧ "PartText$Reader" ≠ _ ∧ (parseMethodDescriptor "(LPartText$Edition;)Z").map _ = _; decide +kernel
theorem hm_57 {l : Launch} {dC : Nat → ClassId} {dI : Nat → Nat → Nat} {aC : Nat → ClassId} {H0 : Heap} {G : jx_Gv} : (jz_m (jZ l dC dI aC H0 G) 57).2.1 = c_57 := rfl
theorem ho_57 {l : Launch} {dC : Nat → ClassId} {dI : Nat → Nat → Nat} {aC : Nat → ClassId} {H0 : Heap} {G : jx_Gv} : (jz_m (jZ l dC dI aC H0 G) 57).1.cls = "PartText$Reader" := rfl
set_option maxRecDepth 100000 in
theorem hw_57 {l : Launch} {dC : Nat → ClassId} {dI : Nat → Nat → Nat} {aC : Nat → ClassId} {H0 : Heap} {G : jx_Gv} : Jvm.Cond.code (jz_m (jZ l dC dI aC H0 G) 57).1 (jz_m (jZ l dC dI aC H0 G) 57).2.1 (jz_m (jZ l dC dI aC H0 G) 57).2.2.1 (jz_m (jZ l dC dI aC H0 G) 57).2.2.2 ∈ jz_T (jZ l dC dI aC H0 G) := List.mem_filter.mpr ⟨List.mem_of_getElem? (i := 553) rfl, rfl⟩
theorem hp_57 {l : Launch} {dC : Nat → ClassId} {dI : Nat → Nat → Nat} {aC : Nat → ClassId} {H0 : Heap} {G : jx_Gv} : plainName (jz_m (jZ l dC dI aC H0 G) 57).1.cls = true := by show plainName "PartText$Reader" = true; decide +kernel
theorem hs_57 {l : Launch} {dC : Nat → ClassId} {dI : Nat → Nat → Nat} {aC : Nat → ClassId} {H0 : Heap} {G : jx_Gv} : (jz_m (jZ l dC dI aC H0 G) 57).1.cls ≠ "java/lang/invoke/MethodHandle" ∧ (jz_m (jZ l dC dI aC H0 G) 57).1.cls ≠ "java/lang/invoke/VarHandle" ∧ (parseMethodDescriptor (jz_m (jZ l dC dI aC H0 G) 57).1.desc).map (fun d => d.parameters.length) = some 1 := by show "PartText$Reader" ≠ _ ∧ "PartText$Reader" ≠ _ ∧ (parseMethodDescriptor "(LPartText$Edition;)Z").map _ = _; decide +kernel
theorem hm_58 {l : Launch} {dC : Nat → ClassId} {dI : Nat → Nat → Nat} {aC : Nat → ClassId} {H0 : Heap} {G : jx_Gv} : (jz_m (jZ l dC dI aC H0 G) 58).2.1 = c_58 := rfl
theorem ho_58 {l : Launch} {dC : Nat → ClassId} {dI : Nat → Nat → Nat} {aC : Nat → ClassId} {H0 : Heap} {G : jx_Gv} : (jz_m (jZ l dC dI aC H0 G) 58).1.cls = "PartText$Reader" := rfl
set_option maxRecDepth 100000 in
theorem hw_58 {l : Launch} {dC : Nat → ClassId} {dI : Nat → Nat → Nat} {aC : Nat → ClassId} {H0 : Heap} {G : jx_Gv} : Jvm.Cond.code (jz_m (jZ l dC dI aC H0 G) 58).1 (jz_m (jZ l dC dI aC H0 G) 58).2.1 (jz_m (jZ l dC dI aC H0 G) 58).2.2.1 (jz_m (jZ l dC dI aC H0 G) 58).2.2.2 ∈ jz_T (jZ l dC dI aC H0 G) := List.mem_filter.mpr ⟨List.mem_of_getElem? (i := 547) rfl, rfl⟩
theorem hp_58 {l : Launch} {dC : Nat → ClassId} {dI : Nat → Nat → Nat} {aC : Nat → ClassId} {H0 : Heap} {G : jx_Gv} : plainName (jz_m (jZ l dC dI aC H0 G) 58).1.cls = true := by show plainName "PartText$Reader" = true; decide +kernel
theorem hs_58 {l : Launch} {dC : Nat → ClassId} {dI : Nat → Nat → Nat} {aC : Nat → ClassId} {H0 : Heap} {G : jx_Gv} : (jz_m (jZ l dC dI aC H0 G) 58).1.cls ≠ "java/lang/invoke/MethodHandle" ∧ (jz_m (jZ l dC dI aC H0 G) 58).1.cls ≠ "java/lang/invoke/VarHandle" ∧ (parseMethodDescriptor (jz_m (jZ l dC dI aC H0 G) 58).1.desc).map (fun d => d.parameters.length) = some 1 := by show "PartText$Reader" ≠ _ ∧ "PartText$Reader" ≠ _ ∧ (parseMethodDescriptor "(LPartText$Edition;)Z").map _ = _; decide +kernel
theorem hm_59 {l : Launch} {dC : Nat → ClassId} {dI : Nat → Nat → Nat} {aC : Nat → ClassId} {H0 : Heap} {G : jx_Gv} : (jz_m (jZ l dC dI aC H0 G) 59).2.1 = c_59 := rfl
theorem ho_59 {l : Launch} {dC : Nat → ClassId} {dI : Nat → Nat → Nat} {aC : Nat → ClassId} {H0 : Heap} {G : jx_Gv} : (jz_m (jZ l dC dI aC H0 G) 59).1.cls = "PartText$Reader" := rfl
set_option maxRecDepth 100000 in
theorem hw_59 {l : Launch} {dC : Nat → ClassId} {dI : Nat → Nat → Nat} {aC : Nat → ClassId} {H0 : Heap} {G : jx_Gv} : Jvm.Cond.code (jz_m (jZ l dC dI aC H0 G) 59).1 (jz_m (jZ l dC dI aC H0 G) 59).2.1 (jz_m (jZ l dC dI aC H0 G) 59).2.2.1 (jz_m (jZ l dC dI aC H0 G) 59).2.2.2 ∈ jz_T (jZ l dC dI aC H0 G) := List.mem_filter.mpr ⟨List.mem_of_getElem? (i := 524) rfl, rfl⟩
theorem hp_59 {l : Launch} {dC : Nat → ClassId} {dI : Nat → Nat → Nat} {aC : Nat → ClassId} {H0 : Heap} {G : jx_Gv} : plainName (jz_m (jZ l dC dI aC H0 G) 59).1.cls = true := by show plainName "PartText$Reader" = true; decide +kernel
theorem hs_59 {l : Launch} {dC : Nat → ClassId} {dI : Nat → Nat → Nat} {aC : Nat → ClassId} {H0 : Heap} {G : jx_Gv} : (jz_m (jZ l dC dI aC H0 G) 59).1.cls ≠ "java/lang/invoke/MethodHandle" ∧ (jz_m (jZ l dC dI aC H0 G) 59).1.cls ≠ "java/lang/invoke/VarHandle" ∧ (parseMethodDescriptor (jz_m (jZ l dC dI aC H0 G) 59).1.desc).map (fun d => d.parameters.length) = some 1 := by show "PartText$Reader" ≠ _ ∧ "PartText$Reader" ≠ _ ∧ (parseMethodDescriptor "(LPartText$Edition;)Z").map _ = _; decide +kernel
theorem hm_60 {l : Launch} {dC : Nat → ClassId} {dI : Nat → Nat → Nat} {aC : Nat → ClassId} {H0 : Heap} {G : jx_Gv} : (jz_m (jZ l dC dI aC H0 G) 60).2.1 = c_60 := rfl
theorem ho_60 {l : Launch} {dC : Nat → ClassId} {dI : Nat → Nat → Nat} {aC : Nat → ClassId} {H0 : Heap} {G : jx_Gv} : (jz_m (jZ l dC dI aC H0 G) 60).1.cls = "PartText$Reader" := rfl
set_option maxRecDepth 100000 in
theorem hw_60 {l : Launch} {dC : Nat → ClassId} {dI : Nat → Nat → Nat} {aC : Nat → ClassId} {H0 : Heap} {G : jx_Gv} : Jvm.Cond.code (jz_m (jZ l dC dI aC H0 G) 60).1 (jz_m (jZ l dC dI aC H0 G) 60).2.1 (jz_m (jZ l dC dI aC H0 G) 60).2.2.1 (jz_m (jZ l dC dI aC H0 G) 60).2.2.2 ∈ jz_T (jZ l dC dI aC H0 G) := List.mem_filter.mpr ⟨List.mem_of_getElem? (i := 354) rfl, rfl⟩
theorem hp_60 {l : Launch} {dC : Nat → ClassId} {dI : Nat → Nat → Nat} {aC : Nat → ClassId} {H0 : Heap} {G : jx_Gv} : plainName (jz_m (jZ l dC dI aC H0 G) 60).1.cls = true := by show plainName "PartText$Reader" = true; decide +kernel
theorem hs_60 {l : Launch} {dC : Nat → ClassId} {dI : Nat → Nat → Nat} {aC : Nat → ClassId} {H0 : Heap} {G : jx_Gv} : (jz_m (jZ l dC dI aC H0 G) 60).1.cls ≠ "java/lang/invoke/MethodHandle" ∧ (jz_m (jZ l dC dI aC H0 G) 60).1.cls ≠ "java/lang/invoke/VarHandle" ∧ (parseMethodDescriptor (jz_m (jZ l dC dI aC H0 G) 60).1.desc).map (fun d => d.parameters.length) = some 1 := by show "PartText$Reader" ≠ _ ∧ "PartText$Reader" ≠ _ ∧ (parseMethodDescriptor "(LPartText$Edition;)Z").map _ = _; decide +kernel
theorem hm_61 {l : Launch} {dC : Nat → ClassId} {dI : Nat → Nat → Nat} {aC : Nat → ClassId} {H0 : Heap} {G : jx_Gv} : (jz_m (jZ l dC dI aC H0 G) 61).2.1 = c_61 := rfl
theorem ho_61 {l : Launch} {dC : Nat → ClassId} {dI : Nat → Nat → Nat} {aC : Nat → ClassId} {H0 : Heap} {G : jx_Gv} : (jz_m (jZ l dC dI aC H0 G) 61).1.cls = "PartText$Octets" := rfl
set_option maxRecDepth 100000 in
theorem hw_61 {l : Launch} {dC : Nat → ClassId} {dI : Nat → Nat → Nat} {aC : Nat → ClassId} {H0 : Heap} {G : jx_Gv} : Jvm.Cond.code (jz_m (jZ l dC dI aC H0 G) 61).1 (jz_m (jZ l dC dI aC H0 G) 61).2.1 (jz_m (jZ l dC dI aC H0 G) 61).2.2.1 (jz_m (jZ l dC dI aC H0 G) 61).2.2.2 ∈ jz_T (jZ l dC dI aC H0 G) := List.mem_filter.mpr ⟨List.mem_of_getElem? (i := 557) rfl, rfl⟩
theorem hp_61 {l : Launch} {dC : Nat → ClassId} {dI : Nat → Nat → Nat} {aC : Nat → ClassId} {H0 : Heap} {G : jx_Gv} : plainName (jz_m (jZ l dC dI aC H0 G) 61).1.cls = true := by show plainName "PartText$Octets" = true; decide +kernel
theorem hs_61 {l : Launch} {dC : Nat → ClassId} {dI : Nat → Nat → Nat} {aC : Nat → ClassId} {H0 : Heap} {G : jx_Gv} : (jz_m (jZ l dC dI aC H0 G) 61).1.cls ≠ "java/lang/invoke/MethodHandle" ∧ (jz_m (jZ l dC dI aC H0 G) 61).1.cls ≠ "java/lang/invoke/VarHandle" ∧ (parseMethodDescriptor (jz_m (jZ l dC dI aC H0 G) 61).1.desc).map (fun d => d.parameters.length) = some 0 := by show "PartText$Octets" ≠ _ ∧ "PartText$Octets" ≠ _ ∧ (parseMethodDescriptor "()V").map _ = _; decide +kernel
theorem hm_62 {l : Launch} {dC : Nat → ClassId} {dI : Nat → Nat → Nat} {aC : Nat → ClassId} {H0 : Heap} {G : jx_Gv} : (jz_m (jZ l dC dI aC H0 G) 62).2.1 = c_62 := rfl
theorem ho_62 {l : Launch} {dC : Nat → ClassId} {dI : Nat → Nat → Nat} {aC : Nat → ClassId} {H0 : Heap} {G : jx_Gv} : (jz_m (jZ l dC dI aC H0 G) 62).1.cls = "PartText$Scanner" := rfl
set_option maxRecDepth 100000 in
theorem hw_62 {l : Launch} {dC : Nat → ClassId} {dI : Nat → Nat → Nat} {aC : Nat → ClassId} {H0 : Heap} {G : jx_Gv} : Jvm.Cond.code (jz_m (jZ l dC dI aC H0 G) 62).1 (jz_m (jZ l dC dI aC H0 G) 62).2.1 (jz_m (jZ l dC dI aC H0 G) 62).2.2.1 (jz_m (jZ l dC dI aC H0 G) 62).2.2.2 ∈ jz_T (jZ l dC dI aC H0 G) := List.mem_filter.mpr ⟨List.mem_of_getElem? (i := 565) rfl, rfl⟩
theorem hp_62 {l : Launch} {dC : Nat → ClassId} {dI : Nat → Nat → Nat} {aC : Nat → ClassId} {H0 : Heap} {G : jx_Gv} : plainName (jz_m (jZ l dC dI aC H0 G) 62).1.cls = true := by show plainName "PartText$Scanner" = true; decide +kernel
theorem hs_62 {l : Launch} {dC : Nat → ClassId} {dI : Nat → Nat → Nat} {aC : Nat → ClassId} {H0 : Heap} {G : jx_Gv} : (jz_m (jZ l dC dI aC H0 G) 62).1.cls ≠ "java/lang/invoke/MethodHandle" ∧ (jz_m (jZ l dC dI aC H0 G) 62).1.cls ≠ "java/lang/invoke/VarHandle" ∧ (parseMethodDescriptor (jz_m (jZ l dC dI aC H0 G) 62).1.desc).map (fun d => d.parameters.length) = some 0 := by show "PartText$Scanner" ≠ _ ∧ "PartText$Scanner" ≠ _ ∧ (parseMethodDescriptor "()I").map _ = _; decide +kernel
theorem hm_63 {l : Launch} {dC : Nat → ClassId} {dI : Nat → Nat → Nat} {aC : Nat → ClassId} {H0 : Heap} {G : jx_Gv} : (jz_m (jZ l dC dI aC H0 G) 63).2.1 = c_63 := rfl
theorem ho_63 {l : Launch} {dC : Nat → ClassId} {dI : Nat → Nat → Nat} {aC : Nat → ClassId} {H0 : Heap} {G : jx_Gv} : (jz_m (jZ l dC dI aC H0 G) 63).1.cls = "PartText$Reader" := rfl
set_option maxRecDepth 100000 in
theorem hw_63 {l : Launch} {dC : Nat → ClassId} {dI : Nat → Nat → Nat} {aC : Nat → ClassId} {H0 : Heap} {G : jx_Gv} : Jvm.Cond.code (jz_m (jZ l dC dI aC H0 G) 63).1 (jz_m (jZ l dC dI aC H0 G) 63).2.1 (jz_m (jZ l dC dI aC H0 G) 63).2.2.1 (jz_m (jZ l dC dI aC H0 G) 63).2.2.2 ∈ jz_T (jZ l dC dI aC H0 G) := List.mem_filter.mpr ⟨List.mem_of_getElem? (i := 561) rfl, rfl⟩
theorem hp_63 {l : Launch} {dC : Nat → ClassId} {dI : Nat → Nat → Nat} {aC : Nat → ClassId} {H0 : Heap} {G : jx_Gv} : plainName (jz_m (jZ l dC dI aC H0 G) 63).1.cls = true := by show plainName "PartText$Reader" = true; decide +kernel
theorem hs_63 {l : Launch} {dC : Nat → ClassId} {dI : Nat → Nat → Nat} {aC : Nat → ClassId} {H0 : Heap} {G : jx_Gv} : (jz_m (jZ l dC dI aC H0 G) 63).1.cls ≠ "java/lang/invoke/MethodHandle" ∧ (jz_m (jZ l dC dI aC H0 G) 63).1.cls ≠ "java/lang/invoke/VarHandle" ∧ (parseMethodDescriptor (jz_m (jZ l dC dI aC H0 G) 63).1.desc).map (fun d => d.parameters.length) = some 0 := by show "PartText$Reader" ≠ _ ∧ "PartText$Reader" ≠ _ ∧ (parseMethodDescriptor "()I").map _ = _; decide +kernel
theorem hm_64 {l : Launch} {dC : Nat → ClassId} {dI : Nat → Nat → Nat} {aC : Nat → ClassId} {H0 : Heap} {G : jx_Gv} : (jz_m (jZ l dC dI aC H0 G) 64).2.1 = c_64 := rfl
theorem ho_64 {l : Launch} {dC : Nat → ClassId} {dI : Nat → Nat → Nat} {aC : Nat → ClassId} {H0 : Heap} {G : jx_Gv} : (jz_m (jZ l dC dI aC H0 G) 64).1.cls = "PartText$Edition" := rfl
set_option maxRecDepth 100000 in
theorem hw_64 {l : Launch} {dC : Nat → ClassId} {dI : Nat → Nat → Nat} {aC : Nat → ClassId} {H0 : Heap} {G : jx_Gv} : Jvm.Cond.code (jz_m (jZ l dC dI aC H0 G) 64).1 (jz_m (jZ l dC dI aC H0 G) 64).2.1 (jz_m (jZ l dC dI aC H0 G) 64).2.2.1 (jz_m (jZ l dC dI aC H0 G) 64).2.2.2 ∈ jz_T (jZ l dC dI aC H0 G) := List.mem_filter.mpr ⟨List.mem_of_getElem? (i := 573) rfl, rfl⟩
theorem hp_64 {l : Launch} {dC : Nat → ClassId} {dI : Nat → Nat → Nat} {aC : Nat → ClassId} {H0 : Heap} {G : jx_Gv} : plainName (jz_m (jZ l dC dI aC H0 G) 64).1.cls = true := by show plainName "PartText$Edition" = true; decide +kernel
theorem hs_64 {l : Launch} {dC : Nat → ClassId} {dI : Nat → Nat → Nat} {aC : Nat → ClassId} {H0 : Heap} {G : jx_Gv} : (jz_m (jZ l dC dI aC H0 G) 64).1.cls ≠ "java/lang/invoke/MethodHandle" ∧ (jz_m (jZ l dC dI aC H0 G) 64).1.cls ≠ "java/lang/invoke/VarHandle" ∧ (parseMethodDescriptor (jz_m (jZ l dC dI aC H0 G) 64).1.desc).map (fun d => d.parameters.length) = some 2 := by show "PartText$Edition" ≠ _ ∧ "PartText$Edition" ≠ _ ∧ (parseMethodDescriptor "(II)I").map _ = _; decide +kernel
theorem hm_65 {l : Launch} {dC : Nat → ClassId} {dI : Nat → Nat → Nat} {aC : Nat → ClassId} {H0 : Heap} {G : jx_Gv} : (jz_m (jZ l dC dI aC H0 G) 65).2.1 = c_65 := rfl
theorem ho_65 {l : Launch} {dC : Nat → ClassId} {dI : Nat → Nat → Nat} {aC : Nat → ClassId} {H0 : Heap} {G : jx_Gv} : (jz_m (jZ l dC dI aC H0 G) 65).1.cls = "PartText$Edition" := rfl
set_option maxRecDepth 100000 in
theorem hw_65 {l : Launch} {dC : Nat → ClassId} {dI : Nat → Nat → Nat} {aC : Nat → ClassId} {H0 : Heap} {G : jx_Gv} : Jvm.Cond.code (jz_m (jZ l dC dI aC H0 G) 65).1 (jz_m (jZ l dC dI aC H0 G) 65).2.1 (jz_m (jZ l dC dI aC H0 G) 65).2.2.1 (jz_m (jZ l dC dI aC H0 G) 65).2.2.2 ∈ jz_T (jZ l dC dI aC H0 G) := List.mem_filter.mpr ⟨List.mem_of_getElem? (i := 581) rfl, rfl⟩
theorem hp_65 {l : Launch} {dC : Nat → ClassId} {dI : Nat → Nat → Nat} {aC : Nat → ClassId} {H0 : Heap} {G : jx_Gv} : plainName (jz_m (jZ l dC dI aC H0 G) 65).1.cls = true := by show plainName "PartText$Edition" = true; decide +kernel
theorem hs_65 {l : Launch} {dC : Nat → ClassId} {dI : Nat → Nat → Nat} {aC : Nat → ClassId} {H0 : Heap} {G : jx_Gv} : (jz_m (jZ l dC dI aC H0 G) 65).1.cls ≠ "java/lang/invoke/MethodHandle" ∧ (jz_m (jZ l dC dI aC H0 G) 65).1.cls ≠ "java/lang/invoke/VarHandle" ∧ (parseMethodDescriptor (jz_m (jZ l dC dI aC H0 G) 65).1.desc).map (fun d => d.parameters.length) = some 3 := by show "PartText$Edition" ≠ _ ∧ "PartText$Edition" ≠ _ ∧ (parseMethodDescriptor "(III)Z").map _ = _; decide +kernel
theorem hm_66 {l : Launch} {dC : Nat → ClassId} {dI : Nat → Nat → Nat} {aC : Nat → ClassId} {H0 : Heap} {G : jx_Gv} : (jz_m (jZ l dC dI aC H0 G) 66).2.1 = c_66 := rfl
theorem ho_66 {l : Launch} {dC : Nat → ClassId} {dI : Nat → Nat → Nat} {aC : Nat → ClassId} {H0 : Heap} {G : jx_Gv} : (jz_m (jZ l dC dI aC H0 G) 66).1.cls = "PartText$Edition" := rfl
set_option maxRecDepth 100000 in
theorem hw_66 {l : Launch} {dC : Nat → ClassId} {dI : Nat → Nat → Nat} {aC : Nat → ClassId} {H0 : Heap} {G : jx_Gv} : Jvm.Cond.code (jz_m (jZ l dC dI aC H0 G) 66).1 (jz_m (jZ l dC dI aC H0 G) 66).2.1 (jz_m (jZ l dC dI aC H0 G) 66).2.2.1 (jz_m (jZ l dC dI aC H0 G) 66).2.2.2 ∈ jz_T (jZ l dC dI aC H0 G) := List.mem_filter.mpr ⟨List.mem_of_getElem? (i := 577) rfl, rfl⟩
theorem hp_66 {l : Launch} {dC : Nat → ClassId} {dI : Nat → Nat → Nat} {aC : Nat → ClassId} {H0 : Heap} {G : jx_Gv} : plainName (jz_m (jZ l dC dI aC H0 G) 66).1.cls = true := by show plainName "PartText$Edition" = true; decide +kernel
theorem hs_66 {l : Launch} {dC : Nat → ClassId} {dI : Nat → Nat → Nat} {aC : Nat → ClassId} {H0 : Heap} {G : jx_Gv} : (jz_m (jZ l dC dI aC H0 G) 66).1.cls ≠ "java/lang/invoke/MethodHandle" ∧ (jz_m (jZ l dC dI aC H0 G) 66).1.cls ≠ "java/lang/invoke/VarHandle" ∧ (parseMethodDescriptor (jz_m (jZ l dC dI aC H0 G) 66).1.desc).map (fun d => d.parameters.length) = some 3 := by show "PartText$Edition" ≠ _ ∧ "PartText$Edition" ≠ _ ∧ (parseMethodDescriptor "(III)I").map _ = _; decide +kernel
theorem hm_67 {l : Launch} {dC : Nat → ClassId} {dI : Nat → Nat → Nat} {aC : Nat → ClassId} {H0 : Heap} {G : jx_Gv} : (jz_m (jZ l dC dI aC H0 G) 67).2.1 = c_67 := rfl
theorem ho_67 {l : Launch} {dC : Nat → ClassId} {dI : Nat → Nat → Nat} {aC : Nat → ClassId} {H0 : Heap} {G : jx_Gv} : (jz_m (jZ l dC dI aC H0 G) 67).1.cls = "PartText$Edition" := rfl
set_option maxRecDepth 100000 in
theorem hw_67 {l : Launch} {dC : Nat → ClassId} {dI : Nat → Nat → Nat} {aC : Nat → ClassId} {H0 : Heap} {G : jx_Gv} : Jvm.Cond.code (jz_m (jZ l dC dI aC H0 G) 67).1 (jz_m (jZ l dC dI aC H0 G) 67).2.1 (jz_m (jZ l dC dI aC H0 G) 67).2.2.1 (jz_m (jZ l dC dI aC H0 G) 67).2.2.2 ∈ jz_T (jZ l dC dI aC H0 G) := List.mem_filter.mpr ⟨List.mem_of_getElem? (i := 569) rfl, rfl⟩
theorem hp_67 {l : Launch} {dC : Nat → ClassId} {dI : Nat → Nat → Nat} {aC : Nat → ClassId} {H0 : Heap} {G : jx_Gv} : plainName (jz_m (jZ l dC dI aC H0 G) 67).1.cls = true := by show plainName "PartText$Edition" = true; decide +kernel
theorem hs_67 {l : Launch} {dC : Nat → ClassId} {dI : Nat → Nat → Nat} {aC : Nat → ClassId} {H0 : Heap} {G : jx_Gv} : (jz_m (jZ l dC dI aC H0 G) 67).1.cls ≠ "java/lang/invoke/MethodHandle" ∧ (jz_m (jZ l dC dI aC H0 G) 67).1.cls ≠ "java/lang/invoke/VarHandle" ∧ (parseMethodDescriptor (jz_m (jZ l dC dI aC H0 G) 67).1.desc).map (fun d => d.parameters.length) = some 0 := by show "PartText$Edition" ≠ _ ∧ "PartText$Edition" ≠ _ ∧ (parseMethodDescriptor "()V").map _ = _; decide +kernel
theorem hm_68 {l : Launch} {dC : Nat → ClassId} {dI : Nat → Nat → Nat} {aC : Nat → ClassId} {H0 : Heap} {G : jx_Gv} : (jz_m (jZ l dC dI aC H0 G) 68).2.1 = c_68 := rfl
theorem ho_68 {l : Launch} {dC : Nat → ClassId} {dI : Nat → Nat → Nat} {aC : Nat → ClassId} {H0 : Heap} {G : jx_Gv} : (jz_m (jZ l dC dI aC H0 G) 68).1.cls = "PartText$Edition" := rfl
set_option maxRecDepth 100000 in
theorem hw_68 {l : Launch} {dC : Nat → ClassId} {dI : Nat → Nat → Nat} {aC : Nat → ClassId} {H0 : Heap} {G : jx_Gv} : Jvm.Cond.code (jz_m (jZ l dC dI aC H0 G) 68).1 (jz_m (jZ l dC dI aC H0 G) 68).2.1 (jz_m (jZ l dC dI aC H0 G) 68).2.2.1 (jz_m (jZ l dC dI aC H0 G) 68).2.2.2 ∈ jz_T (jZ l dC dI aC H0 G) := List.mem_filter.mpr ⟨List.mem_of_getElem? (i := 590) rfl, rfl⟩
theorem hp_68 {l : Launch} {dC : Nat → ClassId} {dI : Nat → Nat → Nat} {aC : Nat → ClassId} {H0 : Heap} {G : jx_Gv} : plainName (jz_m (jZ l dC dI aC H0 G) 68).1.cls = true := by show plainName "PartText$Edition" = true; decide +kernel
theorem hs_68 {l : Launch} {dC : Nat → ClassId} {dI : Nat → Nat → Nat} {aC : Nat → ClassId} {H0 : Heap} {G : jx_Gv} : (jz_m (jZ l dC dI aC H0 G) 68).1.cls ≠ "java/lang/invoke/MethodHandle" ∧ (jz_m (jZ l dC dI aC H0 G) 68).1.cls ≠ "java/lang/invoke/VarHandle" ∧ (parseMethodDescriptor (jz_m (jZ l dC dI aC H0 G) 68).1.desc).map (fun d => d.parameters.length) = some 3 := by show "PartText$Edition" ≠ _ ∧ "PartText$Edition" ≠ _ ∧ (parseMethodDescriptor "(III)I").map _ = _; decide +kernel
theorem hm_69 {l : Launch} {dC : Nat → ClassId} {dI : Nat → Nat → Nat} {aC : Nat → ClassId} {H0 : Heap} {G : jx_Gv} : (jz_m (jZ l dC dI aC H0 G) 69).2.1 = c_69 := rfl
theorem ho_69 {l : Launch} {dC : Nat → ClassId} {dI : Nat → Nat → Nat} {aC : Nat → ClassId} {H0 : Heap} {G : jx_Gv} : (jz_m (jZ l dC dI aC H0 G) 69).1.cls = "PartText$Edition" := rfl
set_option maxRecDepth 100000 in
theorem hw_69 {l : Launch} {dC : Nat → ClassId} {dI : Nat → Nat → Nat} {aC : Nat → ClassId} {H0 : Heap} {G : jx_Gv} : Jvm.Cond.code (jz_m (jZ l dC dI aC H0 G) 69).1 (jz_m (jZ l dC dI aC H0 G) 69).2.1 (jz_m (jZ l dC dI aC H0 G) 69).2.2.1 (jz_m (jZ l dC dI aC H0 G) 69).2.2.2 ∈ jz_T (jZ l dC dI aC H0 G) := List.mem_filter.mpr ⟨List.mem_of_getElem? (i := 586) rfl, rfl⟩
theorem hp_69 {l : Launch} {dC : Nat → ClassId} {dI : Nat → Nat → Nat} {aC : Nat → ClassId} {H0 : Heap} {G : jx_Gv} : plainName (jz_m (jZ l dC dI aC H0 G) 69).1.cls = true := by show plainName "PartText$Edition" = true; decide +kernel
theorem hs_69 {l : Launch} {dC : Nat → ClassId} {dI : Nat → Nat → Nat} {aC : Nat → ClassId} {H0 : Heap} {G : jx_Gv} : (jz_m (jZ l dC dI aC H0 G) 69).1.cls ≠ "java/lang/invoke/MethodHandle" ∧ (jz_m (jZ l dC dI aC H0 G) 69).1.cls ≠ "java/lang/invoke/VarHandle" ∧ (parseMethodDescriptor (jz_m (jZ l dC dI aC H0 G) 69).1.desc).map (fun d => d.parameters.length) = some 2 := by show "PartText$Edition" ≠ _ ∧ "PartText$Edition" ≠ _ ∧ (parseMethodDescriptor "(II)I").map _ = _; decide +kernel
theorem hm_70 {l : Launch} {dC : Nat → ClassId} {dI : Nat → Nat → Nat} {aC : Nat → ClassId} {H0 : Heap} {G : jx_Gv} : (jz_m (jZ l dC dI aC H0 G) 70).2.1 = c_70 := rfl
theorem ho_70 {l : Launch} {dC : Nat → ClassId} {dI : Nat → Nat → Nat} {aC : Nat → ClassId} {H0 : Heap} {G : jx_Gv} : (jz_m (jZ l dC dI aC H0 G) 70).1.cls = "PartText" := rfl
set_option maxRecDepth 100000 in
theorem hw_70 {l : Launch} {dC : Nat → ClassId} {dI : Nat → Nat → Nat} {aC : Nat → ClassId} {H0 : Heap} {G : jx_Gv} : Jvm.Cond.code (jz_m (jZ l dC dI aC H0 G) 70).1 (jz_m (jZ l dC dI aC H0 G) 70).2.1 (jz_m (jZ l dC dI aC H0 G) 70).2.2.1 (jz_m (jZ l dC dI aC H0 G) 70).2.2.2 ∈ jz_T (jZ l dC dI aC H0 G) := List.mem_filter.mpr ⟨List.mem_of_getElem? (i := 303) rfl, rfl⟩
theorem hp_70 {l : Launch} {dC : Nat → ClassId} {dI : Nat → Nat → Nat} {aC : Nat → ClassId} {H0 : Heap} {G : jx_Gv} : plainName (jz_m (jZ l dC dI aC H0 G) 70).1.cls = true := by show plainName "PartText" = true; decide +kernel
theorem hs_70 {l : Launch} {dC : Nat → ClassId} {dI : Nat → Nat → Nat} {aC : Nat → ClassId} {H0 : Heap} {G : jx_Gv} : (jz_m (jZ l dC dI aC H0 G) 70).1.cls ≠ "java/lang/invoke/MethodHandle" ∧ (jz_m (jZ l dC dI aC H0 G) 70).1.cls ≠ "java/lang/invoke/VarHandle" ∧ (parseMethodDescriptor (jz_m (jZ l dC dI aC H0 G) 70).1.desc).map (fun d => d.parameters.length) = some 0 := by show "PartText" ≠ _ ∧ "PartText" ≠ _ ∧ (parseMethodDescriptor "()I").map _ = _; decide +kernel
theorem hm_71 {l : Launch} {dC : Nat → ClassId} {dI : Nat → Nat → Nat} {aC : Nat → ClassId} {H0 : Heap} {G : jx_Gv} : (jz_m (jZ l dC dI aC H0 G) 71).2.1 = c_71 := rfl
theorem ho_71 {l : Launch} {dC : Nat → ClassId} {dI : Nat → Nat → Nat} {aC : Nat → ClassId} {H0 : Heap} {G : jx_Gv} : (jz_m (jZ l dC dI aC H0 G) 71).1.cls = "PartTextModel" := rfl
set_option maxRecDepth 100000 in
theorem hw_71 {l : Launch} {dC : Nat → ClassId} {dI : Nat → Nat → Nat} {aC : Nat → ClassId} {H0 : Heap} {G : jx_Gv} : Jvm.Cond.code (jz_m (jZ l dC dI aC H0 G) 71).1 (jz_m (jZ l dC dI aC H0 G) 71).2.1 (jz_m (jZ l dC dI aC H0 G) 71).2.2.1 (jz_m (jZ l dC dI aC H0 G) 71).2.2.2 ∈ jz_T (jZ l dC dI aC H0 G) := List.mem_filter.mpr ⟨List.mem_of_getElem? (i := 1028) rfl, rfl⟩
theorem hp_71 {l : Launch} {dC : Nat → ClassId} {dI : Nat → Nat → Nat} {aC : Nat → ClassId} {H0 : Heap} {G : jx_Gv} : plainName (jz_m (jZ l dC dI aC H0 G) 71).1.cls = true := by show plainName "PartTextModel" = true; decide +kernel
theorem hs_71 {l : Launch} {dC : Nat → ClassId} {dI : Nat → Nat → Nat} {aC : Nat → ClassId} {H0 : Heap} {G : jx_Gv} : (jz_m (jZ l dC dI aC H0 G) 71).1.cls ≠ "java/lang/invoke/MethodHandle" ∧ (jz_m (jZ l dC dI aC H0 G) 71).1.cls ≠ "java/lang/invoke/VarHandle" ∧ (parseMethodDescriptor (jz_m (jZ l dC dI aC H0 G) 71).1.desc).map (fun d => d.parameters.length) = some 0 := by show "PartTextModel" ≠ _ ∧ "PartTextModel" ≠ _ ∧ (parseMethodDescriptor "()I").map _ = _; decide +kernel
theorem hm_72 {l : Launch} {dC : Nat → ClassId} {dI : Nat → Nat → Nat} {aC : Nat → ClassId} {H0 : Heap} {G : jx_Gv} : (jz_m (jZ l dC dI aC H0 G) 72).2.1 = c_72 := rfl
theorem ho_72 {l : Launch} {dC : Nat → ClassId} {dI : Nat → Nat → Nat} {aC : Nat → ClassId} {H0 : Heap} {G : jx_Gv} : (jz_m (jZ l dC dI aC H0 G) 72).1.cls = "PartTextModel" := rfl
set_option maxRecDepth 100000 in
theorem hw_72 {l : Launch} {dC : Nat → ClassId} {dI : Nat → Nat → Nat} {aC : Nat → ClassId} {H0 : Heap} {G : jx_Gv} : Jvm.Cond.code (jz_m (jZ l dC dI aC H0 G) 72).1 (jz_m (jZ l dC dI aC H0 G) 72).2.1 (jz_m (jZ l dC dI aC H0 G) 72).2.2.1 (jz_m (jZ l dC dI aC H0 G) 72).2.2.2 ∈ jz_T (jZ l dC dI aC H0 G) := List.mem_filter.mpr ⟨List.mem_of_getElem? (i := 1031) rfl, rfl⟩
theorem hp_72 {l : Launch} {dC : Nat → ClassId} {dI : Nat → Nat → Nat} {aC : Nat → ClassId} {H0 : Heap} {G : jx_Gv} : plainName (jz_m (jZ l dC dI aC H0 G) 72).1.cls = true := by show plainName "PartTextModel" = true; decide +kernel
theorem hs_72 {l : Launch} {dC : Nat → ClassId} {dI : Nat → Nat → Nat} {aC : Nat → ClassId} {H0 : Heap} {G : jx_Gv} : (jz_m (jZ l dC dI aC H0 G) 72).1.cls ≠ "java/lang/invoke/MethodHandle" ∧ (jz_m (jZ l dC dI aC H0 G) 72).1.cls ≠ "java/lang/invoke/VarHandle" ∧ (parseMethodDescriptor (jz_m (jZ l dC dI aC H0 G) 72).1.desc).map (fun d => d.parameters.length) = some 1 := by show "PartTextModel" ≠ _ ∧ "PartTextModel" ≠ _ ∧ (parseMethodDescriptor "(I)Z").map _ = _; decide +kernel
theorem hm_73 {l : Launch} {dC : Nat → ClassId} {dI : Nat → Nat → Nat} {aC : Nat → ClassId} {H0 : Heap} {G : jx_Gv} : (jz_m (jZ l dC dI aC H0 G) 73).2.1 = c_73 := rfl
theorem ho_73 {l : Launch} {dC : Nat → ClassId} {dI : Nat → Nat → Nat} {aC : Nat → ClassId} {H0 : Heap} {G : jx_Gv} : (jz_m (jZ l dC dI aC H0 G) 73).1.cls = "PartTextModel" := rfl
set_option maxRecDepth 100000 in
theorem hw_73 {l : Launch} {dC : Nat → ClassId} {dI : Nat → Nat → Nat} {aC : Nat → ClassId} {H0 : Heap} {G : jx_Gv} : Jvm.Cond.code (jz_m (jZ l dC dI aC H0 G) 73).1 (jz_m (jZ l dC dI aC H0 G) 73).2.1 (jz_m (jZ l dC dI aC H0 G) 73).2.2.1 (jz_m (jZ l dC dI aC H0 G) 73).2.2.2 ∈ jz_T (jZ l dC dI aC H0 G) := List.mem_filter.mpr ⟨List.mem_of_getElem? (i := 1034) rfl, rfl⟩
theorem hp_73 {l : Launch} {dC : Nat → ClassId} {dI : Nat → Nat → Nat} {aC : Nat → ClassId} {H0 : Heap} {G : jx_Gv} : plainName (jz_m (jZ l dC dI aC H0 G) 73).1.cls = true := by show plainName "PartTextModel" = true; decide +kernel
theorem hs_73 {l : Launch} {dC : Nat → ClassId} {dI : Nat → Nat → Nat} {aC : Nat → ClassId} {H0 : Heap} {G : jx_Gv} : (jz_m (jZ l dC dI aC H0 G) 73).1.cls ≠ "java/lang/invoke/MethodHandle" ∧ (jz_m (jZ l dC dI aC H0 G) 73).1.cls ≠ "java/lang/invoke/VarHandle" ∧ (parseMethodDescriptor (jz_m (jZ l dC dI aC H0 G) 73).1.desc).map (fun d => d.parameters.length) = some 1 := by show "PartTextModel" ≠ _ ∧ "PartTextModel" ≠ _ ∧ (parseMethodDescriptor "(I)Z").map _ = _; decide +kernel
theorem hm_74 {l : Launch} {dC : Nat → ClassId} {dI : Nat → Nat → Nat} {aC : Nat → ClassId} {H0 : Heap} {G : jx_Gv} : (jz_m (jZ l dC dI aC H0 G) 74).2.1 = c_74 := rfl
theorem ho_74 {l : Launch} {dC : Nat → ClassId} {dI : Nat → Nat → Nat} {aC : Nat → ClassId} {H0 : Heap} {G : jx_Gv} : (jz_m (jZ l dC dI aC H0 G) 74).1.cls = "PartTextModel" := rfl
set_option maxRecDepth 100000 in
theorem hw_74 {l : Launch} {dC : Nat → ClassId} {dI : Nat → Nat → Nat} {aC : Nat → ClassId} {H0 : Heap} {G : jx_Gv} : Jvm.Cond.code (jz_m (jZ l dC dI aC H0 G) 74).1 (jz_m (jZ l dC dI aC H0 G) 74).2.1 (jz_m (jZ l dC dI aC H0 G) 74).2.2.1 (jz_m (jZ l dC dI aC H0 G) 74).2.2.2 ∈ jz_T (jZ l dC dI aC H0 G) := List.mem_filter.mpr ⟨List.mem_of_getElem? (i := 1042) rfl, rfl⟩
theorem hp_74 {l : Launch} {dC : Nat → ClassId} {dI : Nat → Nat → Nat} {aC : Nat → ClassId} {H0 : Heap} {G : jx_Gv} : plainName (jz_m (jZ l dC dI aC H0 G) 74).1.cls = true := by show plainName "PartTextModel" = true; decide +kernel
theorem hs_74 {l : Launch} {dC : Nat → ClassId} {dI : Nat → Nat → Nat} {aC : Nat → ClassId} {H0 : Heap} {G : jx_Gv} : (jz_m (jZ l dC dI aC H0 G) 74).1.cls ≠ "java/lang/invoke/MethodHandle" ∧ (jz_m (jZ l dC dI aC H0 G) 74).1.cls ≠ "java/lang/invoke/VarHandle" ∧ (parseMethodDescriptor (jz_m (jZ l dC dI aC H0 G) 74).1.desc).map (fun d => d.parameters.length) = some 2 := by show "PartTextModel" ≠ _ ∧ "PartTextModel" ≠ _ ∧ (parseMethodDescriptor "(II)J").map _ = _; decide +kernel
theorem hm_75 {l : Launch} {dC : Nat → ClassId} {dI : Nat → Nat → Nat} {aC : Nat → ClassId} {H0 : Heap} {G : jx_Gv} : (jz_m (jZ l dC dI aC H0 G) 75).2.1 = c_75 := rfl
theorem ho_75 {l : Launch} {dC : Nat → ClassId} {dI : Nat → Nat → Nat} {aC : Nat → ClassId} {H0 : Heap} {G : jx_Gv} : (jz_m (jZ l dC dI aC H0 G) 75).1.cls = "PartTextModel" := rfl
set_option maxRecDepth 100000 in
theorem hw_75 {l : Launch} {dC : Nat → ClassId} {dI : Nat → Nat → Nat} {aC : Nat → ClassId} {H0 : Heap} {G : jx_Gv} : Jvm.Cond.code (jz_m (jZ l dC dI aC H0 G) 75).1 (jz_m (jZ l dC dI aC H0 G) 75).2.1 (jz_m (jZ l dC dI aC H0 G) 75).2.2.1 (jz_m (jZ l dC dI aC H0 G) 75).2.2.2 ∈ jz_T (jZ l dC dI aC H0 G) := List.mem_filter.mpr ⟨List.mem_of_getElem? (i := 1038) rfl, rfl⟩
theorem hp_75 {l : Launch} {dC : Nat → ClassId} {dI : Nat → Nat → Nat} {aC : Nat → ClassId} {H0 : Heap} {G : jx_Gv} : plainName (jz_m (jZ l dC dI aC H0 G) 75).1.cls = true := by show plainName "PartTextModel" = true; decide +kernel
theorem hs_75 {l : Launch} {dC : Nat → ClassId} {dI : Nat → Nat → Nat} {aC : Nat → ClassId} {H0 : Heap} {G : jx_Gv} : (jz_m (jZ l dC dI aC H0 G) 75).1.cls ≠ "java/lang/invoke/MethodHandle" ∧ (jz_m (jZ l dC dI aC H0 G) 75).1.cls ≠ "java/lang/invoke/VarHandle" ∧ (parseMethodDescriptor (jz_m (jZ l dC dI aC H0 G) 75).1.desc).map (fun d => d.parameters.length) = some 2 := by show "PartTextModel" ≠ _ ∧ "PartTextModel" ≠ _ ∧ (parseMethodDescriptor "(II)I").map _ = _; decide +kernel
theorem hm_76 {l : Launch} {dC : Nat → ClassId} {dI : Nat → Nat → Nat} {aC : Nat → ClassId} {H0 : Heap} {G : jx_Gv} : (jz_m (jZ l dC dI aC H0 G) 76).2.1 = c_76 := rfl
theorem ho_76 {l : Launch} {dC : Nat → ClassId} {dI : Nat → Nat → Nat} {aC : Nat → ClassId} {H0 : Heap} {G : jx_Gv} : (jz_m (jZ l dC dI aC H0 G) 76).1.cls = "PartTextModel" := rfl
set_option maxRecDepth 100000 in
theorem hw_76 {l : Launch} {dC : Nat → ClassId} {dI : Nat → Nat → Nat} {aC : Nat → ClassId} {H0 : Heap} {G : jx_Gv} : Jvm.Cond.code (jz_m (jZ l dC dI aC H0 G) 76).1 (jz_m (jZ l dC dI aC H0 G) 76).2.1 (jz_m (jZ l dC dI aC H0 G) 76).2.2.1 (jz_m (jZ l dC dI aC H0 G) 76).2.2.2 ∈ jz_T (jZ l dC dI aC H0 G) := List.mem_filter.mpr ⟨List.mem_of_getElem? (i := 1062) rfl, rfl⟩
theorem hp_76 {l : Launch} {dC : Nat → ClassId} {dI : Nat → Nat → Nat} {aC : Nat → ClassId} {H0 : Heap} {G : jx_Gv} : plainName (jz_m (jZ l dC dI aC H0 G) 76).1.cls = true := by show plainName "PartTextModel" = true; decide +kernel
theorem hs_76 {l : Launch} {dC : Nat → ClassId} {dI : Nat → Nat → Nat} {aC : Nat → ClassId} {H0 : Heap} {G : jx_Gv} : (jz_m (jZ l dC dI aC H0 G) 76).1.cls ≠ "java/lang/invoke/MethodHandle" ∧ (jz_m (jZ l dC dI aC H0 G) 76).1.cls ≠ "java/lang/invoke/VarHandle" ∧ (parseMethodDescriptor (jz_m (jZ l dC dI aC H0 G) 76).1.desc).map (fun d => d.parameters.length) = some 2 := by show "PartTextModel" ≠ _ ∧ "PartTextModel" ≠ _ ∧ (parseMethodDescriptor "(II)I").map _ = _; decide +kernel
theorem hm_77 {l : Launch} {dC : Nat → ClassId} {dI : Nat → Nat → Nat} {aC : Nat → ClassId} {H0 : Heap} {G : jx_Gv} : (jz_m (jZ l dC dI aC H0 G) 77).2.1 = c_77 := rfl
theorem ho_77 {l : Launch} {dC : Nat → ClassId} {dI : Nat → Nat → Nat} {aC : Nat → ClassId} {H0 : Heap} {G : jx_Gv} : (jz_m (jZ l dC dI aC H0 G) 77).1.cls = "PartTextModel" := rfl
set_option maxRecDepth 100000 in
theorem hw_77 {l : Launch} {dC : Nat → ClassId} {dI : Nat → Nat → Nat} {aC : Nat → ClassId} {H0 : Heap} {G : jx_Gv} : Jvm.Cond.code (jz_m (jZ l dC dI aC H0 G) 77).1 (jz_m (jZ l dC dI aC H0 G) 77).2.1 (jz_m (jZ l dC dI aC H0 G) 77).2.2.1 (jz_m (jZ l dC dI aC H0 G) 77).2.2.2 ∈ jz_T (jZ l dC dI aC H0 G) := List.mem_filter.mpr ⟨List.mem_of_getElem? (i := 1024) rfl, rfl⟩
theorem hp_77 {l : Launch} {dC : Nat → ClassId} {dI : Nat → Nat → Nat} {aC : Nat → ClassId} {H0 : Heap} {G : jx_Gv} : plainName (jz_m (jZ l dC dI aC H0 G) 77).1.cls = true := by show plainName "PartTextModel" = true; decide +kernel
theorem hs_77 {l : Launch} {dC : Nat → ClassId} {dI : Nat → Nat → Nat} {aC : Nat → ClassId} {H0 : Heap} {G : jx_Gv} : (jz_m (jZ l dC dI aC H0 G) 77).1.cls ≠ "java/lang/invoke/MethodHandle" ∧ (jz_m (jZ l dC dI aC H0 G) 77).1.cls ≠ "java/lang/invoke/VarHandle" ∧ (parseMethodDescriptor (jz_m (jZ l dC dI aC H0 G) 77).1.desc).map (fun d => d.parameters.length) = some 0 := by show "PartTextModel" ≠ _ ∧ "PartTextModel" ≠ _ ∧ (parseMethodDescriptor "()V").map _ = _; decide +kernel
theorem hm_78 {l : Launch} {dC : Nat → ClassId} {dI : Nat → Nat → Nat} {aC : Nat → ClassId} {H0 : Heap} {G : jx_Gv} : (jz_m (jZ l dC dI aC H0 G) 78).2.1 = c_78 := rfl
theorem ho_78 {l : Launch} {dC : Nat → ClassId} {dI : Nat → Nat → Nat} {aC : Nat → ClassId} {H0 : Heap} {G : jx_Gv} : (jz_m (jZ l dC dI aC H0 G) 78).1.cls = "PartTextModel" := rfl
set_option maxRecDepth 100000 in
theorem hw_78 {l : Launch} {dC : Nat → ClassId} {dI : Nat → Nat → Nat} {aC : Nat → ClassId} {H0 : Heap} {G : jx_Gv} : Jvm.Cond.code (jz_m (jZ l dC dI aC H0 G) 78).1 (jz_m (jZ l dC dI aC H0 G) 78).2.1 (jz_m (jZ l dC dI aC H0 G) 78).2.2.1 (jz_m (jZ l dC dI aC H0 G) 78).2.2.2 ∈ jz_T (jZ l dC dI aC H0 G) := List.mem_filter.mpr ⟨List.mem_of_getElem? (i := 1078) rfl, rfl⟩
theorem hp_78 {l : Launch} {dC : Nat → ClassId} {dI : Nat → Nat → Nat} {aC : Nat → ClassId} {H0 : Heap} {G : jx_Gv} : plainName (jz_m (jZ l dC dI aC H0 G) 78).1.cls = true := by show plainName "PartTextModel" = true; decide +kernel
theorem hs_78 {l : Launch} {dC : Nat → ClassId} {dI : Nat → Nat → Nat} {aC : Nat → ClassId} {H0 : Heap} {G : jx_Gv} : (jz_m (jZ l dC dI aC H0 G) 78).1.cls ≠ "java/lang/invoke/MethodHandle" ∧ (jz_m (jZ l dC dI aC H0 G) 78).1.cls ≠ "java/lang/invoke/VarHandle" ∧ (parseMethodDescriptor (jz_m (jZ l dC dI aC H0 G) 78).1.desc).map (fun d => d.parameters.length) = some 0 := by show "PartTextModel" ≠ _ ∧ "PartTextModel" ≠ _ ∧ (parseMethodDescriptor "()I").map _ = _; decide +kernel
theorem hm_79 {l : Launch} {dC : Nat → ClassId} {dI : Nat → Nat → Nat} {aC : Nat → ClassId} {H0 : Heap} {G : jx_Gv} : (jz_m (jZ l dC dI aC H0 G) 79).2.1 = c_79 := rfl
theorem ho_79 {l : Launch} {dC : Nat → ClassId} {dI : Nat → Nat → Nat} {aC : Nat → ClassId} {H0 : Heap} {G : jx_Gv} : (jz_m (jZ l dC dI aC H0 G) 79).1.cls = "PartTextModel" := rfl
set_option maxRecDepth 100000 in
theorem hw_79 {l : Launch} {dC : Nat → ClassId} {dI : Nat → Nat → Nat} {aC : Nat → ClassId} {H0 : Heap} {G : jx_Gv} : Jvm.Cond.code (jz_m (jZ l dC dI aC H0 G) 79).1 (jz_m (jZ l dC dI aC H0 G) 79).2.1 (jz_m (jZ l dC dI aC H0 G) 79).2.2.1 (jz_m (jZ l dC dI aC H0 G) 79).2.2.2 ∈ jz_T (jZ l dC dI aC H0 G) := List.mem_filter.mpr ⟨List.mem_of_getElem? (i := 1086) rfl, rfl⟩
theorem hp_79 {l : Launch} {dC : Nat → ClassId} {dI : Nat → Nat → Nat} {aC : Nat → ClassId} {H0 : Heap} {G : jx_Gv} : plainName (jz_m (jZ l dC dI aC H0 G) 79).1.cls = true := by show plainName "PartTextModel" = true; decide +kernel
theorem hs_79 {l : Launch} {dC : Nat → ClassId} {dI : Nat → Nat → Nat} {aC : Nat → ClassId} {H0 : Heap} {G : jx_Gv} : (jz_m (jZ l dC dI aC H0 G) 79).1.cls ≠ "java/lang/invoke/MethodHandle" ∧ (jz_m (jZ l dC dI aC H0 G) 79).1.cls ≠ "java/lang/invoke/VarHandle" ∧ (parseMethodDescriptor (jz_m (jZ l dC dI aC H0 G) 79).1.desc).map (fun d => d.parameters.length) = some 1 := by show "PartTextModel" ≠ _ ∧ "PartTextModel" ≠ _ ∧ (parseMethodDescriptor "(I)V").map _ = _; decide +kernel
theorem hm_80 {l : Launch} {dC : Nat → ClassId} {dI : Nat → Nat → Nat} {aC : Nat → ClassId} {H0 : Heap} {G : jx_Gv} : (jz_m (jZ l dC dI aC H0 G) 80).2.1 = c_80 := rfl
theorem ho_80 {l : Launch} {dC : Nat → ClassId} {dI : Nat → Nat → Nat} {aC : Nat → ClassId} {H0 : Heap} {G : jx_Gv} : (jz_m (jZ l dC dI aC H0 G) 80).1.cls = "PartTextModel" := rfl
set_option maxRecDepth 100000 in
theorem hw_80 {l : Launch} {dC : Nat → ClassId} {dI : Nat → Nat → Nat} {aC : Nat → ClassId} {H0 : Heap} {G : jx_Gv} : Jvm.Cond.code (jz_m (jZ l dC dI aC H0 G) 80).1 (jz_m (jZ l dC dI aC H0 G) 80).2.1 (jz_m (jZ l dC dI aC H0 G) 80).2.2.1 (jz_m (jZ l dC dI aC H0 G) 80).2.2.2 ∈ jz_T (jZ l dC dI aC H0 G) := List.mem_filter.mpr ⟨List.mem_of_getElem? (i := 1090) rfl, rfl⟩
theorem hp_80 {l : Launch} {dC : Nat → ClassId} {dI : Nat → Nat → Nat} {aC : Nat → ClassId} {H0 : Heap} {G : jx_Gv} : plainName (jz_m (jZ l dC dI aC H0 G) 80).1.cls = true := by show plainName "PartTextModel" = true; decide +kernel
theorem hs_80 {l : Launch} {dC : Nat → ClassId} {dI : Nat → Nat → Nat} {aC : Nat → ClassId} {H0 : Heap} {G : jx_Gv} : (jz_m (jZ l dC dI aC H0 G) 80).1.cls ≠ "java/lang/invoke/MethodHandle" ∧ (jz_m (jZ l dC dI aC H0 G) 80).1.cls ≠ "java/lang/invoke/VarHandle" ∧ (parseMethodDescriptor (jz_m (jZ l dC dI aC H0 G) 80).1.desc).map (fun d => d.parameters.length) = some 1 := by show "PartTextModel" ≠ _ ∧ "PartTextModel" ≠ _ ∧ (parseMethodDescriptor "(I)V").map _ = _; decide +kernel
theorem hm_81 {l : Launch} {dC : Nat → ClassId} {dI : Nat → Nat → Nat} {aC : Nat → ClassId} {H0 : Heap} {G : jx_Gv} : (jz_m (jZ l dC dI aC H0 G) 81).2.1 = c_81 := rfl
theorem ho_81 {l : Launch} {dC : Nat → ClassId} {dI : Nat → Nat → Nat} {aC : Nat → ClassId} {H0 : Heap} {G : jx_Gv} : (jz_m (jZ l dC dI aC H0 G) 81).1.cls = "PartTextModel" := rfl
set_option maxRecDepth 100000 in
theorem hw_81 {l : Launch} {dC : Nat → ClassId} {dI : Nat → Nat → Nat} {aC : Nat → ClassId} {H0 : Heap} {G : jx_Gv} : Jvm.Cond.code (jz_m (jZ l dC dI aC H0 G) 81).1 (jz_m (jZ l dC dI aC H0 G) 81).2.1 (jz_m (jZ l dC dI aC H0 G) 81).2.2.1 (jz_m (jZ l dC dI aC H0 G) 81).2.2.2 ∈ jz_T (jZ l dC dI aC H0 G) := List.mem_filter.mpr ⟨List.mem_of_getElem? (i := 1082) rfl, rfl⟩
theorem hp_81 {l : Launch} {dC : Nat → ClassId} {dI : Nat → Nat → Nat} {aC : Nat → ClassId} {H0 : Heap} {G : jx_Gv} : plainName (jz_m (jZ l dC dI aC H0 G) 81).1.cls = true := by show plainName "PartTextModel" = true; decide +kernel
theorem hs_81 {l : Launch} {dC : Nat → ClassId} {dI : Nat → Nat → Nat} {aC : Nat → ClassId} {H0 : Heap} {G : jx_Gv} : (jz_m (jZ l dC dI aC H0 G) 81).1.cls ≠ "java/lang/invoke/MethodHandle" ∧ (jz_m (jZ l dC dI aC H0 G) 81).1.cls ≠ "java/lang/invoke/VarHandle" ∧ (parseMethodDescriptor (jz_m (jZ l dC dI aC H0 G) 81).1.desc).map (fun d => d.parameters.length) = some 1 := by show "PartTextModel" ≠ _ ∧ "PartTextModel" ≠ _ ∧ (parseMethodDescriptor "(I)V").map _ = _; decide +kernel
theorem hm_82 {l : Launch} {dC : Nat → ClassId} {dI : Nat → Nat → Nat} {aC : Nat → ClassId} {H0 : Heap} {G : jx_Gv} : (jz_m (jZ l dC dI aC H0 G) 82).2.1 = c_82 := rfl
theorem ho_82 {l : Launch} {dC : Nat → ClassId} {dI : Nat → Nat → Nat} {aC : Nat → ClassId} {H0 : Heap} {G : jx_Gv} : (jz_m (jZ l dC dI aC H0 G) 82).1.cls = "PartTextModel" := rfl
set_option maxRecDepth 100000 in
theorem hw_82 {l : Launch} {dC : Nat → ClassId} {dI : Nat → Nat → Nat} {aC : Nat → ClassId} {H0 : Heap} {G : jx_Gv} : Jvm.Cond.code (jz_m (jZ l dC dI aC H0 G) 82).1 (jz_m (jZ l dC dI aC H0 G) 82).2.1 (jz_m (jZ l dC dI aC H0 G) 82).2.2.1 (jz_m (jZ l dC dI aC H0 G) 82).2.2.2 ∈ jz_T (jZ l dC dI aC H0 G) := List.mem_filter.mpr ⟨List.mem_of_getElem? (i := 1074) rfl, rfl⟩
theorem hp_82 {l : Launch} {dC : Nat → ClassId} {dI : Nat → Nat → Nat} {aC : Nat → ClassId} {H0 : Heap} {G : jx_Gv} : plainName (jz_m (jZ l dC dI aC H0 G) 82).1.cls = true := by show plainName "PartTextModel" = true; decide +kernel
theorem hs_82 {l : Launch} {dC : Nat → ClassId} {dI : Nat → Nat → Nat} {aC : Nat → ClassId} {H0 : Heap} {G : jx_Gv} : (jz_m (jZ l dC dI aC H0 G) 82).1.cls ≠ "java/lang/invoke/MethodHandle" ∧ (jz_m (jZ l dC dI aC H0 G) 82).1.cls ≠ "java/lang/invoke/VarHandle" ∧ (parseMethodDescriptor (jz_m (jZ l dC dI aC H0 G) 82).1.desc).map (fun d => d.parameters.length) = some 0 := by show "PartTextModel" ≠ _ ∧ "PartTextModel" ≠ _ ∧ (parseMethodDescriptor "()Z").map _ = _; decide +kernel
theorem hm_83 {l : Launch} {dC : Nat → ClassId} {dI : Nat → Nat → Nat} {aC : Nat → ClassId} {H0 : Heap} {G : jx_Gv} : (jz_m (jZ l dC dI aC H0 G) 83).2.1 = c_83 := rfl
theorem ho_83 {l : Launch} {dC : Nat → ClassId} {dI : Nat → Nat → Nat} {aC : Nat → ClassId} {H0 : Heap} {G : jx_Gv} : (jz_m (jZ l dC dI aC H0 G) 83).1.cls = "PartTextModel" := rfl
set_option maxRecDepth 100000 in
theorem hw_83 {l : Launch} {dC : Nat → ClassId} {dI : Nat → Nat → Nat} {aC : Nat → ClassId} {H0 : Heap} {G : jx_Gv} : Jvm.Cond.code (jz_m (jZ l dC dI aC H0 G) 83).1 (jz_m (jZ l dC dI aC H0 G) 83).2.1 (jz_m (jZ l dC dI aC H0 G) 83).2.2.1 (jz_m (jZ l dC dI aC H0 G) 83).2.2.2 ∈ jz_T (jZ l dC dI aC H0 G) := List.mem_filter.mpr ⟨List.mem_of_getElem? (i := 1070) rfl, rfl⟩
theorem hp_83 {l : Launch} {dC : Nat → ClassId} {dI : Nat → Nat → Nat} {aC : Nat → ClassId} {H0 : Heap} {G : jx_Gv} : plainName (jz_m (jZ l dC dI aC H0 G) 83).1.cls = true := by show plainName "PartTextModel" = true; decide +kernel
theorem hs_83 {l : Launch} {dC : Nat → ClassId} {dI : Nat → Nat → Nat} {aC : Nat → ClassId} {H0 : Heap} {G : jx_Gv} : (jz_m (jZ l dC dI aC H0 G) 83).1.cls ≠ "java/lang/invoke/MethodHandle" ∧ (jz_m (jZ l dC dI aC H0 G) 83).1.cls ≠ "java/lang/invoke/VarHandle" ∧ (parseMethodDescriptor (jz_m (jZ l dC dI aC H0 G) 83).1.desc).map (fun d => d.parameters.length) = some 1 := by show "PartTextModel" ≠ _ ∧ "PartTextModel" ≠ _ ∧ (parseMethodDescriptor "(I)V").map _ = _; decide +kernel
theorem hm_84 {l : Launch} {dC : Nat → ClassId} {dI : Nat → Nat → Nat} {aC : Nat → ClassId} {H0 : Heap} {G : jx_Gv} : (jz_m (jZ l dC dI aC H0 G) 84).2.1 = c_84 := rfl
theorem ho_84 {l : Launch} {dC : Nat → ClassId} {dI : Nat → Nat → Nat} {aC : Nat → ClassId} {H0 : Heap} {G : jx_Gv} : (jz_m (jZ l dC dI aC H0 G) 84).1.cls = "PartTextModel" := rfl
set_option maxRecDepth 100000 in
theorem hw_84 {l : Launch} {dC : Nat → ClassId} {dI : Nat → Nat → Nat} {aC : Nat → ClassId} {H0 : Heap} {G : jx_Gv} : Jvm.Cond.code (jz_m (jZ l dC dI aC H0 G) 84).1 (jz_m (jZ l dC dI aC H0 G) 84).2.1 (jz_m (jZ l dC dI aC H0 G) 84).2.2.1 (jz_m (jZ l dC dI aC H0 G) 84).2.2.2 ∈ jz_T (jZ l dC dI aC H0 G) := List.mem_filter.mpr ⟨List.mem_of_getElem? (i := 1098) rfl, rfl⟩
theorem hp_84 {l : Launch} {dC : Nat → ClassId} {dI : Nat → Nat → Nat} {aC : Nat → ClassId} {H0 : Heap} {G : jx_Gv} : plainName (jz_m (jZ l dC dI aC H0 G) 84).1.cls = true := by show plainName "PartTextModel" = true; decide +kernel
theorem hs_84 {l : Launch} {dC : Nat → ClassId} {dI : Nat → Nat → Nat} {aC : Nat → ClassId} {H0 : Heap} {G : jx_Gv} : (jz_m (jZ l dC dI aC H0 G) 84).1.cls ≠ "java/lang/invoke/MethodHandle" ∧ (jz_m (jZ l dC dI aC H0 G) 84).1.cls ≠ "java/lang/invoke/VarHandle" ∧ (parseMethodDescriptor (jz_m (jZ l dC dI aC H0 G) 84).1.desc).map (fun d => d.parameters.length) = some 1 := by show "PartTextModel" ≠ _ ∧ "PartTextModel" ≠ _ ∧ (parseMethodDescriptor "(Z)Z").map _ = _; decide +kernel
theorem hm_85 {l : Launch} {dC : Nat → ClassId} {dI : Nat → Nat → Nat} {aC : Nat → ClassId} {H0 : Heap} {G : jx_Gv} : (jz_m (jZ l dC dI aC H0 G) 85).2.1 = c_85 := rfl
theorem ho_85 {l : Launch} {dC : Nat → ClassId} {dI : Nat → Nat → Nat} {aC : Nat → ClassId} {H0 : Heap} {G : jx_Gv} : (jz_m (jZ l dC dI aC H0 G) 85).1.cls = "PartTextModel" := rfl
set_option maxRecDepth 100000 in
theorem hw_85 {l : Launch} {dC : Nat → ClassId} {dI : Nat → Nat → Nat} {aC : Nat → ClassId} {H0 : Heap} {G : jx_Gv} : Jvm.Cond.code (jz_m (jZ l dC dI aC H0 G) 85).1 (jz_m (jZ l dC dI aC H0 G) 85).2.1 (jz_m (jZ l dC dI aC H0 G) 85).2.2.1 (jz_m (jZ l dC dI aC H0 G) 85).2.2.2 ∈ jz_T (jZ l dC dI aC H0 G) := List.mem_filter.mpr ⟨List.mem_of_getElem? (i := 1094) rfl, rfl⟩
theorem hp_85 {l : Launch} {dC : Nat → ClassId} {dI : Nat → Nat → Nat} {aC : Nat → ClassId} {H0 : Heap} {G : jx_Gv} : plainName (jz_m (jZ l dC dI aC H0 G) 85).1.cls = true := by show plainName "PartTextModel" = true; decide +kernel
theorem hs_85 {l : Launch} {dC : Nat → ClassId} {dI : Nat → Nat → Nat} {aC : Nat → ClassId} {H0 : Heap} {G : jx_Gv} : (jz_m (jZ l dC dI aC H0 G) 85).1.cls ≠ "java/lang/invoke/MethodHandle" ∧ (jz_m (jZ l dC dI aC H0 G) 85).1.cls ≠ "java/lang/invoke/VarHandle" ∧ (parseMethodDescriptor (jz_m (jZ l dC dI aC H0 G) 85).1.desc).map (fun d => d.parameters.length) = some 0 := by show "PartTextModel" ≠ _ ∧ "PartTextModel" ≠ _ ∧ (parseMethodDescriptor "()I").map _ = _; decide +kernel
theorem hm_86 {l : Launch} {dC : Nat → ClassId} {dI : Nat → Nat → Nat} {aC : Nat → ClassId} {H0 : Heap} {G : jx_Gv} : (jz_m (jZ l dC dI aC H0 G) 86).2.1 = c_86 := rfl
theorem ho_86 {l : Launch} {dC : Nat → ClassId} {dI : Nat → Nat → Nat} {aC : Nat → ClassId} {H0 : Heap} {G : jx_Gv} : (jz_m (jZ l dC dI aC H0 G) 86).1.cls = "PartTextModel" := rfl
set_option maxRecDepth 100000 in
theorem hw_86 {l : Launch} {dC : Nat → ClassId} {dI : Nat → Nat → Nat} {aC : Nat → ClassId} {H0 : Heap} {G : jx_Gv} : Jvm.Cond.code (jz_m (jZ l dC dI aC H0 G) 86).1 (jz_m (jZ l dC dI aC H0 G) 86).2.1 (jz_m (jZ l dC dI aC H0 G) 86).2.2.1 (jz_m (jZ l dC dI aC H0 G) 86).2.2.2 ∈ jz_T (jZ l dC dI aC H0 G) := List.mem_filter.mpr ⟨List.mem_of_getElem? (i := 1102) rfl, rfl⟩
theorem hp_86 {l : Launch} {dC : Nat → ClassId} {dI : Nat → Nat → Nat} {aC : Nat → ClassId} {H0 : Heap} {G : jx_Gv} : plainName (jz_m (jZ l dC dI aC H0 G) 86).1.cls = true := by show plainName "PartTextModel" = true; decide +kernel
theorem hs_86 {l : Launch} {dC : Nat → ClassId} {dI : Nat → Nat → Nat} {aC : Nat → ClassId} {H0 : Heap} {G : jx_Gv} : (jz_m (jZ l dC dI aC H0 G) 86).1.cls ≠ "java/lang/invoke/MethodHandle" ∧ (jz_m (jZ l dC dI aC H0 G) 86).1.cls ≠ "java/lang/invoke/VarHandle" ∧ (parseMethodDescriptor (jz_m (jZ l dC dI aC H0 G) 86).1.desc).map (fun d => d.parameters.length) = some 1 := by show "PartTextModel" ≠ _ ∧ "PartTextModel" ≠ _ ∧ (parseMethodDescriptor "(I)Z").map _ = _; decide +kernel
theorem hm_87 {l : Launch} {dC : Nat → ClassId} {dI : Nat → Nat → Nat} {aC : Nat → ClassId} {H0 : Heap} {G : jx_Gv} : (jz_m (jZ l dC dI aC H0 G) 87).2.1 = c_87 := rfl
theorem ho_87 {l : Launch} {dC : Nat → ClassId} {dI : Nat → Nat → Nat} {aC : Nat → ClassId} {H0 : Heap} {G : jx_Gv} : (jz_m (jZ l dC dI aC H0 G) 87).1.cls = "PartTextModel" := rfl
set_option maxRecDepth 100000 in
theorem hw_87 {l : Launch} {dC : Nat → ClassId} {dI : Nat → Nat → Nat} {aC : Nat → ClassId} {H0 : Heap} {G : jx_Gv} : Jvm.Cond.code (jz_m (jZ l dC dI aC H0 G) 87).1 (jz_m (jZ l dC dI aC H0 G) 87).2.1 (jz_m (jZ l dC dI aC H0 G) 87).2.2.1 (jz_m (jZ l dC dI aC H0 G) 87).2.2.2 ∈ jz_T (jZ l dC dI aC H0 G) := List.mem_filter.mpr ⟨List.mem_of_getElem? (i := 1106) rfl, rfl⟩
theorem hp_87 {l : Launch} {dC : Nat → ClassId} {dI : Nat → Nat → Nat} {aC : Nat → ClassId} {H0 : Heap} {G : jx_Gv} : plainName (jz_m (jZ l dC dI aC H0 G) 87).1.cls = true := by show plainName "PartTextModel" = true; decide +kernel
theorem hs_87 {l : Launch} {dC : Nat → ClassId} {dI : Nat → Nat → Nat} {aC : Nat → ClassId} {H0 : Heap} {G : jx_Gv} : (jz_m (jZ l dC dI aC H0 G) 87).1.cls ≠ "java/lang/invoke/MethodHandle" ∧ (jz_m (jZ l dC dI aC H0 G) 87).1.cls ≠ "java/lang/invoke/VarHandle" ∧ (parseMethodDescriptor (jz_m (jZ l dC dI aC H0 G) 87).1.desc).map (fun d => d.parameters.length) = some 2 := by show "PartTextModel" ≠ _ ∧ "PartTextModel" ≠ _ ∧ (parseMethodDescriptor "(II)I").map _ = _; decide +kernel
theorem hm_88 {l : Launch} {dC : Nat → ClassId} {dI : Nat → Nat → Nat} {aC : Nat → ClassId} {H0 : Heap} {G : jx_Gv} : (jz_m (jZ l dC dI aC H0 G) 88).2.1 = c_88 := rfl
theorem ho_88 {l : Launch} {dC : Nat → ClassId} {dI : Nat → Nat → Nat} {aC : Nat → ClassId} {H0 : Heap} {G : jx_Gv} : (jz_m (jZ l dC dI aC H0 G) 88).1.cls = "PartTextModel" := rfl
set_option maxRecDepth 100000 in
theorem hw_88 {l : Launch} {dC : Nat → ClassId} {dI : Nat → Nat → Nat} {aC : Nat → ClassId} {H0 : Heap} {G : jx_Gv} : Jvm.Cond.code (jz_m (jZ l dC dI aC H0 G) 88).1 (jz_m (jZ l dC dI aC H0 G) 88).2.1 (jz_m (jZ l dC dI aC H0 G) 88).2.2.1 (jz_m (jZ l dC dI aC H0 G) 88).2.2.2 ∈ jz_T (jZ l dC dI aC H0 G) := List.mem_filter.mpr ⟨List.mem_of_getElem? (i := 1110) rfl, rfl⟩
theorem hp_88 {l : Launch} {dC : Nat → ClassId} {dI : Nat → Nat → Nat} {aC : Nat → ClassId} {H0 : Heap} {G : jx_Gv} : plainName (jz_m (jZ l dC dI aC H0 G) 88).1.cls = true := by show plainName "PartTextModel" = true; decide +kernel
theorem hs_88 {l : Launch} {dC : Nat → ClassId} {dI : Nat → Nat → Nat} {aC : Nat → ClassId} {H0 : Heap} {G : jx_Gv} : (jz_m (jZ l dC dI aC H0 G) 88).1.cls ≠ "java/lang/invoke/MethodHandle" ∧ (jz_m (jZ l dC dI aC H0 G) 88).1.cls ≠ "java/lang/invoke/VarHandle" ∧ (parseMethodDescriptor (jz_m (jZ l dC dI aC H0 G) 88).1.desc).map (fun d => d.parameters.length) = some 5 := by show "PartTextModel" ≠ _ ∧ "PartTextModel" ≠ _ ∧ (parseMethodDescriptor "(IIIII)V").map _ = _; decide +kernel
theorem hm_89 {l : Launch} {dC : Nat → ClassId} {dI : Nat → Nat → Nat} {aC : Nat → ClassId} {H0 : Heap} {G : jx_Gv} : (jz_m (jZ l dC dI aC H0 G) 89).2.1 = c_89 := rfl
theorem ho_89 {l : Launch} {dC : Nat → ClassId} {dI : Nat → Nat → Nat} {aC : Nat → ClassId} {H0 : Heap} {G : jx_Gv} : (jz_m (jZ l dC dI aC H0 G) 89).1.cls = "PartTextModel" := rfl
set_option maxRecDepth 100000 in
theorem hw_89 {l : Launch} {dC : Nat → ClassId} {dI : Nat → Nat → Nat} {aC : Nat → ClassId} {H0 : Heap} {G : jx_Gv} : Jvm.Cond.code (jz_m (jZ l dC dI aC H0 G) 89).1 (jz_m (jZ l dC dI aC H0 G) 89).2.1 (jz_m (jZ l dC dI aC H0 G) 89).2.2.1 (jz_m (jZ l dC dI aC H0 G) 89).2.2.2 ∈ jz_T (jZ l dC dI aC H0 G) := List.mem_filter.mpr ⟨List.mem_of_getElem? (i := 1114) rfl, rfl⟩
theorem hp_89 {l : Launch} {dC : Nat → ClassId} {dI : Nat → Nat → Nat} {aC : Nat → ClassId} {H0 : Heap} {G : jx_Gv} : plainName (jz_m (jZ l dC dI aC H0 G) 89).1.cls = true := by show plainName "PartTextModel" = true; decide +kernel
theorem hs_89 {l : Launch} {dC : Nat → ClassId} {dI : Nat → Nat → Nat} {aC : Nat → ClassId} {H0 : Heap} {G : jx_Gv} : (jz_m (jZ l dC dI aC H0 G) 89).1.cls ≠ "java/lang/invoke/MethodHandle" ∧ (jz_m (jZ l dC dI aC H0 G) 89).1.cls ≠ "java/lang/invoke/VarHandle" ∧ (parseMethodDescriptor (jz_m (jZ l dC dI aC H0 G) 89).1.desc).map (fun d => d.parameters.length) = some 0 := by show "PartTextModel" ≠ _ ∧ "PartTextModel" ≠ _ ∧ (parseMethodDescriptor "()I").map _ = _; decide +kernel
theorem hm_90 {l : Launch} {dC : Nat → ClassId} {dI : Nat → Nat → Nat} {aC : Nat → ClassId} {H0 : Heap} {G : jx_Gv} : (jz_m (jZ l dC dI aC H0 G) 90).2.1 = c_90 := rfl
theorem ho_90 {l : Launch} {dC : Nat → ClassId} {dI : Nat → Nat → Nat} {aC : Nat → ClassId} {H0 : Heap} {G : jx_Gv} : (jz_m (jZ l dC dI aC H0 G) 90).1.cls = "PartTextModel" := rfl
set_option maxRecDepth 100000 in
theorem hw_90 {l : Launch} {dC : Nat → ClassId} {dI : Nat → Nat → Nat} {aC : Nat → ClassId} {H0 : Heap} {G : jx_Gv} : Jvm.Cond.code (jz_m (jZ l dC dI aC H0 G) 90).1 (jz_m (jZ l dC dI aC H0 G) 90).2.1 (jz_m (jZ l dC dI aC H0 G) 90).2.2.1 (jz_m (jZ l dC dI aC H0 G) 90).2.2.2 ∈ jz_T (jZ l dC dI aC H0 G) := List.mem_filter.mpr ⟨List.mem_of_getElem? (i := 1119) rfl, rfl⟩
theorem hp_90 {l : Launch} {dC : Nat → ClassId} {dI : Nat → Nat → Nat} {aC : Nat → ClassId} {H0 : Heap} {G : jx_Gv} : plainName (jz_m (jZ l dC dI aC H0 G) 90).1.cls = true := by show plainName "PartTextModel" = true; decide +kernel
theorem hs_90 {l : Launch} {dC : Nat → ClassId} {dI : Nat → Nat → Nat} {aC : Nat → ClassId} {H0 : Heap} {G : jx_Gv} : (jz_m (jZ l dC dI aC H0 G) 90).1.cls ≠ "java/lang/invoke/MethodHandle" ∧ (jz_m (jZ l dC dI aC H0 G) 90).1.cls ≠ "java/lang/invoke/VarHandle" ∧ (parseMethodDescriptor (jz_m (jZ l dC dI aC H0 G) 90).1.desc).map (fun d => d.parameters.length) = some 1 := by show "PartTextModel" ≠ _ ∧ "PartTextModel" ≠ _ ∧ (parseMethodDescriptor "(I)Z").map _ = _; decide +kernel
theorem hm_91 {l : Launch} {dC : Nat → ClassId} {dI : Nat → Nat → Nat} {aC : Nat → ClassId} {H0 : Heap} {G : jx_Gv} : (jz_m (jZ l dC dI aC H0 G) 91).2.1 = c_91 := rfl
theorem ho_91 {l : Launch} {dC : Nat → ClassId} {dI : Nat → Nat → Nat} {aC : Nat → ClassId} {H0 : Heap} {G : jx_Gv} : (jz_m (jZ l dC dI aC H0 G) 91).1.cls = "PartTextModel" := rfl
set_option maxRecDepth 100000 in
theorem hw_91 {l : Launch} {dC : Nat → ClassId} {dI : Nat → Nat → Nat} {aC : Nat → ClassId} {H0 : Heap} {G : jx_Gv} : Jvm.Cond.code (jz_m (jZ l dC dI aC H0 G) 91).1 (jz_m (jZ l dC dI aC H0 G) 91).2.1 (jz_m (jZ l dC dI aC H0 G) 91).2.2.1 (jz_m (jZ l dC dI aC H0 G) 91).2.2.2 ∈ jz_T (jZ l dC dI aC H0 G) := List.mem_filter.mpr ⟨List.mem_of_getElem? (i := 1131) rfl, rfl⟩
theorem hp_91 {l : Launch} {dC : Nat → ClassId} {dI : Nat → Nat → Nat} {aC : Nat → ClassId} {H0 : Heap} {G : jx_Gv} : plainName (jz_m (jZ l dC dI aC H0 G) 91).1.cls = true := by show plainName "PartTextModel" = true; decide +kernel
theorem hs_91 {l : Launch} {dC : Nat → ClassId} {dI : Nat → Nat → Nat} {aC : Nat → ClassId} {H0 : Heap} {G : jx_Gv} : (jz_m (jZ l dC dI aC H0 G) 91).1.cls ≠ "java/lang/invoke/MethodHandle" ∧ (jz_m (jZ l dC dI aC H0 G) 91).1.cls ≠ "java/lang/invoke/VarHandle" ∧ (parseMethodDescriptor (jz_m (jZ l dC dI aC H0 G) 91).1.desc).map (fun d => d.parameters.length) = some 0 := by show "PartTextModel" ≠ _ ∧ "PartTextModel" ≠ _ ∧ (parseMethodDescriptor "()V").map _ = _; decide +kernel
theorem hm_92 {l : Launch} {dC : Nat → ClassId} {dI : Nat → Nat → Nat} {aC : Nat → ClassId} {H0 : Heap} {G : jx_Gv} : (jz_m (jZ l dC dI aC H0 G) 92).2.1 = c_92 := rfl
theorem ho_92 {l : Launch} {dC : Nat → ClassId} {dI : Nat → Nat → Nat} {aC : Nat → ClassId} {H0 : Heap} {G : jx_Gv} : (jz_m (jZ l dC dI aC H0 G) 92).1.cls = "PartTextModel" := rfl
set_option maxRecDepth 100000 in
theorem hw_92 {l : Launch} {dC : Nat → ClassId} {dI : Nat → Nat → Nat} {aC : Nat → ClassId} {H0 : Heap} {G : jx_Gv} : Jvm.Cond.code (jz_m (jZ l dC dI aC H0 G) 92).1 (jz_m (jZ l dC dI aC H0 G) 92).2.1 (jz_m (jZ l dC dI aC H0 G) 92).2.2.1 (jz_m (jZ l dC dI aC H0 G) 92).2.2.2 ∈ jz_T (jZ l dC dI aC H0 G) := List.mem_filter.mpr ⟨List.mem_of_getElem? (i := 1139) rfl, rfl⟩
theorem hp_92 {l : Launch} {dC : Nat → ClassId} {dI : Nat → Nat → Nat} {aC : Nat → ClassId} {H0 : Heap} {G : jx_Gv} : plainName (jz_m (jZ l dC dI aC H0 G) 92).1.cls = true := by show plainName "PartTextModel" = true; decide +kernel
theorem hs_92 {l : Launch} {dC : Nat → ClassId} {dI : Nat → Nat → Nat} {aC : Nat → ClassId} {H0 : Heap} {G : jx_Gv} : (jz_m (jZ l dC dI aC H0 G) 92).1.cls ≠ "java/lang/invoke/MethodHandle" ∧ (jz_m (jZ l dC dI aC H0 G) 92).1.cls ≠ "java/lang/invoke/VarHandle" ∧ (parseMethodDescriptor (jz_m (jZ l dC dI aC H0 G) 92).1.desc).map (fun d => d.parameters.length) = some 1 := by show "PartTextModel" ≠ _ ∧ "PartTextModel" ≠ _ ∧ (parseMethodDescriptor "(I)V").map _ = _; decide +kernel
theorem hm_93 {l : Launch} {dC : Nat → ClassId} {dI : Nat → Nat → Nat} {aC : Nat → ClassId} {H0 : Heap} {G : jx_Gv} : (jz_m (jZ l dC dI aC H0 G) 93).2.1 = c_93 := rfl
theorem ho_93 {l : Launch} {dC : Nat → ClassId} {dI : Nat → Nat → Nat} {aC : Nat → ClassId} {H0 : Heap} {G : jx_Gv} : (jz_m (jZ l dC dI aC H0 G) 93).1.cls = "PartTextModel" := rfl
set_option maxRecDepth 100000 in
theorem hw_93 {l : Launch} {dC : Nat → ClassId} {dI : Nat → Nat → Nat} {aC : Nat → ClassId} {H0 : Heap} {G : jx_Gv} : Jvm.Cond.code (jz_m (jZ l dC dI aC H0 G) 93).1 (jz_m (jZ l dC dI aC H0 G) 93).2.1 (jz_m (jZ l dC dI aC H0 G) 93).2.2.1 (jz_m (jZ l dC dI aC H0 G) 93).2.2.2 ∈ jz_T (jZ l dC dI aC H0 G) := List.mem_filter.mpr ⟨List.mem_of_getElem? (i := 1135) rfl, rfl⟩
theorem hp_93 {l : Launch} {dC : Nat → ClassId} {dI : Nat → Nat → Nat} {aC : Nat → ClassId} {H0 : Heap} {G : jx_Gv} : plainName (jz_m (jZ l dC dI aC H0 G) 93).1.cls = true := by show plainName "PartTextModel" = true; decide +kernel
theorem hs_93 {l : Launch} {dC : Nat → ClassId} {dI : Nat → Nat → Nat} {aC : Nat → ClassId} {H0 : Heap} {G : jx_Gv} : (jz_m (jZ l dC dI aC H0 G) 93).1.cls ≠ "java/lang/invoke/MethodHandle" ∧ (jz_m (jZ l dC dI aC H0 G) 93).1.cls ≠ "java/lang/invoke/VarHandle" ∧ (parseMethodDescriptor (jz_m (jZ l dC dI aC H0 G) 93).1.desc).map (fun d => d.parameters.length) = some 0 := by show "PartTextModel" ≠ _ ∧ "PartTextModel" ≠ _ ∧ (parseMethodDescriptor "()V").map _ = _; decide +kernel
theorem hm_94 {l : Launch} {dC : Nat → ClassId} {dI : Nat → Nat → Nat} {aC : Nat → ClassId} {H0 : Heap} {G : jx_Gv} : (jz_m (jZ l dC dI aC H0 G) 94).2.1 = c_94 := rfl
theorem ho_94 {l : Launch} {dC : Nat → ClassId} {dI : Nat → Nat → Nat} {aC : Nat → ClassId} {H0 : Heap} {G : jx_Gv} : (jz_m (jZ l dC dI aC H0 G) 94).1.cls = "PartTextModel" := rfl
set_option maxRecDepth 100000 in
theorem hw_94 {l : Launch} {dC : Nat → ClassId} {dI : Nat → Nat → Nat} {aC : Nat → ClassId} {H0 : Heap} {G : jx_Gv} : Jvm.Cond.code (jz_m (jZ l dC dI aC H0 G) 94).1 (jz_m (jZ l dC dI aC H0 G) 94).2.1 (jz_m (jZ l dC dI aC H0 G) 94).2.2.1 (jz_m (jZ l dC dI aC H0 G) 94).2.2.2 ∈ jz_T (jZ l dC dI aC H0 G) := List.mem_filter.mpr ⟨List.mem_of_getElem? (i := 1143) rfl, rfl⟩
theorem hp_94 {l : Launch} {dC : Nat → ClassId} {dI : Nat → Nat → Nat} {aC : Nat → ClassId} {H0 : Heap} {G : jx_Gv} : plainName (jz_m (jZ l dC dI aC H0 G) 94).1.cls = true := by show plainName "PartTextModel" = true; decide +kernel
theorem hs_94 {l : Launch} {dC : Nat → ClassId} {dI : Nat → Nat → Nat} {aC : Nat → ClassId} {H0 : Heap} {G : jx_Gv} : (jz_m (jZ l dC dI aC H0 G) 94).1.cls ≠ "java/lang/invoke/MethodHandle" ∧ (jz_m (jZ l dC dI aC H0 G) 94).1.cls ≠ "java/lang/invoke/VarHandle" ∧ (parseMethodDescriptor (jz_m (jZ l dC dI aC H0 G) 94).1.desc).map (fun d => d.parameters.length) = some 0 := by show "PartTextModel" ≠ _ ∧ "PartTextModel" ≠ _ ∧ (parseMethodDescriptor "()V").map _ = _; decide +kernel
theorem hm_95 {l : Launch} {dC : Nat → ClassId} {dI : Nat → Nat → Nat} {aC : Nat → ClassId} {H0 : Heap} {G : jx_Gv} : (jz_m (jZ l dC dI aC H0 G) 95).2.1 = c_95 := rfl
theorem ho_95 {l : Launch} {dC : Nat → ClassId} {dI : Nat → Nat → Nat} {aC : Nat → ClassId} {H0 : Heap} {G : jx_Gv} : (jz_m (jZ l dC dI aC H0 G) 95).1.cls = "PartTextModel" := rfl
set_option maxRecDepth 100000 in
theorem hw_95 {l : Launch} {dC : Nat → ClassId} {dI : Nat → Nat → Nat} {aC : Nat → ClassId} {H0 : Heap} {G : jx_Gv} : Jvm.Cond.code (jz_m (jZ l dC dI aC H0 G) 95).1 (jz_m (jZ l dC dI aC H0 G) 95).2.1 (jz_m (jZ l dC dI aC H0 G) 95).2.2.1 (jz_m (jZ l dC dI aC H0 G) 95).2.2.2 ∈ jz_T (jZ l dC dI aC H0 G) := List.mem_filter.mpr ⟨List.mem_of_getElem? (i := 1127) rfl, rfl⟩
theorem hp_95 {l : Launch} {dC : Nat → ClassId} {dI : Nat → Nat → Nat} {aC : Nat → ClassId} {H0 : Heap} {G : jx_Gv} : plainName (jz_m (jZ l dC dI aC H0 G) 95).1.cls = true := by show plainName "PartTextModel" = true; decide +kernel
theorem hs_95 {l : Launch} {dC : Nat → ClassId} {dI : Nat → Nat → Nat} {aC : Nat → ClassId} {H0 : Heap} {G : jx_Gv} : (jz_m (jZ l dC dI aC H0 G) 95).1.cls ≠ "java/lang/invoke/MethodHandle" ∧ (jz_m (jZ l dC dI aC H0 G) 95).1.cls ≠ "java/lang/invoke/VarHandle" ∧ (parseMethodDescriptor (jz_m (jZ l dC dI aC H0 G) 95).1.desc).map (fun d => d.parameters.length) = some 1 := by show "PartTextModel" ≠ _ ∧ "PartTextModel" ≠ _ ∧ (parseMethodDescriptor "(I)V").map _ = _; decide +kernel
theorem hm_96 {l : Launch} {dC : Nat → ClassId} {dI : Nat → Nat → Nat} {aC : Nat → ClassId} {H0 : Heap} {G : jx_Gv} : (jz_m (jZ l dC dI aC H0 G) 96).2.1 = c_96 := rfl
theorem ho_96 {l : Launch} {dC : Nat → ClassId} {dI : Nat → Nat → Nat} {aC : Nat → ClassId} {H0 : Heap} {G : jx_Gv} : (jz_m (jZ l dC dI aC H0 G) 96).1.cls = "PartTextModel" := rfl
set_option maxRecDepth 100000 in
theorem hw_96 {l : Launch} {dC : Nat → ClassId} {dI : Nat → Nat → Nat} {aC : Nat → ClassId} {H0 : Heap} {G : jx_Gv} : Jvm.Cond.code (jz_m (jZ l dC dI aC H0 G) 96).1 (jz_m (jZ l dC dI aC H0 G) 96).2.1 (jz_m (jZ l dC dI aC H0 G) 96).2.2.1 (jz_m (jZ l dC dI aC H0 G) 96).2.2.2 ∈ jz_T (jZ l dC dI aC H0 G) := List.mem_filter.mpr ⟨List.mem_of_getElem? (i := 1123) rfl, rfl⟩
theorem hp_96 {l : Launch} {dC : Nat → ClassId} {dI : Nat → Nat → Nat} {aC : Nat → ClassId} {H0 : Heap} {G : jx_Gv} : plainName (jz_m (jZ l dC dI aC H0 G) 96).1.cls = true := by show plainName "PartTextModel" = true; decide +kernel
theorem hs_96 {l : Launch} {dC : Nat → ClassId} {dI : Nat → Nat → Nat} {aC : Nat → ClassId} {H0 : Heap} {G : jx_Gv} : (jz_m (jZ l dC dI aC H0 G) 96).1.cls ≠ "java/lang/invoke/MethodHandle" ∧ (jz_m (jZ l dC dI aC H0 G) 96).1.cls ≠ "java/lang/invoke/VarHandle" ∧ (parseMethodDescriptor (jz_m (jZ l dC dI aC H0 G) 96).1.desc).map (fun d => d.parameters.length) = some 1 := by show "PartTextModel" ≠ _ ∧ "PartTextModel" ≠ _ ∧ (parseMethodDescriptor "(I)V").map _ = _; decide +kernel
theorem hm_97 {l : Launch} {dC : Nat → ClassId} {dI : Nat → Nat → Nat} {aC : Nat → ClassId} {H0 : Heap} {G : jx_Gv} : (jz_m (jZ l dC dI aC H0 G) 97).2.1 = c_97 := rfl
theorem ho_97 {l : Launch} {dC : Nat → ClassId} {dI : Nat → Nat → Nat} {aC : Nat → ClassId} {H0 : Heap} {G : jx_Gv} : (jz_m (jZ l dC dI aC H0 G) 97).1.cls = "PartTextModel" := rfl
set_option maxRecDepth 100000 in
theorem hw_97 {l : Launch} {dC : Nat → ClassId} {dI : Nat → Nat → Nat} {aC : Nat → ClassId} {H0 : Heap} {G : jx_Gv} : Jvm.Cond.code (jz_m (jZ l dC dI aC H0 G) 97).1 (jz_m (jZ l dC dI aC H0 G) 97).2.1 (jz_m (jZ l dC dI aC H0 G) 97).2.2.1 (jz_m (jZ l dC dI aC H0 G) 97).2.2.2 ∈ jz_T (jZ l dC dI aC H0 G) := List.mem_filter.mpr ⟨List.mem_of_getElem? (i := 1066) rfl, rfl⟩
theorem hp_97 {l : Launch} {dC : Nat → ClassId} {dI : Nat → Nat → Nat} {aC : Nat → ClassId} {H0 : Heap} {G : jx_Gv} : plainName (jz_m (jZ l dC dI aC H0 G) 97).1.cls = true := by show plainName "PartTextModel" = true; decide +kernel
theorem hs_97 {l : Launch} {dC : Nat → ClassId} {dI : Nat → Nat → Nat} {aC : Nat → ClassId} {H0 : Heap} {G : jx_Gv} : (jz_m (jZ l dC dI aC H0 G) 97).1.cls ≠ "java/lang/invoke/MethodHandle" ∧ (jz_m (jZ l dC dI aC H0 G) 97).1.cls ≠ "java/lang/invoke/VarHandle" ∧ (parseMethodDescriptor (jz_m (jZ l dC dI aC H0 G) 97).1.desc).map (fun d => d.parameters.length) = some 0 := by show "PartTextModel" ≠ _ ∧ "PartTextModel" ≠ _ ∧ (parseMethodDescriptor "()V").map _ = _; decide +kernel
theorem hm_98 {l : Launch} {dC : Nat → ClassId} {dI : Nat → Nat → Nat} {aC : Nat → ClassId} {H0 : Heap} {G : jx_Gv} : (jz_m (jZ l dC dI aC H0 G) 98).2.1 = c_98 := rfl
theorem ho_98 {l : Launch} {dC : Nat → ClassId} {dI : Nat → Nat → Nat} {aC : Nat → ClassId} {H0 : Heap} {G : jx_Gv} : (jz_m (jZ l dC dI aC H0 G) 98).1.cls = "PartTextModel" := rfl
set_option maxRecDepth 100000 in
theorem hw_98 {l : Launch} {dC : Nat → ClassId} {dI : Nat → Nat → Nat} {aC : Nat → ClassId} {H0 : Heap} {G : jx_Gv} : Jvm.Cond.code (jz_m (jZ l dC dI aC H0 G) 98).1 (jz_m (jZ l dC dI aC H0 G) 98).2.1 (jz_m (jZ l dC dI aC H0 G) 98).2.2.1 (jz_m (jZ l dC dI aC H0 G) 98).2.2.2 ∈ jz_T (jZ l dC dI aC H0 G) := List.mem_filter.mpr ⟨List.mem_of_getElem? (i := 1147) rfl, rfl⟩
theorem hp_98 {l : Launch} {dC : Nat → ClassId} {dI : Nat → Nat → Nat} {aC : Nat → ClassId} {H0 : Heap} {G : jx_Gv} : plainName (jz_m (jZ l dC dI aC H0 G) 98).1.cls = true := by show plainName "PartTextModel" = true; decide +kernel
theorem hs_98 {l : Launch} {dC : Nat → ClassId} {dI : Nat → Nat → Nat} {aC : Nat → ClassId} {H0 : Heap} {G : jx_Gv} : (jz_m (jZ l dC dI aC H0 G) 98).1.cls ≠ "java/lang/invoke/MethodHandle" ∧ (jz_m (jZ l dC dI aC H0 G) 98).1.cls ≠ "java/lang/invoke/VarHandle" ∧ (parseMethodDescriptor (jz_m (jZ l dC dI aC H0 G) 98).1.desc).map (fun d => d.parameters.length) = some 0 := by show "PartTextModel" ≠ _ ∧ "PartTextModel" ≠ _ ∧ (parseMethodDescriptor "()V").map _ = _; decide +kernel
theorem hm_99 {l : Launch} {dC : Nat → ClassId} {dI : Nat → Nat → Nat} {aC : Nat → ClassId} {H0 : Heap} {G : jx_Gv} : (jz_m (jZ l dC dI aC H0 G) 99).2.1 = c_99 := rfl
theorem ho_99 {l : Launch} {dC : Nat → ClassId} {dI : Nat → Nat → Nat} {aC : Nat → ClassId} {H0 : Heap} {G : jx_Gv} : (jz_m (jZ l dC dI aC H0 G) 99).1.cls = "PartTextModel" := rfl
set_option maxRecDepth 100000 in
theorem hw_99 {l : Launch} {dC : Nat → ClassId} {dI : Nat → Nat → Nat} {aC : Nat → ClassId} {H0 : Heap} {G : jx_Gv} : Jvm.Cond.code (jz_m (jZ l dC dI aC H0 G) 99).1 (jz_m (jZ l dC dI aC H0 G) 99).2.1 (jz_m (jZ l dC dI aC H0 G) 99).2.2.1 (jz_m (jZ l dC dI aC H0 G) 99).2.2.2 ∈ jz_T (jZ l dC dI aC H0 G) := List.mem_filter.mpr ⟨List.mem_of_getElem? (i := 1151) rfl, rfl⟩
theorem hp_99 {l : Launch} {dC : Nat → ClassId} {dI : Nat → Nat → Nat} {aC : Nat → ClassId} {H0 : Heap} {G : jx_Gv} : plainName (jz_m (jZ l dC dI aC H0 G) 99).1.cls = true := by show plainName "PartTextModel" = true; decide +kernel
theorem hs_99 {l : Launch} {dC : Nat → ClassId} {dI : Nat → Nat → Nat} {aC : Nat → ClassId} {H0 : Heap} {G : jx_Gv} : (jz_m (jZ l dC dI aC H0 G) 99).1.cls ≠ "java/lang/invoke/MethodHandle" ∧ (jz_m (jZ l dC dI aC H0 G) 99).1.cls ≠ "java/lang/invoke/VarHandle" ∧ (parseMethodDescriptor (jz_m (jZ l dC dI aC H0 G) 99).1.desc).map (fun d => d.parameters.length) = some 1 := by show "PartTextModel" ≠ _ ∧ "PartTextModel" ≠ _ ∧ (parseMethodDescriptor "(I)V").map _ = _; decide +kernel
theorem hm_100 {l : Launch} {dC : Nat → ClassId} {dI : Nat → Nat → Nat} {aC : Nat → ClassId} {H0 : Heap} {G : jx_Gv} : (jz_m (jZ l dC dI aC H0 G) 100).2.1 = c_100 := rfl
theorem ho_100 {l : Launch} {dC : Nat → ClassId} {dI : Nat → Nat → Nat} {aC : Nat → ClassId} {H0 : Heap} {G : jx_Gv} : (jz_m (jZ l dC dI aC H0 G) 100).1.cls = "PartTextModel" := rfl
set_option maxRecDepth 100000 in
theorem hw_100 {l : Launch} {dC : Nat → ClassId} {dI : Nat → Nat → Nat} {aC : Nat → ClassId} {H0 : Heap} {G : jx_Gv} : Jvm.Cond.code (jz_m (jZ l dC dI aC H0 G) 100).1 (jz_m (jZ l dC dI aC H0 G) 100).2.1 (jz_m (jZ l dC dI aC H0 G) 100).2.2.1 (jz_m (jZ l dC dI aC H0 G) 100).2.2.2 ∈ jz_T (jZ l dC dI aC H0 G) := List.mem_filter.mpr ⟨List.mem_of_getElem? (i := 1167) rfl, rfl⟩
theorem hp_100 {l : Launch} {dC : Nat → ClassId} {dI : Nat → Nat → Nat} {aC : Nat → ClassId} {H0 : Heap} {G : jx_Gv} : plainName (jz_m (jZ l dC dI aC H0 G) 100).1.cls = true := by show plainName "PartTextModel" = true; decide +kernel
theorem hs_100 {l : Launch} {dC : Nat → ClassId} {dI : Nat → Nat → Nat} {aC : Nat → ClassId} {H0 : Heap} {G : jx_Gv} : (jz_m (jZ l dC dI aC H0 G) 100).1.cls ≠ "java/lang/invoke/MethodHandle" ∧ (jz_m (jZ l dC dI aC H0 G) 100).1.cls ≠ "java/lang/invoke/VarHandle" ∧ (parseMethodDescriptor (jz_m (jZ l dC dI aC H0 G) 100).1.desc).map (fun d => d.parameters.length) = some 1 := by show "PartTextModel" ≠ _ ∧ "PartTextModel" ≠ _ ∧ (parseMethodDescriptor "(I)Z").map _ = _; decide +kernel
theorem hm_101 {l : Launch} {dC : Nat → ClassId} {dI : Nat → Nat → Nat} {aC : Nat → ClassId} {H0 : Heap} {G : jx_Gv} : (jz_m (jZ l dC dI aC H0 G) 101).2.1 = c_101 := rfl
theorem ho_101 {l : Launch} {dC : Nat → ClassId} {dI : Nat → Nat → Nat} {aC : Nat → ClassId} {H0 : Heap} {G : jx_Gv} : (jz_m (jZ l dC dI aC H0 G) 101).1.cls = "PartTextModel" := rfl
set_option maxRecDepth 100000 in
theorem hw_101 {l : Launch} {dC : Nat → ClassId} {dI : Nat → Nat → Nat} {aC : Nat → ClassId} {H0 : Heap} {G : jx_Gv} : Jvm.Cond.code (jz_m (jZ l dC dI aC H0 G) 101).1 (jz_m (jZ l dC dI aC H0 G) 101).2.1 (jz_m (jZ l dC dI aC H0 G) 101).2.2.1 (jz_m (jZ l dC dI aC H0 G) 101).2.2.2 ∈ jz_T (jZ l dC dI aC H0 G) := List.mem_filter.mpr ⟨List.mem_of_getElem? (i := 1171) rfl, rfl⟩
theorem hp_101 {l : Launch} {dC : Nat → ClassId} {dI : Nat → Nat → Nat} {aC : Nat → ClassId} {H0 : Heap} {G : jx_Gv} : plainName (jz_m (jZ l dC dI aC H0 G) 101).1.cls = true := by show plainName "PartTextModel" = true; decide +kernel
theorem hs_101 {l : Launch} {dC : Nat → ClassId} {dI : Nat → Nat → Nat} {aC : Nat → ClassId} {H0 : Heap} {G : jx_Gv} : (jz_m (jZ l dC dI aC H0 G) 101).1.cls ≠ "java/lang/invoke/MethodHandle" ∧ (jz_m (jZ l dC dI aC H0 G) 101).1.cls ≠ "java/lang/invoke/VarHandle" ∧ (parseMethodDescriptor (jz_m (jZ l dC dI aC H0 G) 101).1.desc).map (fun d => d.parameters.length) = some 1 := by show "PartTextModel" ≠ _ ∧ "PartTextModel" ≠ _ ∧ (parseMethodDescriptor "(I)Z").map _ = _; decide +kernel
theorem hm_102 {l : Launch} {dC : Nat → ClassId} {dI : Nat → Nat → Nat} {aC : Nat → ClassId} {H0 : Heap} {G : jx_Gv} : (jz_m (jZ l dC dI aC H0 G) 102).2.1 = c_102 := rfl
theorem ho_102 {l : Launch} {dC : Nat → ClassId} {dI : Nat → Nat → Nat} {aC : Nat → ClassId} {H0 : Heap} {G : jx_Gv} : (jz_m (jZ l dC dI aC H0 G) 102).1.cls = "PartTextModel" := rfl
set_option maxRecDepth 100000 in
theorem hw_102 {l : Launch} {dC : Nat → ClassId} {dI : Nat → Nat → Nat} {aC : Nat → ClassId} {H0 : Heap} {G : jx_Gv} : Jvm.Cond.code (jz_m (jZ l dC dI aC H0 G) 102).1 (jz_m (jZ l dC dI aC H0 G) 102).2.1 (jz_m (jZ l dC dI aC H0 G) 102).2.2.1 (jz_m (jZ l dC dI aC H0 G) 102).2.2.2 ∈ jz_T (jZ l dC dI aC H0 G) := List.mem_filter.mpr ⟨List.mem_of_getElem? (i := 1163) rfl, rfl⟩
theorem hp_102 {l : Launch} {dC : Nat → ClassId} {dI : Nat → Nat → Nat} {aC : Nat → ClassId} {H0 : Heap} {G : jx_Gv} : plainName (jz_m (jZ l dC dI aC H0 G) 102).1.cls = true := by show plainName "PartTextModel" = true; decide +kernel
theorem hs_102 {l : Launch} {dC : Nat → ClassId} {dI : Nat → Nat → Nat} {aC : Nat → ClassId} {H0 : Heap} {G : jx_Gv} : (jz_m (jZ l dC dI aC H0 G) 102).1.cls ≠ "java/lang/invoke/MethodHandle" ∧ (jz_m (jZ l dC dI aC H0 G) 102).1.cls ≠ "java/lang/invoke/VarHandle" ∧ (parseMethodDescriptor (jz_m (jZ l dC dI aC H0 G) 102).1.desc).map (fun d => d.parameters.length) = some 2 := by show "PartTextModel" ≠ _ ∧ "PartTextModel" ≠ _ ∧ (parseMethodDescriptor "(II)Z").map _ = _; decide +kernel
theorem hm_103 {l : Launch} {dC : Nat → ClassId} {dI : Nat → Nat → Nat} {aC : Nat → ClassId} {H0 : Heap} {G : jx_Gv} : (jz_m (jZ l dC dI aC H0 G) 103).2.1 = c_103 := rfl
theorem ho_103 {l : Launch} {dC : Nat → ClassId} {dI : Nat → Nat → Nat} {aC : Nat → ClassId} {H0 : Heap} {G : jx_Gv} : (jz_m (jZ l dC dI aC H0 G) 103).1.cls = "PartTextModel" := rfl
set_option maxRecDepth 100000 in
theorem hw_103 {l : Launch} {dC : Nat → ClassId} {dI : Nat → Nat → Nat} {aC : Nat → ClassId} {H0 : Heap} {G : jx_Gv} : Jvm.Cond.code (jz_m (jZ l dC dI aC H0 G) 103).1 (jz_m (jZ l dC dI aC H0 G) 103).2.1 (jz_m (jZ l dC dI aC H0 G) 103).2.2.1 (jz_m (jZ l dC dI aC H0 G) 103).2.2.2 ∈ jz_T (jZ l dC dI aC H0 G) := List.mem_filter.mpr ⟨List.mem_of_getElem? (i := 1159) rfl, rfl⟩
theorem hp_103 {l : Launch} {dC : Nat → ClassId} {dI : Nat → Nat → Nat} {aC : Nat → ClassId} {H0 : Heap} {G : jx_Gv} : plainName (jz_m (jZ l dC dI aC H0 G) 103).1.cls = true := by show plainName "PartTextModel" = true; decide +kernel
theorem hs_103 {l : Launch} {dC : Nat → ClassId} {dI : Nat → Nat → Nat} {aC : Nat → ClassId} {H0 : Heap} {G : jx_Gv} : (jz_m (jZ l dC dI aC H0 G) 103).1.cls ≠ "java/lang/invoke/MethodHandle" ∧ (jz_m (jZ l dC dI aC H0 G) 103).1.cls ≠ "java/lang/invoke/VarHandle" ∧ (parseMethodDescriptor (jz_m (jZ l dC dI aC H0 G) 103).1.desc).map (fun d => d.parameters.length) = some 2 := by show "PartTextModel" ≠ _ ∧ "PartTextModel" ≠ _ ∧ (parseMethodDescriptor "(II)I").map _ = _; decide +kernel
theorem hm_104 {l : Launch} {dC : Nat → ClassId} {dI : Nat → Nat → Nat} {aC : Nat → ClassId} {H0 : Heap} {G : jx_Gv} : (jz_m (jZ l dC dI aC H0 G) 104).2.1 = c_104 := rfl
theorem ho_104 {l : Launch} {dC : Nat → ClassId} {dI : Nat → Nat → Nat} {aC : Nat → ClassId} {H0 : Heap} {G : jx_Gv} : (jz_m (jZ l dC dI aC H0 G) 104).1.cls = "PartTextModel" := rfl
set_option maxRecDepth 100000 in
theorem hw_104 {l : Launch} {dC : Nat → ClassId} {dI : Nat → Nat → Nat} {aC : Nat → ClassId} {H0 : Heap} {G : jx_Gv} : Jvm.Cond.code (jz_m (jZ l dC dI aC H0 G) 104).1 (jz_m (jZ l dC dI aC H0 G) 104).2.1 (jz_m (jZ l dC dI aC H0 G) 104).2.2.1 (jz_m (jZ l dC dI aC H0 G) 104).2.2.2 ∈ jz_T (jZ l dC dI aC H0 G) := List.mem_filter.mpr ⟨List.mem_of_getElem? (i := 1155) rfl, rfl⟩
theorem hp_104 {l : Launch} {dC : Nat → ClassId} {dI : Nat → Nat → Nat} {aC : Nat → ClassId} {H0 : Heap} {G : jx_Gv} : plainName (jz_m (jZ l dC dI aC H0 G) 104).1.cls = true := by show plainName "PartTextModel" = true; decide +kernel
theorem hs_104 {l : Launch} {dC : Nat → ClassId} {dI : Nat → Nat → Nat} {aC : Nat → ClassId} {H0 : Heap} {G : jx_Gv} : (jz_m (jZ l dC dI aC H0 G) 104).1.cls ≠ "java/lang/invoke/MethodHandle" ∧ (jz_m (jZ l dC dI aC H0 G) 104).1.cls ≠ "java/lang/invoke/VarHandle" ∧ (parseMethodDescriptor (jz_m (jZ l dC dI aC H0 G) 104).1.desc).map (fun d => d.parameters.length) = some 0 := by show "PartTextModel" ≠ _ ∧ "PartTextModel" ≠ _ ∧ (parseMethodDescriptor "()I").map _ = _; decide +kernel
theorem hm_105 {l : Launch} {dC : Nat → ClassId} {dI : Nat → Nat → Nat} {aC : Nat → ClassId} {H0 : Heap} {G : jx_Gv} : (jz_m (jZ l dC dI aC H0 G) 105).2.1 = c_105 := rfl
theorem ho_105 {l : Launch} {dC : Nat → ClassId} {dI : Nat → Nat → Nat} {aC : Nat → ClassId} {H0 : Heap} {G : jx_Gv} : (jz_m (jZ l dC dI aC H0 G) 105).1.cls = "PartTextModel" := rfl
set_option maxRecDepth 100000 in
theorem hw_105 {l : Launch} {dC : Nat → ClassId} {dI : Nat → Nat → Nat} {aC : Nat → ClassId} {H0 : Heap} {G : jx_Gv} : Jvm.Cond.code (jz_m (jZ l dC dI aC H0 G) 105).1 (jz_m (jZ l dC dI aC H0 G) 105).2.1 (jz_m (jZ l dC dI aC H0 G) 105).2.2.1 (jz_m (jZ l dC dI aC H0 G) 105).2.2.2 ∈ jz_T (jZ l dC dI aC H0 G) := List.mem_filter.mpr ⟨List.mem_of_getElem? (i := 1020) rfl, rfl⟩
theorem hp_105 {l : Launch} {dC : Nat → ClassId} {dI : Nat → Nat → Nat} {aC : Nat → ClassId} {H0 : Heap} {G : jx_Gv} : plainName (jz_m (jZ l dC dI aC H0 G) 105).1.cls = true := by show plainName "PartTextModel" = true; decide +kernel
theorem hs_105 {l : Launch} {dC : Nat → ClassId} {dI : Nat → Nat → Nat} {aC : Nat → ClassId} {H0 : Heap} {G : jx_Gv} : (jz_m (jZ l dC dI aC H0 G) 105).1.cls ≠ "java/lang/invoke/MethodHandle" ∧ (jz_m (jZ l dC dI aC H0 G) 105).1.cls ≠ "java/lang/invoke/VarHandle" ∧ (parseMethodDescriptor (jz_m (jZ l dC dI aC H0 G) 105).1.desc).map (fun d => d.parameters.length) = some 0 := by show "PartTextModel" ≠ _ ∧ "PartTextModel" ≠ _ ∧ (parseMethodDescriptor "()I").map _ = _; decide +kernel
theorem hm_106 {l : Launch} {dC : Nat → ClassId} {dI : Nat → Nat → Nat} {aC : Nat → ClassId} {H0 : Heap} {G : jx_Gv} : (jz_m (jZ l dC dI aC H0 G) 106).2.1 = c_106 := rfl
theorem ho_106 {l : Launch} {dC : Nat → ClassId} {dI : Nat → Nat → Nat} {aC : Nat → ClassId} {H0 : Heap} {G : jx_Gv} : (jz_m (jZ l dC dI aC H0 G) 106).1.cls = "PartText" := rfl
set_option maxRecDepth 100000 in
theorem hw_106 {l : Launch} {dC : Nat → ClassId} {dI : Nat → Nat → Nat} {aC : Nat → ClassId} {H0 : Heap} {G : jx_Gv} : Jvm.Cond.code (jz_m (jZ l dC dI aC H0 G) 106).1 (jz_m (jZ l dC dI aC H0 G) 106).2.1 (jz_m (jZ l dC dI aC H0 G) 106).2.2.1 (jz_m (jZ l dC dI aC H0 G) 106).2.2.2 ∈ jz_T (jZ l dC dI aC H0 G) := List.mem_filter.mpr ⟨List.mem_of_getElem? (i := 598) rfl, rfl⟩
theorem hp_106 {l : Launch} {dC : Nat → ClassId} {dI : Nat → Nat → Nat} {aC : Nat → ClassId} {H0 : Heap} {G : jx_Gv} : plainName (jz_m (jZ l dC dI aC H0 G) 106).1.cls = true := by show plainName "PartText" = true; decide +kernel
theorem hs_106 {l : Launch} {dC : Nat → ClassId} {dI : Nat → Nat → Nat} {aC : Nat → ClassId} {H0 : Heap} {G : jx_Gv} : (jz_m (jZ l dC dI aC H0 G) 106).1.cls ≠ "java/lang/invoke/MethodHandle" ∧ (jz_m (jZ l dC dI aC H0 G) 106).1.cls ≠ "java/lang/invoke/VarHandle" ∧ (parseMethodDescriptor (jz_m (jZ l dC dI aC H0 G) 106).1.desc).map (fun d => d.parameters.length) = some 0 := by show "PartText" ≠ _ ∧ "PartText" ≠ _ ∧ (parseMethodDescriptor "()LPartText$Edition;").map _ = _; decide +kernel
theorem hm_107 {l : Launch} {dC : Nat → ClassId} {dI : Nat → Nat → Nat} {aC : Nat → ClassId} {H0 : Heap} {G : jx_Gv} : (jz_m (jZ l dC dI aC H0 G) 107).2.1 = c_107 := rfl
theorem ho_107 {l : Launch} {dC : Nat → ClassId} {dI : Nat → Nat → Nat} {aC : Nat → ClassId} {H0 : Heap} {G : jx_Gv} : (jz_m (jZ l dC dI aC H0 G) 107).1.cls = "PartText$Edition" := rfl
set_option maxRecDepth 100000 in
theorem hw_107 {l : Launch} {dC : Nat → ClassId} {dI : Nat → Nat → Nat} {aC : Nat → ClassId} {H0 : Heap} {G : jx_Gv} : Jvm.Cond.code (jz_m (jZ l dC dI aC H0 G) 107).1 (jz_m (jZ l dC dI aC H0 G) 107).2.1 (jz_m (jZ l dC dI aC H0 G) 107).2.2.1 (jz_m (jZ l dC dI aC H0 G) 107).2.2.2 ∈ jz_T (jZ l dC dI aC H0 G) := List.mem_filter.mpr ⟨List.mem_of_getElem? (i := 605) rfl, rfl⟩
theorem hp_107 {l : Launch} {dC : Nat → ClassId} {dI : Nat → Nat → Nat} {aC : Nat → ClassId} {H0 : Heap} {G : jx_Gv} : plainName (jz_m (jZ l dC dI aC H0 G) 107).1.cls = true := by show plainName "PartText$Edition" = true; decide +kernel
theorem hs_107 {l : Launch} {dC : Nat → ClassId} {dI : Nat → Nat → Nat} {aC : Nat → ClassId} {H0 : Heap} {G : jx_Gv} : (jz_m (jZ l dC dI aC H0 G) 107).1.cls ≠ "java/lang/invoke/MethodHandle" ∧ (jz_m (jZ l dC dI aC H0 G) 107).1.cls ≠ "java/lang/invoke/VarHandle" ∧ (parseMethodDescriptor (jz_m (jZ l dC dI aC H0 G) 107).1.desc).map (fun d => d.parameters.length) = some 3 := by show "PartText$Edition" ≠ _ ∧ "PartText$Edition" ≠ _ ∧ (parseMethodDescriptor "(III)I").map _ = _; decide +kernel
theorem hm_108 {l : Launch} {dC : Nat → ClassId} {dI : Nat → Nat → Nat} {aC : Nat → ClassId} {H0 : Heap} {G : jx_Gv} : (jz_m (jZ l dC dI aC H0 G) 108).2.1 = c_108 := rfl
theorem ho_108 {l : Launch} {dC : Nat → ClassId} {dI : Nat → Nat → Nat} {aC : Nat → ClassId} {H0 : Heap} {G : jx_Gv} : (jz_m (jZ l dC dI aC H0 G) 108).1.cls = "PartText" := rfl
set_option maxRecDepth 100000 in
theorem hw_108 {l : Launch} {dC : Nat → ClassId} {dI : Nat → Nat → Nat} {aC : Nat → ClassId} {H0 : Heap} {G : jx_Gv} : Jvm.Cond.code (jz_m (jZ l dC dI aC H0 G) 108).1 (jz_m (jZ l dC dI aC H0 G) 108).2.1 (jz_m (jZ l dC dI aC H0 G) 108).2.2.1 (jz_m (jZ l dC dI aC H0 G) 108).2.2.2 ∈ jz_T (jZ l dC dI aC H0 G) := List.mem_filter.mpr ⟨List.mem_of_getElem? (i := 601) rfl, rfl⟩
theorem hp_108 {l : Launch} {dC : Nat → ClassId} {dI : Nat → Nat → Nat} {aC : Nat → ClassId} {H0 : Heap} {G : jx_Gv} : plainName (jz_m (jZ l dC dI aC H0 G) 108).1.cls = true := by show plainName "PartText" = true; decide +kernel
theorem hs_108 {l : Launch} {dC : Nat → ClassId} {dI : Nat → Nat → Nat} {aC : Nat → ClassId} {H0 : Heap} {G : jx_Gv} : (jz_m (jZ l dC dI aC H0 G) 108).1.cls ≠ "java/lang/invoke/MethodHandle" ∧ (jz_m (jZ l dC dI aC H0 G) 108).1.cls ≠ "java/lang/invoke/VarHandle" ∧ (parseMethodDescriptor (jz_m (jZ l dC dI aC H0 G) 108).1.desc).map (fun d => d.parameters.length) = some 2 := by show "PartText" ≠ _ ∧ "PartText" ≠ _ ∧ (parseMethodDescriptor "(LPartText$Edition;I)I").map _ = _; decide +kernel
theorem hm_109 {l : Launch} {dC : Nat → ClassId} {dI : Nat → Nat → Nat} {aC : Nat → ClassId} {H0 : Heap} {G : jx_Gv} : (jz_m (jZ l dC dI aC H0 G) 109).2.1 = c_109 := rfl
theorem ho_109 {l : Launch} {dC : Nat → ClassId} {dI : Nat → Nat → Nat} {aC : Nat → ClassId} {H0 : Heap} {G : jx_Gv} : (jz_m (jZ l dC dI aC H0 G) 109).1.cls = "PartText" := rfl
set_option maxRecDepth 100000 in
theorem hw_109 {l : Launch} {dC : Nat → ClassId} {dI : Nat → Nat → Nat} {aC : Nat → ClassId} {H0 : Heap} {G : jx_Gv} : Jvm.Cond.code (jz_m (jZ l dC dI aC H0 G) 109).1 (jz_m (jZ l dC dI aC H0 G) 109).2.1 (jz_m (jZ l dC dI aC H0 G) 109).2.2.1 (jz_m (jZ l dC dI aC H0 G) 109).2.2.2 ∈ jz_T (jZ l dC dI aC H0 G) := List.mem_filter.mpr ⟨List.mem_of_getElem? (i := 594) rfl, rfl⟩
theorem hp_109 {l : Launch} {dC : Nat → ClassId} {dI : Nat → Nat → Nat} {aC : Nat → ClassId} {H0 : Heap} {G : jx_Gv} : plainName (jz_m (jZ l dC dI aC H0 G) 109).1.cls = true := by show plainName "PartText" = true; decide +kernel
theorem hs_109 {l : Launch} {dC : Nat → ClassId} {dI : Nat → Nat → Nat} {aC : Nat → ClassId} {H0 : Heap} {G : jx_Gv} : (jz_m (jZ l dC dI aC H0 G) 109).1.cls ≠ "java/lang/invoke/MethodHandle" ∧ (jz_m (jZ l dC dI aC H0 G) 109).1.cls ≠ "java/lang/invoke/VarHandle" ∧ (parseMethodDescriptor (jz_m (jZ l dC dI aC H0 G) 109).1.desc).map (fun d => d.parameters.length) = some 2 := by show "PartText" ≠ _ ∧ "PartText" ≠ _ ∧ (parseMethodDescriptor "(II)I").map _ = _; decide +kernel
theorem hm_110 {l : Launch} {dC : Nat → ClassId} {dI : Nat → Nat → Nat} {aC : Nat → ClassId} {H0 : Heap} {G : jx_Gv} : (jz_m (jZ l dC dI aC H0 G) 110).2.1 = c_110 := rfl
theorem ho_110 {l : Launch} {dC : Nat → ClassId} {dI : Nat → Nat → Nat} {aC : Nat → ClassId} {H0 : Heap} {G : jx_Gv} : (jz_m (jZ l dC dI aC H0 G) 110).1.cls = "PartTextModel" := rfl
set_option maxRecDepth 100000 in
theorem hw_110 {l : Launch} {dC : Nat → ClassId} {dI : Nat → Nat → Nat} {aC : Nat → ClassId} {H0 : Heap} {G : jx_Gv} : Jvm.Cond.code (jz_m (jZ l dC dI aC H0 G) 110).1 (jz_m (jZ l dC dI aC H0 G) 110).2.1 (jz_m (jZ l dC dI aC H0 G) 110).2.2.1 (jz_m (jZ l dC dI aC H0 G) 110).2.2.2 ∈ jz_T (jZ l dC dI aC H0 G) := List.mem_filter.mpr ⟨List.mem_of_getElem? (i := 1179) rfl, rfl⟩
theorem hp_110 {l : Launch} {dC : Nat → ClassId} {dI : Nat → Nat → Nat} {aC : Nat → ClassId} {H0 : Heap} {G : jx_Gv} : plainName (jz_m (jZ l dC dI aC H0 G) 110).1.cls = true := by show plainName "PartTextModel" = true; decide +kernel
theorem hs_110 {l : Launch} {dC : Nat → ClassId} {dI : Nat → Nat → Nat} {aC : Nat → ClassId} {H0 : Heap} {G : jx_Gv} : (jz_m (jZ l dC dI aC H0 G) 110).1.cls ≠ "java/lang/invoke/MethodHandle" ∧ (jz_m (jZ l dC dI aC H0 G) 110).1.cls ≠ "java/lang/invoke/VarHandle" ∧ (parseMethodDescriptor (jz_m (jZ l dC dI aC H0 G) 110).1.desc).map (fun d => d.parameters.length) = some 3 := by show "PartTextModel" ≠ _ ∧ "PartTextModel" ≠ _ ∧ (parseMethodDescriptor "(III)I").map _ = _; decide +kernel
theorem hm_111 {l : Launch} {dC : Nat → ClassId} {dI : Nat → Nat → Nat} {aC : Nat → ClassId} {H0 : Heap} {G : jx_Gv} : (jz_m (jZ l dC dI aC H0 G) 111).2.1 = c_111 := rfl
theorem ho_111 {l : Launch} {dC : Nat → ClassId} {dI : Nat → Nat → Nat} {aC : Nat → ClassId} {H0 : Heap} {G : jx_Gv} : (jz_m (jZ l dC dI aC H0 G) 111).1.cls = "PartTextModel" := rfl
set_option maxRecDepth 100000 in
theorem hw_111 {l : Launch} {dC : Nat → ClassId} {dI : Nat → Nat → Nat} {aC : Nat → ClassId} {H0 : Heap} {G : jx_Gv} : Jvm.Cond.code (jz_m (jZ l dC dI aC H0 G) 111).1 (jz_m (jZ l dC dI aC H0 G) 111).2.1 (jz_m (jZ l dC dI aC H0 G) 111).2.2.1 (jz_m (jZ l dC dI aC H0 G) 111).2.2.2 ∈ jz_T (jZ l dC dI aC H0 G) := List.mem_filter.mpr ⟨List.mem_of_getElem? (i := 1175) rfl, rfl⟩
theorem hp_111 {l : Launch} {dC : Nat → ClassId} {dI : Nat → Nat → Nat} {aC : Nat → ClassId} {H0 : Heap} {G : jx_Gv} : plainName (jz_m (jZ l dC dI aC H0 G) 111).1.cls = true := by show plainName "PartTextModel" = true; decide +kernel
theorem hs_111 {l : Launch} {dC : Nat → ClassId} {dI : Nat → Nat → Nat} {aC : Nat → ClassId} {H0 : Heap} {G : jx_Gv} : (jz_m (jZ l dC dI aC H0 G) 111).1.cls ≠ "java/lang/invoke/MethodHandle" ∧ (jz_m (jZ l dC dI aC H0 G) 111).1.cls ≠ "java/lang/invoke/VarHandle" ∧ (parseMethodDescriptor (jz_m (jZ l dC dI aC H0 G) 111).1.desc).map (fun d => d.parameters.length) = some 2 := by show "PartTextModel" ≠ _ ∧ "PartTextModel" ≠ _ ∧ (parseMethodDescriptor "(II)I").map _ = _; decide +kernel
theorem hm_112 {l : Launch} {dC : Nat → ClassId} {dI : Nat → Nat → Nat} {aC : Nat → ClassId} {H0 : Heap} {G : jx_Gv} : (jz_m (jZ l dC dI aC H0 G) 112).2.1 = c_112 := rfl
theorem ho_112 {l : Launch} {dC : Nat → ClassId} {dI : Nat → Nat → Nat} {aC : Nat → ClassId} {H0 : Heap} {G : jx_Gv} : (jz_m (jZ l dC dI aC H0 G) 112).1.cls = "PartText" := rfl
set_option maxRecDepth 100000 in
theorem hw_112 {l : Launch} {dC : Nat → ClassId} {dI : Nat → Nat → Nat} {aC : Nat → ClassId} {H0 : Heap} {G : jx_Gv} : Jvm.Cond.code (jz_m (jZ l dC dI aC H0 G) 112).1 (jz_m (jZ l dC dI aC H0 G) 112).2.1 (jz_m (jZ l dC dI aC H0 G) 112).2.2.1 (jz_m (jZ l dC dI aC H0 G) 112).2.2.2 ∈ jz_T (jZ l dC dI aC H0 G) := List.mem_filter.mpr ⟨List.mem_of_getElem? (i := 615) rfl, rfl⟩
theorem hp_112 {l : Launch} {dC : Nat → ClassId} {dI : Nat → Nat → Nat} {aC : Nat → ClassId} {H0 : Heap} {G : jx_Gv} : plainName (jz_m (jZ l dC dI aC H0 G) 112).1.cls = true := by show plainName "PartText" = true; decide +kernel
theorem hs_112 {l : Launch} {dC : Nat → ClassId} {dI : Nat → Nat → Nat} {aC : Nat → ClassId} {H0 : Heap} {G : jx_Gv} : (jz_m (jZ l dC dI aC H0 G) 112).1.cls ≠ "java/lang/invoke/MethodHandle" ∧ (jz_m (jZ l dC dI aC H0 G) 112).1.cls ≠ "java/lang/invoke/VarHandle" ∧ (parseMethodDescriptor (jz_m (jZ l dC dI aC H0 G) 112).1.desc).map (fun d => d.parameters.length) = some 4 := by show "PartText" ≠ _ ∧ "PartText" ≠ _ ∧ (parseMethodDescriptor "(LPartText$Edition;III)I").map _ = _; decide +kernel
theorem hm_113 {l : Launch} {dC : Nat → ClassId} {dI : Nat → Nat → Nat} {aC : Nat → ClassId} {H0 : Heap} {G : jx_Gv} : (jz_m (jZ l dC dI aC H0 G) 113).2.1 = c_113 := rfl
theorem ho_113 {l : Launch} {dC : Nat → ClassId} {dI : Nat → Nat → Nat} {aC : Nat → ClassId} {H0 : Heap} {G : jx_Gv} : (jz_m (jZ l dC dI aC H0 G) 113).1.cls = "PartText$Edition" := rfl
set_option maxRecDepth 100000 in
theorem hw_113 {l : Launch} {dC : Nat → ClassId} {dI : Nat → Nat → Nat} {aC : Nat → ClassId} {H0 : Heap} {G : jx_Gv} : Jvm.Cond.code (jz_m (jZ l dC dI aC H0 G) 113).1 (jz_m (jZ l dC dI aC H0 G) 113).2.1 (jz_m (jZ l dC dI aC H0 G) 113).2.2.1 (jz_m (jZ l dC dI aC H0 G) 113).2.2.2 ∈ jz_T (jZ l dC dI aC H0 G) := List.mem_filter.mpr ⟨List.mem_of_getElem? (i := 619) rfl, rfl⟩
theorem hp_113 {l : Launch} {dC : Nat → ClassId} {dI : Nat → Nat → Nat} {aC : Nat → ClassId} {H0 : Heap} {G : jx_Gv} : plainName (jz_m (jZ l dC dI aC H0 G) 113).1.cls = true := by show plainName "PartText$Edition" = true; decide +kernel
theorem hs_113 {l : Launch} {dC : Nat → ClassId} {dI : Nat → Nat → Nat} {aC : Nat → ClassId} {H0 : Heap} {G : jx_Gv} : (jz_m (jZ l dC dI aC H0 G) 113).1.cls ≠ "java/lang/invoke/MethodHandle" ∧ (jz_m (jZ l dC dI aC H0 G) 113).1.cls ≠ "java/lang/invoke/VarHandle" ∧ (parseMethodDescriptor (jz_m (jZ l dC dI aC H0 G) 113).1.desc).map (fun d => d.parameters.length) = some 1 := by show "PartText$Edition" ≠ _ ∧ "PartText$Edition" ≠ _ ∧ (parseMethodDescriptor "(I)I").map _ = _; decide +kernel
theorem hm_114 {l : Launch} {dC : Nat → ClassId} {dI : Nat → Nat → Nat} {aC : Nat → ClassId} {H0 : Heap} {G : jx_Gv} : (jz_m (jZ l dC dI aC H0 G) 114).2.1 = c_114 := rfl
theorem ho_114 {l : Launch} {dC : Nat → ClassId} {dI : Nat → Nat → Nat} {aC : Nat → ClassId} {H0 : Heap} {G : jx_Gv} : (jz_m (jZ l dC dI aC H0 G) 114).1.cls = "PartText$Edition" := rfl
set_option maxRecDepth 100000 in
theorem hw_114 {l : Launch} {dC : Nat → ClassId} {dI : Nat → Nat → Nat} {aC : Nat → ClassId} {H0 : Heap} {G : jx_Gv} : Jvm.Cond.code (jz_m (jZ l dC dI aC H0 G) 114).1 (jz_m (jZ l dC dI aC H0 G) 114).2.1 (jz_m (jZ l dC dI aC H0 G) 114).2.2.1 (jz_m (jZ l dC dI aC H0 G) 114).2.2.2 ∈ jz_T (jZ l dC dI aC H0 G) := List.mem_filter.mpr ⟨List.mem_of_getElem? (i := 623) rfl, rfl⟩
theorem hp_114 {l : Launch} {dC : Nat → ClassId} {dI : Nat → Nat → Nat} {aC : Nat → ClassId} {H0 : Heap} {G : jx_Gv} : plainName (jz_m (jZ l dC dI aC H0 G) 114).1.cls = true := by show plainName "PartText$Edition" = true; decide +kernel
theorem hs_114 {l : Launch} {dC : Nat → ClassId} {dI : Nat → Nat → Nat} {aC : Nat → ClassId} {H0 : Heap} {G : jx_Gv} : (jz_m (jZ l dC dI aC H0 G) 114).1.cls ≠ "java/lang/invoke/MethodHandle" ∧ (jz_m (jZ l dC dI aC H0 G) 114).1.cls ≠ "java/lang/invoke/VarHandle" ∧ (parseMethodDescriptor (jz_m (jZ l dC dI aC H0 G) 114).1.desc).map (fun d => d.parameters.length) = some 3 := by show "PartText$Edition" ≠ _ ∧ "PartText$Edition" ≠ _ ∧ (parseMethodDescriptor "(III)I").map _ = _; decide +kernel
theorem hm_115 {l : Launch} {dC : Nat → ClassId} {dI : Nat → Nat → Nat} {aC : Nat → ClassId} {H0 : Heap} {G : jx_Gv} : (jz_m (jZ l dC dI aC H0 G) 115).2.1 = c_115 := rfl
theorem ho_115 {l : Launch} {dC : Nat → ClassId} {dI : Nat → Nat → Nat} {aC : Nat → ClassId} {H0 : Heap} {G : jx_Gv} : (jz_m (jZ l dC dI aC H0 G) 115).1.cls = "PartText" := rfl
set_option maxRecDepth 100000 in
theorem hw_115 {l : Launch} {dC : Nat → ClassId} {dI : Nat → Nat → Nat} {aC : Nat → ClassId} {H0 : Heap} {G : jx_Gv} : Jvm.Cond.code (jz_m (jZ l dC dI aC H0 G) 115).1 (jz_m (jZ l dC dI aC H0 G) 115).2.1 (jz_m (jZ l dC dI aC H0 G) 115).2.2.1 (jz_m (jZ l dC dI aC H0 G) 115).2.2.2 ∈ jz_T (jZ l dC dI aC H0 G) := List.mem_filter.mpr ⟨List.mem_of_getElem? (i := 612) rfl, rfl⟩
theorem hp_115 {l : Launch} {dC : Nat → ClassId} {dI : Nat → Nat → Nat} {aC : Nat → ClassId} {H0 : Heap} {G : jx_Gv} : plainName (jz_m (jZ l dC dI aC H0 G) 115).1.cls = true := by show plainName "PartText" = true; decide +kernel
theorem hs_115 {l : Launch} {dC : Nat → ClassId} {dI : Nat → Nat → Nat} {aC : Nat → ClassId} {H0 : Heap} {G : jx_Gv} : (jz_m (jZ l dC dI aC H0 G) 115).1.cls ≠ "java/lang/invoke/MethodHandle" ∧ (jz_m (jZ l dC dI aC H0 G) 115).1.cls ≠ "java/lang/invoke/VarHandle" ∧ (parseMethodDescriptor (jz_m (jZ l dC dI aC H0 G) 115).1.desc).map (fun d => d.parameters.length) = some 3 := by show "PartText" ≠ _ ∧ "PartText" ≠ _ ∧ (parseMethodDescriptor "(III)I").map _ = _; decide +kernel
theorem hm_116 {l : Launch} {dC : Nat → ClassId} {dI : Nat → Nat → Nat} {aC : Nat → ClassId} {H0 : Heap} {G : jx_Gv} : (jz_m (jZ l dC dI aC H0 G) 116).2.1 = c_116 := rfl
theorem ho_116 {l : Launch} {dC : Nat → ClassId} {dI : Nat → Nat → Nat} {aC : Nat → ClassId} {H0 : Heap} {G : jx_Gv} : (jz_m (jZ l dC dI aC H0 G) 116).1.cls = "PartTextModel" := rfl
set_option maxRecDepth 100000 in
theorem hw_116 {l : Launch} {dC : Nat → ClassId} {dI : Nat → Nat → Nat} {aC : Nat → ClassId} {H0 : Heap} {G : jx_Gv} : Jvm.Cond.code (jz_m (jZ l dC dI aC H0 G) 116).1 (jz_m (jZ l dC dI aC H0 G) 116).2.1 (jz_m (jZ l dC dI aC H0 G) 116).2.2.1 (jz_m (jZ l dC dI aC H0 G) 116).2.2.2 ∈ jz_T (jZ l dC dI aC H0 G) := List.mem_filter.mpr ⟨List.mem_of_getElem? (i := 1191) rfl, rfl⟩
theorem hp_116 {l : Launch} {dC : Nat → ClassId} {dI : Nat → Nat → Nat} {aC : Nat → ClassId} {H0 : Heap} {G : jx_Gv} : plainName (jz_m (jZ l dC dI aC H0 G) 116).1.cls = true := by show plainName "PartTextModel" = true; decide +kernel
theorem hs_116 {l : Launch} {dC : Nat → ClassId} {dI : Nat → Nat → Nat} {aC : Nat → ClassId} {H0 : Heap} {G : jx_Gv} : (jz_m (jZ l dC dI aC H0 G) 116).1.cls ≠ "java/lang/invoke/MethodHandle" ∧ (jz_m (jZ l dC dI aC H0 G) 116).1.cls ≠ "java/lang/invoke/VarHandle" ∧ (parseMethodDescriptor (jz_m (jZ l dC dI aC H0 G) 116).1.desc).map (fun d => d.parameters.length) = some 3 := by show "PartTextModel" ≠ _ ∧ "PartTextModel" ≠ _ ∧ (parseMethodDescriptor "(III)I").map _ = _; decide +kernel
theorem hm_117 {l : Launch} {dC : Nat → ClassId} {dI : Nat → Nat → Nat} {aC : Nat → ClassId} {H0 : Heap} {G : jx_Gv} : (jz_m (jZ l dC dI aC H0 G) 117).2.1 = c_117 := rfl
theorem ho_117 {l : Launch} {dC : Nat → ClassId} {dI : Nat → Nat → Nat} {aC : Nat → ClassId} {H0 : Heap} {G : jx_Gv} : (jz_m (jZ l dC dI aC H0 G) 117).1.cls = "PartTextModel" := rfl
set_option maxRecDepth 100000 in
theorem hw_117 {l : Launch} {dC : Nat → ClassId} {dI : Nat → Nat → Nat} {aC : Nat → ClassId} {H0 : Heap} {G : jx_Gv} : Jvm.Cond.code (jz_m (jZ l dC dI aC H0 G) 117).1 (jz_m (jZ l dC dI aC H0 G) 117).2.1 (jz_m (jZ l dC dI aC H0 G) 117).2.2.1 (jz_m (jZ l dC dI aC H0 G) 117).2.2.2 ∈ jz_T (jZ l dC dI aC H0 G) := List.mem_filter.mpr ⟨List.mem_of_getElem? (i := 1187) rfl, rfl⟩
theorem hp_117 {l : Launch} {dC : Nat → ClassId} {dI : Nat → Nat → Nat} {aC : Nat → ClassId} {H0 : Heap} {G : jx_Gv} : plainName (jz_m (jZ l dC dI aC H0 G) 117).1.cls = true := by show plainName "PartTextModel" = true; decide +kernel
theorem hs_117 {l : Launch} {dC : Nat → ClassId} {dI : Nat → Nat → Nat} {aC : Nat → ClassId} {H0 : Heap} {G : jx_Gv} : (jz_m (jZ l dC dI aC H0 G) 117).1.cls ≠ "java/lang/invoke/MethodHandle" ∧ (jz_m (jZ l dC dI aC H0 G) 117).1.cls ≠ "java/lang/invoke/VarHandle" ∧ (parseMethodDescriptor (jz_m (jZ l dC dI aC H0 G) 117).1.desc).map (fun d => d.parameters.length) = some 1 := by show "PartTextModel" ≠ _ ∧ "PartTextModel" ≠ _ ∧ (parseMethodDescriptor "(I)I").map _ = _; decide +kernel
theorem hm_118 {l : Launch} {dC : Nat → ClassId} {dI : Nat → Nat → Nat} {aC : Nat → ClassId} {H0 : Heap} {G : jx_Gv} : (jz_m (jZ l dC dI aC H0 G) 118).2.1 = c_118 := rfl
theorem ho_118 {l : Launch} {dC : Nat → ClassId} {dI : Nat → Nat → Nat} {aC : Nat → ClassId} {H0 : Heap} {G : jx_Gv} : (jz_m (jZ l dC dI aC H0 G) 118).1.cls = "PartTextModel" := rfl
set_option maxRecDepth 100000 in
theorem hw_118 {l : Launch} {dC : Nat → ClassId} {dI : Nat → Nat → Nat} {aC : Nat → ClassId} {H0 : Heap} {G : jx_Gv} : Jvm.Cond.code (jz_m (jZ l dC dI aC H0 G) 118).1 (jz_m (jZ l dC dI aC H0 G) 118).2.1 (jz_m (jZ l dC dI aC H0 G) 118).2.2.1 (jz_m (jZ l dC dI aC H0 G) 118).2.2.2 ∈ jz_T (jZ l dC dI aC H0 G) := List.mem_filter.mpr ⟨List.mem_of_getElem? (i := 1195) rfl, rfl⟩
theorem hp_118 {l : Launch} {dC : Nat → ClassId} {dI : Nat → Nat → Nat} {aC : Nat → ClassId} {H0 : Heap} {G : jx_Gv} : plainName (jz_m (jZ l dC dI aC H0 G) 118).1.cls = true := by show plainName "PartTextModel" = true; decide +kernel
theorem hs_118 {l : Launch} {dC : Nat → ClassId} {dI : Nat → Nat → Nat} {aC : Nat → ClassId} {H0 : Heap} {G : jx_Gv} : (jz_m (jZ l dC dI aC H0 G) 118).1.cls ≠ "java/lang/invoke/MethodHandle" ∧ (jz_m (jZ l dC dI aC H0 G) 118).1.cls ≠ "java/lang/invoke/VarHandle" ∧ (parseMethodDescriptor (jz_m (jZ l dC dI aC H0 G) 118).1.desc).map (fun d => d.parameters.length) = some 2 := by show "PartTextModel" ≠ _ ∧ "PartTextModel" ≠ _ ∧ (parseMethodDescriptor "(II)I").map _ = _; decide +kernel
theorem hm_119 {l : Launch} {dC : Nat → ClassId} {dI : Nat → Nat → Nat} {aC : Nat → ClassId} {H0 : Heap} {G : jx_Gv} : (jz_m (jZ l dC dI aC H0 G) 119).2.1 = c_119 := rfl
theorem ho_119 {l : Launch} {dC : Nat → ClassId} {dI : Nat → Nat → Nat} {aC : Nat → ClassId} {H0 : Heap} {G : jx_Gv} : (jz_m (jZ l dC dI aC H0 G) 119).1.cls = "PartTextModel" := rfl
set_option maxRecDepth 100000 in
theorem hw_119 {l : Launch} {dC : Nat → ClassId} {dI : Nat → Nat → Nat} {aC : Nat → ClassId} {H0 : Heap} {G : jx_Gv} : Jvm.Cond.code (jz_m (jZ l dC dI aC H0 G) 119).1 (jz_m (jZ l dC dI aC H0 G) 119).2.1 (jz_m (jZ l dC dI aC H0 G) 119).2.2.1 (jz_m (jZ l dC dI aC H0 G) 119).2.2.2 ∈ jz_T (jZ l dC dI aC H0 G) := List.mem_filter.mpr ⟨List.mem_of_getElem? (i := 1183) rfl, rfl⟩
theorem hp_119 {l : Launch} {dC : Nat → ClassId} {dI : Nat → Nat → Nat} {aC : Nat → ClassId} {H0 : Heap} {G : jx_Gv} : plainName (jz_m (jZ l dC dI aC H0 G) 119).1.cls = true := by show plainName "PartTextModel" = true; decide +kernel
theorem hs_119 {l : Launch} {dC : Nat → ClassId} {dI : Nat → Nat → Nat} {aC : Nat → ClassId} {H0 : Heap} {G : jx_Gv} : (jz_m (jZ l dC dI aC H0 G) 119).1.cls ≠ "java/lang/invoke/MethodHandle" ∧ (jz_m (jZ l dC dI aC H0 G) 119).1.cls ≠ "java/lang/invoke/VarHandle" ∧ (parseMethodDescriptor (jz_m (jZ l dC dI aC H0 G) 119).1.desc).map (fun d => d.parameters.length) = some 3 := by show "PartTextModel" ≠ _ ∧ "PartTextModel" ≠ _ ∧ (parseMethodDescriptor "(III)I").map _ = _; decide +kernel
theorem hm_120 {l : Launch} {dC : Nat → ClassId} {dI : Nat → Nat → Nat} {aC : Nat → ClassId} {H0 : Heap} {G : jx_Gv} : (jz_m (jZ l dC dI aC H0 G) 120).2.1 = c_120 := rfl
theorem ho_120 {l : Launch} {dC : Nat → ClassId} {dI : Nat → Nat → Nat} {aC : Nat → ClassId} {H0 : Heap} {G : jx_Gv} : (jz_m (jZ l dC dI aC H0 G) 120).1.cls = "PartText$Edition" := rfl
set_option maxRecDepth 100000 in
theorem hw_120 {l : Launch} {dC : Nat → ClassId} {dI : Nat → Nat → Nat} {aC : Nat → ClassId} {H0 : Heap} {G : jx_Gv} : Jvm.Cond.code (jz_m (jZ l dC dI aC H0 G) 120).1 (jz_m (jZ l dC dI aC H0 G) 120).2.1 (jz_m (jZ l dC dI aC H0 G) 120).2.2.1 (jz_m (jZ l dC dI aC H0 G) 120).2.2.2 ∈ jz_T (jZ l dC dI aC H0 G) := List.mem_filter.mpr ⟨List.mem_of_getElem? (i := 635) rfl, rfl⟩
theorem hp_120 {l : Launch} {dC : Nat → ClassId} {dI : Nat → Nat → Nat} {aC : Nat → ClassId} {H0 : Heap} {G : jx_Gv} : plainName (jz_m (jZ l dC dI aC H0 G) 120).1.cls = true := by show plainName "PartText$Edition" = true; decide +kernel
theorem hs_120 {l : Launch} {dC : Nat → ClassId} {dI : Nat → Nat → Nat} {aC : Nat → ClassId} {H0 : Heap} {G : jx_Gv} : (jz_m (jZ l dC dI aC H0 G) 120).1.cls ≠ "java/lang/invoke/MethodHandle" ∧ (jz_m (jZ l dC dI aC H0 G) 120).1.cls ≠ "java/lang/invoke/VarHandle" ∧ (parseMethodDescriptor (jz_m (jZ l dC dI aC H0 G) 120).1.desc).map (fun d => d.parameters.length) = some 2 := by show "PartText$Edition" ≠ _ ∧ "PartText$Edition" ≠ _ ∧ (parseMethodDescriptor "(II)I").map _ = _; decide +kernel
theorem hm_121 {l : Launch} {dC : Nat → ClassId} {dI : Nat → Nat → Nat} {aC : Nat → ClassId} {H0 : Heap} {G : jx_Gv} : (jz_m (jZ l dC dI aC H0 G) 121).2.1 = c_121 := rfl
theorem ho_121 {l : Launch} {dC : Nat → ClassId} {dI : Nat → Nat → Nat} {aC : Nat → ClassId} {H0 : Heap} {G : jx_Gv} : (jz_m (jZ l dC dI aC H0 G) 121).1.cls = "PartText$Edition" := rfl
set_option maxRecDepth 100000 in
theorem hw_121 {l : Launch} {dC : Nat → ClassId} {dI : Nat → Nat → Nat} {aC : Nat → ClassId} {H0 : Heap} {G : jx_Gv} : Jvm.Cond.code (jz_m (jZ l dC dI aC H0 G) 121).1 (jz_m (jZ l dC dI aC H0 G) 121).2.1 (jz_m (jZ l dC dI aC H0 G) 121).2.2.1 (jz_m (jZ l dC dI aC H0 G) 121).2.2.2 ∈ jz_T (jZ l dC dI aC H0 G) := List.mem_filter.mpr ⟨List.mem_of_getElem? (i := 631) rfl, rfl⟩
theorem hp_121 {l : Launch} {dC : Nat → ClassId} {dI : Nat → Nat → Nat} {aC : Nat → ClassId} {H0 : Heap} {G : jx_Gv} : plainName (jz_m (jZ l dC dI aC H0 G) 121).1.cls = true := by show plainName "PartText$Edition" = true; decide +kernel
theorem hs_121 {l : Launch} {dC : Nat → ClassId} {dI : Nat → Nat → Nat} {aC : Nat → ClassId} {H0 : Heap} {G : jx_Gv} : (jz_m (jZ l dC dI aC H0 G) 121).1.cls ≠ "java/lang/invoke/MethodHandle" ∧ (jz_m (jZ l dC dI aC H0 G) 121).1.cls ≠ "java/lang/invoke/VarHandle" ∧ (parseMethodDescriptor (jz_m (jZ l dC dI aC H0 G) 121).1.desc).map (fun d => d.parameters.length) = some 2 := by show "PartText$Edition" ≠ _ ∧ "PartText$Edition" ≠ _ ∧ (parseMethodDescriptor "(II)I").map _ = _; decide +kernel
theorem hm_122 {l : Launch} {dC : Nat → ClassId} {dI : Nat → Nat → Nat} {aC : Nat → ClassId} {H0 : Heap} {G : jx_Gv} : (jz_m (jZ l dC dI aC H0 G) 122).2.1 = c_122 := rfl
theorem ho_122 {l : Launch} {dC : Nat → ClassId} {dI : Nat → Nat → Nat} {aC : Nat → ClassId} {H0 : Heap} {G : jx_Gv} : (jz_m (jZ l dC dI aC H0 G) 122).1.cls = "PartText$Edition" := rfl
set_option maxRecDepth 100000 in
theorem hw_122 {l : Launch} {dC : Nat → ClassId} {dI : Nat → Nat → Nat} {aC : Nat → ClassId} {H0 : Heap} {G : jx_Gv} : Jvm.Cond.code (jz_m (jZ l dC dI aC H0 G) 122).1 (jz_m (jZ l dC dI aC H0 G) 122).2.1 (jz_m (jZ l dC dI aC H0 G) 122).2.2.1 (jz_m (jZ l dC dI aC H0 G) 122).2.2.2 ∈ jz_T (jZ l dC dI aC H0 G) := List.mem_filter.mpr ⟨List.mem_of_getElem? (i := 642) rfl, rfl⟩
theorem hp_122 {l : Launch} {dC : Nat → ClassId} {dI : Nat → Nat → Nat} {aC : Nat → ClassId} {H0 : Heap} {G : jx_Gv} : plainName (jz_m (jZ l dC dI aC H0 G) 122).1.cls = true := by show plainName "PartText$Edition" = true; decide +kernel
theorem hs_122 {l : Launch} {dC : Nat → ClassId} {dI : Nat → Nat → Nat} {aC : Nat → ClassId} {H0 : Heap} {G : jx_Gv} : (jz_m (jZ l dC dI aC H0 G) 122).1.cls ≠ "java/lang/invoke/MethodHandle" ∧ (jz_m (jZ l dC dI aC H0 G) 122).1.cls ≠ "java/lang/invoke/VarHandle" ∧ (parseMethodDescriptor (jz_m (jZ l dC dI aC H0 G) 122).1.desc).map (fun d => d.parameters.length) = some 1 := by show "PartText$Edition" ≠ _ ∧ "PartText$Edition" ≠ _ ∧ (parseMethodDescriptor "(I)I").map _ = _; decide +kernel
theorem hm_123 {l : Launch} {dC : Nat → ClassId} {dI : Nat → Nat → Nat} {aC : Nat → ClassId} {H0 : Heap} {G : jx_Gv} : (jz_m (jZ l dC dI aC H0 G) 123).2.1 = c_123 := rfl
theorem ho_123 {l : Launch} {dC : Nat → ClassId} {dI : Nat → Nat → Nat} {aC : Nat → ClassId} {H0 : Heap} {G : jx_Gv} : (jz_m (jZ l dC dI aC H0 G) 123).1.cls = "PartText$Edition" := rfl
set_option maxRecDepth 100000 in
theorem hw_123 {l : Launch} {dC : Nat → ClassId} {dI : Nat → Nat → Nat} {aC : Nat → ClassId} {H0 : Heap} {G : jx_Gv} : Jvm.Cond.code (jz_m (jZ l dC dI aC H0 G) 123).1 (jz_m (jZ l dC dI aC H0 G) 123).2.1 (jz_m (jZ l dC dI aC H0 G) 123).2.2.1 (jz_m (jZ l dC dI aC H0 G) 123).2.2.2 ∈ jz_T (jZ l dC dI aC H0 G) := List.mem_filter.mpr ⟨List.mem_of_getElem? (i := 646) rfl, rfl⟩
theorem hp_123 {l : Launch} {dC : Nat → ClassId} {dI : Nat → Nat → Nat} {aC : Nat → ClassId} {H0 : Heap} {G : jx_Gv} : plainName (jz_m (jZ l dC dI aC H0 G) 123).1.cls = true := by show plainName "PartText$Edition" = true; decide +kernel
theorem hs_123 {l : Launch} {dC : Nat → ClassId} {dI : Nat → Nat → Nat} {aC : Nat → ClassId} {H0 : Heap} {G : jx_Gv} : (jz_m (jZ l dC dI aC H0 G) 123).1.cls ≠ "java/lang/invoke/MethodHandle" ∧ (jz_m (jZ l dC dI aC H0 G) 123).1.cls ≠ "java/lang/invoke/VarHandle" ∧ (parseMethodDescriptor (jz_m (jZ l dC dI aC H0 G) 123).1.desc).map (fun d => d.parameters.length) = some 2 := by show "PartText$Edition" ≠ _ ∧ "PartText$Edition" ≠ _ ∧ (parseMethodDescriptor "(II)I").map _ = _; decide +kernel
theorem hm_124 {l : Launch} {dC : Nat → ClassId} {dI : Nat → Nat → Nat} {aC : Nat → ClassId} {H0 : Heap} {G : jx_Gv} : (jz_m (jZ l dC dI aC H0 G) 124).2.1 = c_124 := rfl
theorem ho_124 {l : Launch} {dC : Nat → ClassId} {dI : Nat → Nat → Nat} {aC : Nat → ClassId} {H0 : Heap} {G : jx_Gv} : (jz_m (jZ l dC dI aC H0 G) 124).1.cls = "PartText" := rfl
set_option maxRecDepth 100000 in
theorem hw_124 {l : Launch} {dC : Nat → ClassId} {dI : Nat → Nat → Nat} {aC : Nat → ClassId} {H0 : Heap} {G : jx_Gv} : Jvm.Cond.code (jz_m (jZ l dC dI aC H0 G) 124).1 (jz_m (jZ l dC dI aC H0 G) 124).2.1 (jz_m (jZ l dC dI aC H0 G) 124).2.2.1 (jz_m (jZ l dC dI aC H0 G) 124).2.2.2 ∈ jz_T (jZ l dC dI aC H0 G) := List.mem_filter.mpr ⟨List.mem_of_getElem? (i := 638) rfl, rfl⟩
theorem hp_124 {l : Launch} {dC : Nat → ClassId} {dI : Nat → Nat → Nat} {aC : Nat → ClassId} {H0 : Heap} {G : jx_Gv} : plainName (jz_m (jZ l dC dI aC H0 G) 124).1.cls = true := by show plainName "PartText" = true; decide +kernel
theorem hs_124 {l : Launch} {dC : Nat → ClassId} {dI : Nat → Nat → Nat} {aC : Nat → ClassId} {H0 : Heap} {G : jx_Gv} : (jz_m (jZ l dC dI aC H0 G) 124).1.cls ≠ "java/lang/invoke/MethodHandle" ∧ (jz_m (jZ l dC dI aC H0 G) 124).1.cls ≠ "java/lang/invoke/VarHandle" ∧ (parseMethodDescriptor (jz_m (jZ l dC dI aC H0 G) 124).1.desc).map (fun d => d.parameters.length) = some 2 := by show "PartText" ≠ _ ∧ "PartText" ≠ _ ∧ (parseMethodDescriptor "(LPartText$Edition;I)I").map _ = _; decide +kernel
theorem hm_125 {l : Launch} {dC : Nat → ClassId} {dI : Nat → Nat → Nat} {aC : Nat → ClassId} {H0 : Heap} {G : jx_Gv} : (jz_m (jZ l dC dI aC H0 G) 125).2.1 = c_125 := rfl
theorem ho_125 {l : Launch} {dC : Nat → ClassId} {dI : Nat → Nat → Nat} {aC : Nat → ClassId} {H0 : Heap} {G : jx_Gv} : (jz_m (jZ l dC dI aC H0 G) 125).1.cls = "PartText$Edition" := rfl
set_option maxRecDepth 100000 in
theorem hw_125 {l : Launch} {dC : Nat → ClassId} {dI : Nat → Nat → Nat} {aC : Nat → ClassId} {H0 : Heap} {G : jx_Gv} : Jvm.Cond.code (jz_m (jZ l dC dI aC H0 G) 125).1 (jz_m (jZ l dC dI aC H0 G) 125).2.1 (jz_m (jZ l dC dI aC H0 G) 125).2.2.1 (jz_m (jZ l dC dI aC H0 G) 125).2.2.2 ∈ jz_T (jZ l dC dI aC H0 G) := List.mem_filter.mpr ⟨List.mem_of_getElem? (i := 655) rfl, rfl⟩
theorem hp_125 {l : Launch} {dC : Nat → ClassId} {dI : Nat → Nat → Nat} {aC : Nat → ClassId} {H0 : Heap} {G : jx_Gv} : plainName (jz_m (jZ l dC dI aC H0 G) 125).1.cls = true := by show plainName "PartText$Edition" = true; decide +kernel
theorem hs_125 {l : Launch} {dC : Nat → ClassId} {dI : Nat → Nat → Nat} {aC : Nat → ClassId} {H0 : Heap} {G : jx_Gv} : (jz_m (jZ l dC dI aC H0 G) 125).1.cls ≠ "java/lang/invoke/MethodHandle" ∧ (jz_m (jZ l dC dI aC H0 G) 125).1.cls ≠ "java/lang/invoke/VarHandle" ∧ (parseMethodDescriptor (jz_m (jZ l dC dI aC H0 G) 125).1.desc).map (fun d => d.parameters.length) = some 1 := by show "PartText$Edition" ≠ _ ∧ "PartText$Edition" ≠ _ ∧ (parseMethodDescriptor "(I)I").map _ = _; decide +kernel
theorem hm_126 {l : Launch} {dC : Nat → ClassId} {dI : Nat → Nat → Nat} {aC : Nat → ClassId} {H0 : Heap} {G : jx_Gv} : (jz_m (jZ l dC dI aC H0 G) 126).2.1 = c_126 := rfl
theorem ho_126 {l : Launch} {dC : Nat → ClassId} {dI : Nat → Nat → Nat} {aC : Nat → ClassId} {H0 : Heap} {G : jx_Gv} : (jz_m (jZ l dC dI aC H0 G) 126).1.cls = "PartText$Edition" := rfl
set_option maxRecDepth 100000 in
theorem hw_126 {l : Launch} {dC : Nat → ClassId} {dI : Nat → Nat → Nat} {aC : Nat → ClassId} {H0 : Heap} {G : jx_Gv} : Jvm.Cond.code (jz_m (jZ l dC dI aC H0 G) 126).1 (jz_m (jZ l dC dI aC H0 G) 126).2.1 (jz_m (jZ l dC dI aC H0 G) 126).2.2.1 (jz_m (jZ l dC dI aC H0 G) 126).2.2.2 ∈ jz_T (jZ l dC dI aC H0 G) := List.mem_filter.mpr ⟨List.mem_of_getElem? (i := 651) rfl, rfl⟩
theorem hp_126 {l : Launch} {dC : Nat → ClassId} {dI : Nat → Nat → Nat} {aC : Nat → ClassId} {H0 : Heap} {G : jx_Gv} : plainName (jz_m (jZ l dC dI aC H0 G) 126).1.cls = true := by show plainName "PartText$Edition" = true; decide +kernel
theorem hs_126 {l : Launch} {dC : Nat → ClassId} {dI : Nat → Nat → Nat} {aC : Nat → ClassId} {H0 : Heap} {G : jx_Gv} : (jz_m (jZ l dC dI aC H0 G) 126).1.cls ≠ "java/lang/invoke/MethodHandle" ∧ (jz_m (jZ l dC dI aC H0 G) 126).1.cls ≠ "java/lang/invoke/VarHandle" ∧ (parseMethodDescriptor (jz_m (jZ l dC dI aC H0 G) 126).1.desc).map (fun d => d.parameters.length) = some 2 := by show "PartText$Edition" ≠ _ ∧ "PartText$Edition" ≠ _ ∧ (parseMethodDescriptor "(II)I").map _ = _; decide +kernel
theorem hm_127 {l : Launch} {dC : Nat → ClassId} {dI : Nat → Nat → Nat} {aC : Nat → ClassId} {H0 : Heap} {G : jx_Gv} : (jz_m (jZ l dC dI aC H0 G) 127).2.1 = c_127 := rfl
theorem ho_127 {l : Launch} {dC : Nat → ClassId} {dI : Nat → Nat → Nat} {aC : Nat → ClassId} {H0 : Heap} {G : jx_Gv} : (jz_m (jZ l dC dI aC H0 G) 127).1.cls = "PartText" := rfl
set_option maxRecDepth 100000 in
theorem hw_127 {l : Launch} {dC : Nat → ClassId} {dI : Nat → Nat → Nat} {aC : Nat → ClassId} {H0 : Heap} {G : jx_Gv} : Jvm.Cond.code (jz_m (jZ l dC dI aC H0 G) 127).1 (jz_m (jZ l dC dI aC H0 G) 127).2.1 (jz_m (jZ l dC dI aC H0 G) 127).2.2.1 (jz_m (jZ l dC dI aC H0 G) 127).2.2.2 ∈ jz_T (jZ l dC dI aC H0 G) := List.mem_filter.mpr ⟨List.mem_of_getElem? (i := 627) rfl, rfl⟩
theorem hp_127 {l : Launch} {dC : Nat → ClassId} {dI : Nat → Nat → Nat} {aC : Nat → ClassId} {H0 : Heap} {G : jx_Gv} : plainName (jz_m (jZ l dC dI aC H0 G) 127).1.cls = true := by show plainName "PartText" = true; decide +kernel
theorem hs_127 {l : Launch} {dC : Nat → ClassId} {dI : Nat → Nat → Nat} {aC : Nat → ClassId} {H0 : Heap} {G : jx_Gv} : (jz_m (jZ l dC dI aC H0 G) 127).1.cls ≠ "java/lang/invoke/MethodHandle" ∧ (jz_m (jZ l dC dI aC H0 G) 127).1.cls ≠ "java/lang/invoke/VarHandle" ∧ (parseMethodDescriptor (jz_m (jZ l dC dI aC H0 G) 127).1.desc).map (fun d => d.parameters.length) = some 3 := by show "PartText" ≠ _ ∧ "PartText" ≠ _ ∧ (parseMethodDescriptor "(III)I").map _ = _; decide +kernel
theorem hm_128 {l : Launch} {dC : Nat → ClassId} {dI : Nat → Nat → Nat} {aC : Nat → ClassId} {H0 : Heap} {G : jx_Gv} : (jz_m (jZ l dC dI aC H0 G) 128).2.1 = c_128 := rfl
theorem ho_128 {l : Launch} {dC : Nat → ClassId} {dI : Nat → Nat → Nat} {aC : Nat → ClassId} {H0 : Heap} {G : jx_Gv} : (jz_m (jZ l dC dI aC H0 G) 128).1.cls = "PartTextModel" := rfl
set_option maxRecDepth 100000 in
theorem hw_128 {l : Launch} {dC : Nat → ClassId} {dI : Nat → Nat → Nat} {aC : Nat → ClassId} {H0 : Heap} {G : jx_Gv} : Jvm.Cond.code (jz_m (jZ l dC dI aC H0 G) 128).1 (jz_m (jZ l dC dI aC H0 G) 128).2.1 (jz_m (jZ l dC dI aC H0 G) 128).2.2.1 (jz_m (jZ l dC dI aC H0 G) 128).2.2.2 ∈ jz_T (jZ l dC dI aC H0 G) := List.mem_filter.mpr ⟨List.mem_of_getElem? (i := 1203) rfl, rfl⟩
theorem hp_128 {l : Launch} {dC : Nat → ClassId} {dI : Nat → Nat → Nat} {aC : Nat → ClassId} {H0 : Heap} {G : jx_Gv} : plainName (jz_m (jZ l dC dI aC H0 G) 128).1.cls = true := by show plainName "PartTextModel" = true; decide +kernel
theorem hs_128 {l : Launch} {dC : Nat → ClassId} {dI : Nat → Nat → Nat} {aC : Nat → ClassId} {H0 : Heap} {G : jx_Gv} : (jz_m (jZ l dC dI aC H0 G) 128).1.cls ≠ "java/lang/invoke/MethodHandle" ∧ (jz_m (jZ l dC dI aC H0 G) 128).1.cls ≠ "java/lang/invoke/VarHandle" ∧ (parseMethodDescriptor (jz_m (jZ l dC dI aC H0 G) 128).1.desc).map (fun d => d.parameters.length) = some 2 := by show "PartTextModel" ≠ _ ∧ "PartTextModel" ≠ _ ∧ (parseMethodDescriptor "(II)I").map _ = _; decide +kernel
theorem hm_129 {l : Launch} {dC : Nat → ClassId} {dI : Nat → Nat → Nat} {aC : Nat → ClassId} {H0 : Heap} {G : jx_Gv} : (jz_m (jZ l dC dI aC H0 G) 129).2.1 = c_129 := rfl
theorem ho_129 {l : Launch} {dC : Nat → ClassId} {dI : Nat → Nat → Nat} {aC : Nat → ClassId} {H0 : Heap} {G : jx_Gv} : (jz_m (jZ l dC dI aC H0 G) 129).1.cls = "PartTextModel" := rfl
set_option maxRecDepth 100000 in
theorem hw_129 {l : Launch} {dC : Nat → ClassId} {dI : Nat → Nat → Nat} {aC : Nat → ClassId} {H0 : Heap} {G : jx_Gv} : Jvm.Cond.code (jz_m (jZ l dC dI aC H0 G) 129).1 (jz_m (jZ l dC dI aC H0 G) 129).2.1 (jz_m (jZ l dC dI aC H0 G) 129).2.2.1 (jz_m (jZ l dC dI aC H0 G) 129).2.2.2 ∈ jz_T (jZ l dC dI aC H0 G) := List.mem_filter.mpr ⟨List.mem_of_getElem? (i := 1207) rfl, rfl⟩
theorem hp_129 {l : Launch} {dC : Nat → ClassId} {dI : Nat → Nat → Nat} {aC : Nat → ClassId} {H0 : Heap} {G : jx_Gv} : plainName (jz_m (jZ l dC dI aC H0 G) 129).1.cls = true := by show plainName "PartTextModel" = true; decide +kernel
theorem hs_129 {l : Launch} {dC : Nat → ClassId} {dI : Nat → Nat → Nat} {aC : Nat → ClassId} {H0 : Heap} {G : jx_Gv} : (jz_m (jZ l dC dI aC H0 G) 129).1.cls ≠ "java/lang/invoke/MethodHandle" ∧ (jz_m (jZ l dC dI aC H0 G) 129).1.cls ≠ "java/lang/invoke/VarHandle" ∧ (parseMethodDescriptor (jz_m (jZ l dC dI aC H0 G) 129).1.desc).map (fun d => d.parameters.length) = some 2 := by show "PartTextModel" ≠ _ ∧ "PartTextModel" ≠ _ ∧ (parseMethodDescriptor "(II)I").map _ = _; decide +kernel
theorem hm_130 {l : Launch} {dC : Nat → ClassId} {dI : Nat → Nat → Nat} {aC : Nat → ClassId} {H0 : Heap} {G : jx_Gv} : (jz_m (jZ l dC dI aC H0 G) 130).2.1 = c_130 := rfl
theorem ho_130 {l : Launch} {dC : Nat → ClassId} {dI : Nat → Nat → Nat} {aC : Nat → ClassId} {H0 : Heap} {G : jx_Gv} : (jz_m (jZ l dC dI aC H0 G) 130).1.cls = "PartTextModel" := rfl
set_option maxRecDepth 100000 in
theorem hw_130 {l : Launch} {dC : Nat → ClassId} {dI : Nat → Nat → Nat} {aC : Nat → ClassId} {H0 : Heap} {G : jx_Gv} : Jvm.Cond.code (jz_m (jZ l dC dI aC H0 G) 130).1 (jz_m (jZ l dC dI aC H0 G) 130).2.1 (jz_m (jZ l dC dI aC H0 G) 130).2.2.1 (jz_m (jZ l dC dI aC H0 G) 130).2.2.2 ∈ jz_T (jZ l dC dI aC H0 G) := List.mem_filter.mpr ⟨List.mem_of_getElem? (i := 1199) rfl, rfl⟩
theorem hp_130 {l : Launch} {dC : Nat → ClassId} {dI : Nat → Nat → Nat} {aC : Nat → ClassId} {H0 : Heap} {G : jx_Gv} : plainName (jz_m (jZ l dC dI aC H0 G) 130).1.cls = true := by show plainName "PartTextModel" = true; decide +kernel
theorem hs_130 {l : Launch} {dC : Nat → ClassId} {dI : Nat → Nat → Nat} {aC : Nat → ClassId} {H0 : Heap} {G : jx_Gv} : (jz_m (jZ l dC dI aC H0 G) 130).1.cls ≠ "java/lang/invoke/MethodHandle" ∧ (jz_m (jZ l dC dI aC H0 G) 130).1.cls ≠ "java/lang/invoke/VarHandle" ∧ (parseMethodDescriptor (jz_m (jZ l dC dI aC H0 G) 130).1.desc).map (fun d => d.parameters.length) = some 3 := by show "PartTextModel" ≠ _ ∧ "PartTextModel" ≠ _ ∧ (parseMethodDescriptor "(III)I").map _ = _; decide +kernel
theorem hm_131 {l : Launch} {dC : Nat → ClassId} {dI : Nat → Nat → Nat} {aC : Nat → ClassId} {H0 : Heap} {G : jx_Gv} : (jz_m (jZ l dC dI aC H0 G) 131).2.1 = c_131 := rfl
theorem ho_131 {l : Launch} {dC : Nat → ClassId} {dI : Nat → Nat → Nat} {aC : Nat → ClassId} {H0 : Heap} {G : jx_Gv} : (jz_m (jZ l dC dI aC H0 G) 131).1.cls = "PartText$Edition" := rfl
set_option maxRecDepth 100000 in
theorem hw_131 {l : Launch} {dC : Nat → ClassId} {dI : Nat → Nat → Nat} {aC : Nat → ClassId} {H0 : Heap} {G : jx_Gv} : Jvm.Cond.code (jz_m (jZ l dC dI aC H0 G) 131).1 (jz_m (jZ l dC dI aC H0 G) 131).2.1 (jz_m (jZ l dC dI aC H0 G) 131).2.2.1 (jz_m (jZ l dC dI aC H0 G) 131).2.2.2 ∈ jz_T (jZ l dC dI aC H0 G) := List.mem_filter.mpr ⟨List.mem_of_getElem? (i := 667) rfl, rfl⟩
theorem hp_131 {l : Launch} {dC : Nat → ClassId} {dI : Nat → Nat → Nat} {aC : Nat → ClassId} {H0 : Heap} {G : jx_Gv} : plainName (jz_m (jZ l dC dI aC H0 G) 131).1.cls = true := by show plainName "PartText$Edition" = true; decide +kernel
theorem hs_131 {l : Launch} {dC : Nat → ClassId} {dI : Nat → Nat → Nat} {aC : Nat → ClassId} {H0 : Heap} {G : jx_Gv} : (jz_m (jZ l dC dI aC H0 G) 131).1.cls ≠ "java/lang/invoke/MethodHandle" ∧ (jz_m (jZ l dC dI aC H0 G) 131).1.cls ≠ "java/lang/invoke/VarHandle" ∧ (parseMethodDescriptor (jz_m (jZ l dC dI aC H0 G) 131).1.desc).map (fun d => d.parameters.length) = some 2 := by show "PartText$Edition" ≠ _ ∧ "PartText$Edition" ≠ _ ∧ (parseMethodDescriptor "(II)I").map _ = _; decide +kernel
theorem hm_132 {l : Launch} {dC : Nat → ClassId} {dI : Nat → Nat → Nat} {aC : Nat → ClassId} {H0 : Heap} {G : jx_Gv} : (jz_m (jZ l dC dI aC H0 G) 132).2.1 = c_132 := rfl
theorem ho_132 {l : Launch} {dC : Nat → ClassId} {dI : Nat → Nat → Nat} {aC : Nat → ClassId} {H0 : Heap} {G : jx_Gv} : (jz_m (jZ l dC dI aC H0 G) 132).1.cls = "PartText" := rfl
set_option maxRecDepth 100000 in
theorem hw_132 {l : Launch} {dC : Nat → ClassId} {dI : Nat → Nat → Nat} {aC : Nat → ClassId} {H0 : Heap} {G : jx_Gv} : Jvm.Cond.code (jz_m (jZ l dC dI aC H0 G) 132).1 (jz_m (jZ l dC dI aC H0 G) 132).2.1 (jz_m (jZ l dC dI aC H0 G) 132).2.2.1 (jz_m (jZ l dC dI aC H0 G) 132).2.2.2 ∈ jz_T (jZ l dC dI aC H0 G) := List.mem_filter.mpr ⟨List.mem_of_getElem? (i := 663) rfl, rfl⟩
theorem hp_132 {l : Launch} {dC : Nat → ClassId} {dI : Nat → Nat → Nat} {aC : Nat → ClassId} {H0 : Heap} {G : jx_Gv} : plainName (jz_m (jZ l dC dI aC H0 G) 132).1.cls = true := by show plainName "PartText" = true; decide +kernel
theorem hs_132 {l : Launch} {dC : Nat → ClassId} {dI : Nat → Nat → Nat} {aC : Nat → ClassId} {H0 : Heap} {G : jx_Gv} : (jz_m (jZ l dC dI aC H0 G) 132).1.cls ≠ "java/lang/invoke/MethodHandle" ∧ (jz_m (jZ l dC dI aC H0 G) 132).1.cls ≠ "java/lang/invoke/VarHandle" ∧ (parseMethodDescriptor (jz_m (jZ l dC dI aC H0 G) 132).1.desc).map (fun d => d.parameters.length) = some 3 := by show "PartText" ≠ _ ∧ "PartText" ≠ _ ∧ (parseMethodDescriptor "(LPartText$Edition;II)I").map _ = _; decide +kernel
theorem hm_133 {l : Launch} {dC : Nat → ClassId} {dI : Nat → Nat → Nat} {aC : Nat → ClassId} {H0 : Heap} {G : jx_Gv} : (jz_m (jZ l dC dI aC H0 G) 133).2.1 = c_133 := rfl
theorem ho_133 {l : Launch} {dC : Nat → ClassId} {dI : Nat → Nat → Nat} {aC : Nat → ClassId} {H0 : Heap} {G : jx_Gv} : (jz_m (jZ l dC dI aC H0 G) 133).1.cls = "PartText$Edition" := rfl
set_option maxRecDepth 100000 in
theorem hw_133 {l : Launch} {dC : Nat → ClassId} {dI : Nat → Nat → Nat} {aC : Nat → ClassId} {H0 : Heap} {G : jx_Gv} : Jvm.Cond.code (jz_m (jZ l dC dI aC H0 G) 133).1 (jz_m (jZ l dC dI aC H0 G) 133).2.1 (jz_m (jZ l dC dI aC H0 G) 133).2.2.1 (jz_m (jZ l dC dI aC H0 G) 133).2.2.2 ∈ jz_T (jZ l dC dI aC H0 G) := List.mem_filter.mpr ⟨List.mem_of_getElem? (i := 674) rfl, rfl⟩
theorem hp_133 {l : Launch} {dC : Nat → ClassId} {dI : Nat → Nat → Nat} {aC : Nat → ClassId} {H0 : Heap} {G : jx_Gv} : plainName (jz_m (jZ l dC dI aC H0 G) 133).1.cls = true := by show plainName "PartText$Edition" = true; decide +kernel
theorem hs_133 {l : Launch} {dC : Nat → ClassId} {dI : Nat → Nat → Nat} {aC : Nat → ClassId} {H0 : Heap} {G : jx_Gv} : (jz_m (jZ l dC dI aC H0 G) 133).1.cls ≠ "java/lang/invoke/MethodHandle" ∧ (jz_m (jZ l dC dI aC H0 G) 133).1.cls ≠ "java/lang/invoke/VarHandle" ∧ (parseMethodDescriptor (jz_m (jZ l dC dI aC H0 G) 133).1.desc).map (fun d => d.parameters.length) = some 3 := by show "PartText$Edition" ≠ _ ∧ "PartText$Edition" ≠ _ ∧ (parseMethodDescriptor "(III)I").map _ = _; decide +kernel
theorem hm_134 {l : Launch} {dC : Nat → ClassId} {dI : Nat → Nat → Nat} {aC : Nat → ClassId} {H0 : Heap} {G : jx_Gv} : (jz_m (jZ l dC dI aC H0 G) 134).2.1 = c_134 := rfl
theorem ho_134 {l : Launch} {dC : Nat → ClassId} {dI : Nat → Nat → Nat} {aC : Nat → ClassId} {H0 : Heap} {G : jx_Gv} : (jz_m (jZ l dC dI aC H0 G) 134).1.cls = "PartText" := rfl
set_option maxRecDepth 100000 in
theorem hw_134 {l : Launch} {dC : Nat → ClassId} {dI : Nat → Nat → Nat} {aC : Nat → ClassId} {H0 : Heap} {G : jx_Gv} : Jvm.Cond.code (jz_m (jZ l dC dI aC H0 G) 134).1 (jz_m (jZ l dC dI aC H0 G) 134).2.1 (jz_m (jZ l dC dI aC H0 G) 134).2.2.1 (jz_m (jZ l dC dI aC H0 G) 134).2.2.2 ∈ jz_T (jZ l dC dI aC H0 G) := List.mem_filter.mpr ⟨List.mem_of_getElem? (i := 670) rfl, rfl⟩
theorem hp_134 {l : Launch} {dC : Nat → ClassId} {dI : Nat → Nat → Nat} {aC : Nat → ClassId} {H0 : Heap} {G : jx_Gv} : plainName (jz_m (jZ l dC dI aC H0 G) 134).1.cls = true := by show plainName "PartText" = true; decide +kernel
theorem hs_134 {l : Launch} {dC : Nat → ClassId} {dI : Nat → Nat → Nat} {aC : Nat → ClassId} {H0 : Heap} {G : jx_Gv} : (jz_m (jZ l dC dI aC H0 G) 134).1.cls ≠ "java/lang/invoke/MethodHandle" ∧ (jz_m (jZ l dC dI aC H0 G) 134).1.cls ≠ "java/lang/invoke/VarHandle" ∧ (parseMethodDescriptor (jz_m (jZ l dC dI aC H0 G) 134).1.desc).map (fun d => d.parameters.length) = some 3 := by show "PartText" ≠ _ ∧ "PartText" ≠ _ ∧ (parseMethodDescriptor "(LPartText$Edition;II)I").map _ = _; decide +kernel
theorem hm_135 {l : Launch} {dC : Nat → ClassId} {dI : Nat → Nat → Nat} {aC : Nat → ClassId} {H0 : Heap} {G : jx_Gv} : (jz_m (jZ l dC dI aC H0 G) 135).2.1 = c_135 := rfl
theorem ho_135 {l : Launch} {dC : Nat → ClassId} {dI : Nat → Nat → Nat} {aC : Nat → ClassId} {H0 : Heap} {G : jx_Gv} : (jz_m (jZ l dC dI aC H0 G) 135).1.cls = "PartText" := rfl
set_option maxRecDepth 100000 in
theorem hw_135 {l : Launch} {dC : Nat → ClassId} {dI : Nat → Nat → Nat} {aC : Nat → ClassId} {H0 : Heap} {G : jx_Gv} : Jvm.Cond.code (jz_m (jZ l dC dI aC H0 G) 135).1 (jz_m (jZ l dC dI aC H0 G) 135).2.1 (jz_m (jZ l dC dI aC H0 G) 135).2.2.1 (jz_m (jZ l dC dI aC H0 G) 135).2.2.2 ∈ jz_T (jZ l dC dI aC H0 G) := List.mem_filter.mpr ⟨List.mem_of_getElem? (i := 660) rfl, rfl⟩
theorem hp_135 {l : Launch} {dC : Nat → ClassId} {dI : Nat → Nat → Nat} {aC : Nat → ClassId} {H0 : Heap} {G : jx_Gv} : plainName (jz_m (jZ l dC dI aC H0 G) 135).1.cls = true := by show plainName "PartText" = true; decide +kernel
theorem hs_135 {l : Launch} {dC : Nat → ClassId} {dI : Nat → Nat → Nat} {aC : Nat → ClassId} {H0 : Heap} {G : jx_Gv} : (jz_m (jZ l dC dI aC H0 G) 135).1.cls ≠ "java/lang/invoke/MethodHandle" ∧ (jz_m (jZ l dC dI aC H0 G) 135).1.cls ≠ "java/lang/invoke/VarHandle" ∧ (parseMethodDescriptor (jz_m (jZ l dC dI aC H0 G) 135).1.desc).map (fun d => d.parameters.length) = some 2 := by show "PartText" ≠ _ ∧ "PartText" ≠ _ ∧ (parseMethodDescriptor "(II)I").map _ = _; decide +kernel
theorem hm_136 {l : Launch} {dC : Nat → ClassId} {dI : Nat → Nat → Nat} {aC : Nat → ClassId} {H0 : Heap} {G : jx_Gv} : (jz_m (jZ l dC dI aC H0 G) 136).2.1 = c_136 := rfl
theorem ho_136 {l : Launch} {dC : Nat → ClassId} {dI : Nat → Nat → Nat} {aC : Nat → ClassId} {H0 : Heap} {G : jx_Gv} : (jz_m (jZ l dC dI aC H0 G) 136).1.cls = "PartTextModel" := rfl
set_option maxRecDepth 100000 in
theorem hw_136 {l : Launch} {dC : Nat → ClassId} {dI : Nat → Nat → Nat} {aC : Nat → ClassId} {H0 : Heap} {G : jx_Gv} : Jvm.Cond.code (jz_m (jZ l dC dI aC H0 G) 136).1 (jz_m (jZ l dC dI aC H0 G) 136).2.1 (jz_m (jZ l dC dI aC H0 G) 136).2.2.1 (jz_m (jZ l dC dI aC H0 G) 136).2.2.2 ∈ jz_T (jZ l dC dI aC H0 G) := List.mem_filter.mpr ⟨List.mem_of_getElem? (i := 1215) rfl, rfl⟩
theorem hp_136 {l : Launch} {dC : Nat → ClassId} {dI : Nat → Nat → Nat} {aC : Nat → ClassId} {H0 : Heap} {G : jx_Gv} : plainName (jz_m (jZ l dC dI aC H0 G) 136).1.cls = true := by show plainName "PartTextModel" = true; decide +kernel
theorem hs_136 {l : Launch} {dC : Nat → ClassId} {dI : Nat → Nat → Nat} {aC : Nat → ClassId} {H0 : Heap} {G : jx_Gv} : (jz_m (jZ l dC dI aC H0 G) 136).1.cls ≠ "java/lang/invoke/MethodHandle" ∧ (jz_m (jZ l dC dI aC H0 G) 136).1.cls ≠ "java/lang/invoke/VarHandle" ∧ (parseMethodDescriptor (jz_m (jZ l dC dI aC H0 G) 136).1.desc).map (fun d => d.parameters.length) = some 1 := by show "PartTextModel" ≠ _ ∧ "PartTextModel" ≠ _ ∧ (parseMethodDescriptor "(I)I").map _ = _; decide +kernel
theorem hm_137 {l : Launch} {dC : Nat → ClassId} {dI : Nat → Nat → Nat} {aC : Nat → ClassId} {H0 : Heap} {G : jx_Gv} : (jz_m (jZ l dC dI aC H0 G) 137).2.1 = c_137 := rfl
theorem ho_137 {l : Launch} {dC : Nat → ClassId} {dI : Nat → Nat → Nat} {aC : Nat → ClassId} {H0 : Heap} {G : jx_Gv} : (jz_m (jZ l dC dI aC H0 G) 137).1.cls = "PartTextModel" := rfl
set_option maxRecDepth 100000 in
theorem hw_137 {l : Launch} {dC : Nat → ClassId} {dI : Nat → Nat → Nat} {aC : Nat → ClassId} {H0 : Heap} {G : jx_Gv} : Jvm.Cond.code (jz_m (jZ l dC dI aC H0 G) 137).1 (jz_m (jZ l dC dI aC H0 G) 137).2.1 (jz_m (jZ l dC dI aC H0 G) 137).2.2.1 (jz_m (jZ l dC dI aC H0 G) 137).2.2.2 ∈ jz_T (jZ l dC dI aC H0 G) := List.mem_filter.mpr ⟨List.mem_of_getElem? (i := 1211) rfl, rfl⟩
theorem hp_137 {l : Launch} {dC : Nat → ClassId} {dI : Nat → Nat → Nat} {aC : Nat → ClassId} {H0 : Heap} {G : jx_Gv} : plainName (jz_m (jZ l dC dI aC H0 G) 137).1.cls = true := by show plainName "PartTextModel" = true; decide +kernel
theorem hs_137 {l : Launch} {dC : Nat → ClassId} {dI : Nat → Nat → Nat} {aC : Nat → ClassId} {H0 : Heap} {G : jx_Gv} : (jz_m (jZ l dC dI aC H0 G) 137).1.cls ≠ "java/lang/invoke/MethodHandle" ∧ (jz_m (jZ l dC dI aC H0 G) 137).1.cls ≠ "java/lang/invoke/VarHandle" ∧ (parseMethodDescriptor (jz_m (jZ l dC dI aC H0 G) 137).1.desc).map (fun d => d.parameters.length) = some 2 := by show "PartTextModel" ≠ _ ∧ "PartTextModel" ≠ _ ∧ (parseMethodDescriptor "(II)I").map _ = _; decide +kernel
theorem hm_138 {l : Launch} {dC : Nat → ClassId} {dI : Nat → Nat → Nat} {aC : Nat → ClassId} {H0 : Heap} {G : jx_Gv} : (jz_m (jZ l dC dI aC H0 G) 138).2.1 = c_138 := rfl
theorem ho_138 {l : Launch} {dC : Nat → ClassId} {dI : Nat → Nat → Nat} {aC : Nat → ClassId} {H0 : Heap} {G : jx_Gv} : (jz_m (jZ l dC dI aC H0 G) 138).1.cls = "PartText$Rules" := rfl
set_option maxRecDepth 100000 in
theorem hw_138 {l : Launch} {dC : Nat → ClassId} {dI : Nat → Nat → Nat} {aC : Nat → ClassId} {H0 : Heap} {G : jx_Gv} : Jvm.Cond.code (jz_m (jZ l dC dI aC H0 G) 138).1 (jz_m (jZ l dC dI aC H0 G) 138).2.1 (jz_m (jZ l dC dI aC H0 G) 138).2.2.1 (jz_m (jZ l dC dI aC H0 G) 138).2.2.2 ∈ jz_T (jZ l dC dI aC H0 G) := List.mem_filter.mpr ⟨List.mem_of_getElem? (i := 691) rfl, rfl⟩
theorem hp_138 {l : Launch} {dC : Nat → ClassId} {dI : Nat → Nat → Nat} {aC : Nat → ClassId} {H0 : Heap} {G : jx_Gv} : plainName (jz_m (jZ l dC dI aC H0 G) 138).1.cls = true := by show plainName "PartText$Rules" = true; decide +kernel
theorem hs_138 {l : Launch} {dC : Nat → ClassId} {dI : Nat → Nat → Nat} {aC : Nat → ClassId} {H0 : Heap} {G : jx_Gv} : (jz_m (jZ l dC dI aC H0 G) 138).1.cls ≠ "java/lang/invoke/MethodHandle" ∧ (jz_m (jZ l dC dI aC H0 G) 138).1.cls ≠ "java/lang/invoke/VarHandle" ∧ (parseMethodDescriptor (jz_m (jZ l dC dI aC H0 G) 138).1.desc).map (fun d => d.parameters.length) = some 2 := by show "PartText$Rules" ≠ _ ∧ "PartText$Rules" ≠ _ ∧ (parseMethodDescriptor "(LPartText$Edition;I)Z").map _ = _; decide +kernel
theorem hm_139 {l : Launch} {dC : Nat → ClassId} {dI : Nat → Nat → Nat} {aC : Nat → ClassId} {H0 : Heap} {G : jx_Gv} : (jz_m (jZ l dC dI aC H0 G) 139).2.1 = c_139 := rfl
theorem ho_139 {l : Launch} {dC : Nat → ClassId} {dI : Nat → Nat → Nat} {aC : Nat → ClassId} {H0 : Heap} {G : jx_Gv} : (jz_m (jZ l dC dI aC H0 G) 139).1.cls = "PartText$Rules" := rfl
set_option maxRecDepth 100000 in
theorem hw_139 {l : Launch} {dC : Nat → ClassId} {dI : Nat → Nat → Nat} {aC : Nat → ClassId} {H0 : Heap} {G : jx_Gv} : Jvm.Cond.code (jz_m (jZ l dC dI aC H0 G) 139).1 (jz_m (jZ l dC dI aC H0 G) 139).2.1 (jz_m (jZ l dC dI aC H0 G) 139).2.2.1 (jz_m (jZ l dC dI aC H0 G) 139).2.2.2 ∈ jz_T (jZ l dC dI aC H0 G) := List.mem_filter.mpr ⟨List.mem_of_getElem? (i := 700) rfl, rfl⟩
theorem hp_139 {l : Launch} {dC : Nat → ClassId} {dI : Nat → Nat → Nat} {aC : Nat → ClassId} {H0 : Heap} {G : jx_Gv} : plainName (jz_m (jZ l dC dI aC H0 G) 139).1.cls = true := by show plainName "PartText$Rules" = true; decide +kernel
theorem hs_139 {l : Launch} {dC : Nat → ClassId} {dI : Nat → Nat → Nat} {aC : Nat → ClassId} {H0 : Heap} {G : jx_Gv} : (jz_m (jZ l dC dI aC H0 G) 139).1.cls ≠ "java/lang/invoke/MethodHandle" ∧ (jz_m (jZ l dC dI aC H0 G) 139).1.cls ≠ "java/lang/invoke/VarHandle" ∧ (parseMethodDescriptor (jz_m (jZ l dC dI aC H0 G) 139).1.desc).map (fun d => d.parameters.length) = some 2 := by show "PartText$Rules" ≠ _ ∧ "PartText$Rules" ≠ _ ∧ (parseMethodDescriptor "(LPartText$Edition;I)I").map _ = _; decide +kernel
theorem hm_140 {l : Launch} {dC : Nat → ClassId} {dI : Nat → Nat → Nat} {aC : Nat → ClassId} {H0 : Heap} {G : jx_Gv} : (jz_m (jZ l dC dI aC H0 G) 140).2.1 = c_140 := rfl
theorem ho_140 {l : Launch} {dC : Nat → ClassId} {dI : Nat → Nat → Nat} {aC : Nat → ClassId} {H0 : Heap} {G : jx_Gv} : (jz_m (jZ l dC dI aC H0 G) 140).1.cls = "PartText$Rules" := rfl
set_option maxRecDepth 100000 in
theorem hw_140 {l : Launch} {dC : Nat → ClassId} {dI : Nat → Nat → Nat} {aC : Nat → ClassId} {H0 : Heap} {G : jx_Gv} : Jvm.Cond.code (jz_m (jZ l dC dI aC H0 G) 140).1 (jz_m (jZ l dC dI aC H0 G) 140).2.1 (jz_m (jZ l dC dI aC H0 G) 140).2.2.1 (jz_m (jZ l dC dI aC H0 G) 140).2.2.2 ∈ jz_T (jZ l dC dI aC H0 G) := List.mem_filter.mpr ⟨List.mem_of_getElem? (i := 710) rfl, rfl⟩
theorem hp_140 {l : Launch} {dC : Nat → ClassId} {dI : Nat → Nat → Nat} {aC : Nat → ClassId} {H0 : Heap} {G : jx_Gv} : plainName (jz_m (jZ l dC dI aC H0 G) 140).1.cls = true := by show plainName "PartText$Rules" = true; decide +kernel
theorem hs_140 {l : Launch} {dC : Nat → ClassId} {dI : Nat → Nat → Nat} {aC : Nat → ClassId} {H0 : Heap} {G : jx_Gv} : (jz_m (jZ l dC dI aC H0 G) 140).1.cls ≠ "java/lang/invoke/MethodHandle" ∧ (jz_m (jZ l dC dI aC H0 G) 140).1.cls ≠ "java/lang/invoke/VarHandle" ∧ (parseMethodDescriptor (jz_m (jZ l dC dI aC H0 G) 140).1.desc).map (fun d => d.parameters.length) = some 3 := by show "PartText$Rules" ≠ _ ∧ "PartText$Rules" ≠ _ ∧ (parseMethodDescriptor "(LPartText$Edition;II)Z").map _ = _; decide +kernel
theorem hm_141 {l : Launch} {dC : Nat → ClassId} {dI : Nat → Nat → Nat} {aC : Nat → ClassId} {H0 : Heap} {G : jx_Gv} : (jz_m (jZ l dC dI aC H0 G) 141).2.1 = c_141 := rfl
theorem ho_141 {l : Launch} {dC : Nat → ClassId} {dI : Nat → Nat → Nat} {aC : Nat → ClassId} {H0 : Heap} {G : jx_Gv} : (jz_m (jZ l dC dI aC H0 G) 141).1.cls = "PartText$Rules" := rfl
set_option maxRecDepth 100000 in
theorem hw_141 {l : Launch} {dC : Nat → ClassId} {dI : Nat → Nat → Nat} {aC : Nat → ClassId} {H0 : Heap} {G : jx_Gv} : Jvm.Cond.code (jz_m (jZ l dC dI aC H0 G) 141).1 (jz_m (jZ l dC dI aC H0 G) 141).2.1 (jz_m (jZ l dC dI aC H0 G) 141).2.2.1 (jz_m (jZ l dC dI aC H0 G) 141).2.2.2 ∈ jz_T (jZ l dC dI aC H0 G) := List.mem_filter.mpr ⟨List.mem_of_getElem? (i := 704) rfl, rfl⟩
theorem hp_141 {l : Launch} {dC : Nat → ClassId} {dI : Nat → Nat → Nat} {aC : Nat → ClassId} {H0 : Heap} {G : jx_Gv} : plainName (jz_m (jZ l dC dI aC H0 G) 141).1.cls = true := by show plainName "PartText$Rules" = true; decide +kernel
theorem hs_141 {l : Launch} {dC : Nat → ClassId} {dI : Nat → Nat → Nat} {aC : Nat → ClassId} {H0 : Heap} {G : jx_Gv} : (jz_m (jZ l dC dI aC H0 G) 141).1.cls ≠ "java/lang/invoke/MethodHandle" ∧ (jz_m (jZ l dC dI aC H0 G) 141).1.cls ≠ "java/lang/invoke/VarHandle" ∧ (parseMethodDescriptor (jz_m (jZ l dC dI aC H0 G) 141).1.desc).map (fun d => d.parameters.length) = some 2 := by show "PartText$Rules" ≠ _ ∧ "PartText$Rules" ≠ _ ∧ (parseMethodDescriptor "(LPartText$Edition;I)I").map _ = _; decide +kernel
theorem hm_142 {l : Launch} {dC : Nat → ClassId} {dI : Nat → Nat → Nat} {aC : Nat → ClassId} {H0 : Heap} {G : jx_Gv} : (jz_m (jZ l dC dI aC H0 G) 142).2.1 = c_142 := rfl
theorem ho_142 {l : Launch} {dC : Nat → ClassId} {dI : Nat → Nat → Nat} {aC : Nat → ClassId} {H0 : Heap} {G : jx_Gv} : (jz_m (jZ l dC dI aC H0 G) 142).1.cls = "PartText$Rules" := rfl
set_option maxRecDepth 100000 in
theorem hw_142 {l : Launch} {dC : Nat → ClassId} {dI : Nat → Nat → Nat} {aC : Nat → ClassId} {H0 : Heap} {G : jx_Gv} : Jvm.Cond.code (jz_m (jZ l dC dI aC H0 G) 142).1 (jz_m (jZ l dC dI aC H0 G) 142).2.1 (jz_m (jZ l dC dI aC H0 G) 142).2.2.1 (jz_m (jZ l dC dI aC H0 G) 142).2.2.2 ∈ jz_T (jZ l dC dI aC H0 G) := List.mem_filter.mpr ⟨List.mem_of_getElem? (i := 722) rfl, rfl⟩
theorem hp_142 {l : Launch} {dC : Nat → ClassId} {dI : Nat → Nat → Nat} {aC : Nat → ClassId} {H0 : Heap} {G : jx_Gv} : plainName (jz_m (jZ l dC dI aC H0 G) 142).1.cls = true := by show plainName "PartText$Rules" = true; decide +kernel
theorem hs_142 {l : Launch} {dC : Nat → ClassId} {dI : Nat → Nat → Nat} {aC : Nat → ClassId} {H0 : Heap} {G : jx_Gv} : (jz_m (jZ l dC dI aC H0 G) 142).1.cls ≠ "java/lang/invoke/MethodHandle" ∧ (jz_m (jZ l dC dI aC H0 G) 142).1.cls ≠ "java/lang/invoke/VarHandle" ∧ (parseMethodDescriptor (jz_m (jZ l dC dI aC H0 G) 142).1.desc).map (fun d => d.parameters.length) = some 2 := by show "PartText$Rules" ≠ _ ∧ "PartText$Rules" ≠ _ ∧ (parseMethodDescriptor "(II)I").map _ = _; decide +kernel
theorem hm_143 {l : Launch} {dC : Nat → ClassId} {dI : Nat → Nat → Nat} {aC : Nat → ClassId} {H0 : Heap} {G : jx_Gv} : (jz_m (jZ l dC dI aC H0 G) 143).2.1 = c_143 := rfl
theorem ho_143 {l : Launch} {dC : Nat → ClassId} {dI : Nat → Nat → Nat} {aC : Nat → ClassId} {H0 : Heap} {G : jx_Gv} : (jz_m (jZ l dC dI aC H0 G) 143).1.cls = "PartText$Rules" := rfl
set_option maxRecDepth 100000 in
theorem hw_143 {l : Launch} {dC : Nat → ClassId} {dI : Nat → Nat → Nat} {aC : Nat → ClassId} {H0 : Heap} {G : jx_Gv} : Jvm.Cond.code (jz_m (jZ l dC dI aC H0 G) 143).1 (jz_m (jZ l dC dI aC H0 G) 143).2.1 (jz_m (jZ l dC dI aC H0 G) 143).2.2.1 (jz_m (jZ l dC dI aC H0 G) 143).2.2.2 ∈ jz_T (jZ l dC dI aC H0 G) := List.mem_filter.mpr ⟨List.mem_of_getElem? (i := 718) rfl, rfl⟩
theorem hp_143 {l : Launch} {dC : Nat → ClassId} {dI : Nat → Nat → Nat} {aC : Nat → ClassId} {H0 : Heap} {G : jx_Gv} : plainName (jz_m (jZ l dC dI aC H0 G) 143).1.cls = true := by show plainName "PartText$Rules" = true; decide +kernel
theorem hs_143 {l : Launch} {dC : Nat → ClassId} {dI : Nat → Nat → Nat} {aC : Nat → ClassId} {H0 : Heap} {G : jx_Gv} : (jz_m (jZ l dC dI aC H0 G) 143).1.cls ≠ "java/lang/invoke/MethodHandle" ∧ (jz_m (jZ l dC dI aC H0 G) 143).1.cls ≠ "java/lang/invoke/VarHandle" ∧ (parseMethodDescriptor (jz_m (jZ l dC dI aC H0 G) 143).1.desc).map (fun d => d.parameters.length) = some 2 := by show "PartText$Rules" ≠ _ ∧ "PartText$Rules" ≠ _ ∧ (parseMethodDescriptor "(LPartText$Edition;I)Z").map _ = _; decide +kernel
theorem hm_144 {l : Launch} {dC : Nat → ClassId} {dI : Nat → Nat → Nat} {aC : Nat → ClassId} {H0 : Heap} {G : jx_Gv} : (jz_m (jZ l dC dI aC H0 G) 144).2.1 = c_144 := rfl
theorem ho_144 {l : Launch} {dC : Nat → ClassId} {dI : Nat → Nat → Nat} {aC : Nat → ClassId} {H0 : Heap} {G : jx_Gv} : (jz_m (jZ l dC dI aC H0 G) 144).1.cls = "PartText$Rules" := rfl
set_option maxRecDepth 100000 in
theorem hw_144 {l : Launch} {dC : Nat → ClassId} {dI : Nat → Nat → Nat} {aC : Nat → ClassId} {H0 : Heap} {G : jx_Gv} : Jvm.Cond.code (jz_m (jZ l dC dI aC H0 G) 144).1 (jz_m (jZ l dC dI aC H0 G) 144).2.1 (jz_m (jZ l dC dI aC H0 G) 144).2.2.1 (jz_m (jZ l dC dI aC H0 G) 144).2.2.2 ∈ jz_T (jZ l dC dI aC H0 G) := List.mem_filter.mpr ⟨List.mem_of_getElem? (i := 714) rfl, rfl⟩
theorem hp_144 {l : Launch} {dC : Nat → ClassId} {dI : Nat → Nat → Nat} {aC : Nat → ClassId} {H0 : Heap} {G : jx_Gv} : plainName (jz_m (jZ l dC dI aC H0 G) 144).1.cls = true := by show plainName "PartText$Rules" = true; decide +kernel
theorem hs_144 {l : Launch} {dC : Nat → ClassId} {dI : Nat → Nat → Nat} {aC : Nat → ClassId} {H0 : Heap} {G : jx_Gv} : (jz_m (jZ l dC dI aC H0 G) 144).1.cls ≠ "java/lang/invoke/MethodHandle" ∧ (jz_m (jZ l dC dI aC H0 G) 144).1.cls ≠ "java/lang/invoke/VarHandle" ∧ (parseMethodDescriptor (jz_m (jZ l dC dI aC H0 G) 144).1.desc).map (fun d => d.parameters.length) = some 2 := by show "PartText$Rules" ≠ _ ∧ "PartText$Rules" ≠ _ ∧ (parseMethodDescriptor "(LPartText$Edition;I)I").map _ = _; decide +kernel
theorem hm_145 {l : Launch} {dC : Nat → ClassId} {dI : Nat → Nat → Nat} {aC : Nat → ClassId} {H0 : Heap} {G : jx_Gv} : (jz_m (jZ l dC dI aC H0 G) 145).2.1 = c_145 := rfl
theorem ho_145 {l : Launch} {dC : Nat → ClassId} {dI : Nat → Nat → Nat} {aC : Nat → ClassId} {H0 : Heap} {G : jx_Gv} : (jz_m (jZ l dC dI aC H0 G) 145).1.cls = "PartText$Rules" := rfl
set_option maxRecDepth 100000 in
theorem hw_145 {l : Launch} {dC : Nat → ClassId} {dI : Nat → Nat → Nat} {aC : Nat → ClassId} {H0 : Heap} {G : jx_Gv} : Jvm.Cond.code (jz_m (jZ l dC dI aC H0 G) 145).1 (jz_m (jZ l dC dI aC H0 G) 145).2.1 (jz_m (jZ l dC dI aC H0 G) 145).2.2.1 (jz_m (jZ l dC dI aC H0 G) 145).2.2.2 ∈ jz_T (jZ l dC dI aC H0 G) := List.mem_filter.mpr ⟨List.mem_of_getElem? (i := 731) rfl, rfl⟩
theorem hp_145 {l : Launch} {dC : Nat → ClassId} {dI : Nat → Nat → Nat} {aC : Nat → ClassId} {H0 : Heap} {G : jx_Gv} : plainName (jz_m (jZ l dC dI aC H0 G) 145).1.cls = true := by show plainName "PartText$Rules" = true; decide +kernel
theorem hs_145 {l : Launch} {dC : Nat → ClassId} {dI : Nat → Nat → Nat} {aC : Nat → ClassId} {H0 : Heap} {G : jx_Gv} : (jz_m (jZ l dC dI aC H0 G) 145).1.cls ≠ "java/lang/invoke/MethodHandle" ∧ (jz_m (jZ l dC dI aC H0 G) 145).1.cls ≠ "java/lang/invoke/VarHandle" ∧ (parseMethodDescriptor (jz_m (jZ l dC dI aC H0 G) 145).1.desc).map (fun d => d.parameters.length) = some 3 := by show "PartText$Rules" ≠ _ ∧ "PartText$Rules" ≠ _ ∧ (parseMethodDescriptor "(LPartText$Edition;II)Z").map _ = _; decide +kernel
theorem hm_146 {l : Launch} {dC : Nat → ClassId} {dI : Nat → Nat → Nat} {aC : Nat → ClassId} {H0 : Heap} {G : jx_Gv} : (jz_m (jZ l dC dI aC H0 G) 146).2.1 = c_146 := rfl
theorem ho_146 {l : Launch} {dC : Nat → ClassId} {dI : Nat → Nat → Nat} {aC : Nat → ClassId} {H0 : Heap} {G : jx_Gv} : (jz_m (jZ l dC dI aC H0 G) 146).1.cls = "PartText$Rules" := rfl
set_option maxRecDepth 100000 in
theorem hw_146 {l : Launch} {dC : Nat → ClassId} {dI : Nat → Nat → Nat} {aC : Nat → ClassId} {H0 : Heap} {G : jx_Gv} : Jvm.Cond.code (jz_m (jZ l dC dI aC H0 G) 146).1 (jz_m (jZ l dC dI aC H0 G) 146).2.1 (jz_m (jZ l dC dI aC H0 G) 146).2.2.1 (jz_m (jZ l dC dI aC H0 G) 146).2.2.2 ∈ jz_T (jZ l dC dI aC H0 G) := List.mem_filter.mpr ⟨List.mem_of_getElem? (i := 740) rfl, rfl⟩
theorem hp_146 {l : Launch} {dC : Nat → ClassId} {dI : Nat → Nat → Nat} {aC : Nat → ClassId} {H0 : Heap} {G : jx_Gv} : plainName (jz_m (jZ l dC dI aC H0 G) 146).1.cls = true := by show plainName "PartText$Rules" = true; decide +kernel
theorem hs_146 {l : Launch} {dC : Nat → ClassId} {dI : Nat → Nat → Nat} {aC : Nat → ClassId} {H0 : Heap} {G : jx_Gv} : (jz_m (jZ l dC dI aC H0 G) 146).1.cls ≠ "java/lang/invoke/MethodHandle" ∧ (jz_m (jZ l dC dI aC H0 G) 146).1.cls ≠ "java/lang/invoke/VarHandle" ∧ (parseMethodDescriptor (jz_m (jZ l dC dI aC H0 G) 146).1.desc).map (fun d => d.parameters.length) = some 4 := by show "PartText$Rules" ≠ _ ∧ "PartText$Rules" ≠ _ ∧ (parseMethodDescriptor "(LPartText$Edition;III)Z").map _ = _; decide +kernel
theorem hm_147 {l : Launch} {dC : Nat → ClassId} {dI : Nat → Nat → Nat} {aC : Nat → ClassId} {H0 : Heap} {G : jx_Gv} : (jz_m (jZ l dC dI aC H0 G) 147).2.1 = c_147 := rfl
theorem ho_147 {l : Launch} {dC : Nat → ClassId} {dI : Nat → Nat → Nat} {aC : Nat → ClassId} {H0 : Heap} {G : jx_Gv} : (jz_m (jZ l dC dI aC H0 G) 147).1.cls = "PartText$Rules" := rfl
set_option maxRecDepth 100000 in
theorem hw_147 {l : Launch} {dC : Nat → ClassId} {dI : Nat → Nat → Nat} {aC : Nat → ClassId} {H0 : Heap} {G : jx_Gv} : Jvm.Cond.code (jz_m (jZ l dC dI aC H0 G) 147).1 (jz_m (jZ l dC dI aC H0 G) 147).2.1 (jz_m (jZ l dC dI aC H0 G) 147).2.2.1 (jz_m (jZ l dC dI aC H0 G) 147).2.2.2 ∈ jz_T (jZ l dC dI aC H0 G) := List.mem_filter.mpr ⟨List.mem_of_getElem? (i := 737) rfl, rfl⟩
theorem hp_147 {l : Launch} {dC : Nat → ClassId} {dI : Nat → Nat → Nat} {aC : Nat → ClassId} {H0 : Heap} {G : jx_Gv} : plainName (jz_m (jZ l dC dI aC H0 G) 147).1.cls = true := by show plainName "PartText$Rules" = true; decide +kernel
theorem hs_147 {l : Launch} {dC : Nat → ClassId} {dI : Nat → Nat → Nat} {aC : Nat → ClassId} {H0 : Heap} {G : jx_Gv} : (jz_m (jZ l dC dI aC H0 G) 147).1.cls ≠ "java/lang/invoke/MethodHandle" ∧ (jz_m (jZ l dC dI aC H0 G) 147).1.cls ≠ "java/lang/invoke/VarHandle" ∧ (parseMethodDescriptor (jz_m (jZ l dC dI aC H0 G) 147).1.desc).map (fun d => d.parameters.length) = some 3 := by show "PartText$Rules" ≠ _ ∧ "PartText$Rules" ≠ _ ∧ (parseMethodDescriptor "(LPartText$Edition;II)I").map _ = _; decide +kernel
theorem hm_148 {l : Launch} {dC : Nat → ClassId} {dI : Nat → Nat → Nat} {aC : Nat → ClassId} {H0 : Heap} {G : jx_Gv} : (jz_m (jZ l dC dI aC H0 G) 148).2.1 = c_148 := rfl
theorem ho_148 {l : Launch} {dC : Nat → ClassId} {dI : Nat → Nat → Nat} {aC : Nat → ClassId} {H0 : Heap} {G : jx_Gv} : (jz_m (jZ l dC dI aC H0 G) 148).1.cls = "PartText$Rules" := rfl
set_option maxRecDepth 100000 in
theorem hw_148 {l : Launch} {dC : Nat → ClassId} {dI : Nat → Nat → Nat} {aC : Nat → ClassId} {H0 : Heap} {G : jx_Gv} : Jvm.Cond.code (jz_m (jZ l dC dI aC H0 G) 148).1 (jz_m (jZ l dC dI aC H0 G) 148).2.1 (jz_m (jZ l dC dI aC H0 G) 148).2.2.1 (jz_m (jZ l dC dI aC H0 G) 148).2.2.2 ∈ jz_T (jZ l dC dI aC H0 G) := List.mem_filter.mpr ⟨List.mem_of_getElem? (i := 734) rfl, rfl⟩
theorem hp_148 {l : Launch} {dC : Nat → ClassId} {dI : Nat → Nat → Nat} {aC : Nat → ClassId} {H0 : Heap} {G : jx_Gv} : plainName (jz_m (jZ l dC dI aC H0 G) 148).1.cls = true := by show plainName "PartText$Rules" = true; decide +kernel
theorem hs_148 {l : Launch} {dC : Nat → ClassId} {dI : Nat → Nat → Nat} {aC : Nat → ClassId} {H0 : Heap} {G : jx_Gv} : (jz_m (jZ l dC dI aC H0 G) 148).1.cls ≠ "java/lang/invoke/MethodHandle" ∧ (jz_m (jZ l dC dI aC H0 G) 148).1.cls ≠ "java/lang/invoke/VarHandle" ∧ (parseMethodDescriptor (jz_m (jZ l dC dI aC H0 G) 148).1.desc).map (fun d => d.parameters.length) = some 3 := by show "PartText$Rules" ≠ _ ∧ "PartText$Rules" ≠ _ ∧ (parseMethodDescriptor "(LPartText$Edition;II)I").map _ = _; decide +kernel
theorem hm_149 {l : Launch} {dC : Nat → ClassId} {dI : Nat → Nat → Nat} {aC : Nat → ClassId} {H0 : Heap} {G : jx_Gv} : (jz_m (jZ l dC dI aC H0 G) 149).2.1 = c_149 := rfl
theorem ho_149 {l : Launch} {dC : Nat → ClassId} {dI : Nat → Nat → Nat} {aC : Nat → ClassId} {H0 : Heap} {G : jx_Gv} : (jz_m (jZ l dC dI aC H0 G) 149).1.cls = "PartText$Rules" := rfl
set_option maxRecDepth 100000 in
theorem hw_149 {l : Launch} {dC : Nat → ClassId} {dI : Nat → Nat → Nat} {aC : Nat → ClassId} {H0 : Heap} {G : jx_Gv} : Jvm.Cond.code (jz_m (jZ l dC dI aC H0 G) 149).1 (jz_m (jZ l dC dI aC H0 G) 149).2.1 (jz_m (jZ l dC dI aC H0 G) 149).2.2.1 (jz_m (jZ l dC dI aC H0 G) 149).2.2.2 ∈ jz_T (jZ l dC dI aC H0 G) := List.mem_filter.mpr ⟨List.mem_of_getElem? (i := 743) rfl, rfl⟩
theorem hp_149 {l : Launch} {dC : Nat → ClassId} {dI : Nat → Nat → Nat} {aC : Nat → ClassId} {H0 : Heap} {G : jx_Gv} : plainName (jz_m (jZ l dC dI aC H0 G) 149).1.cls = true := by show plainName "PartText$Rules" = true; decide +kernel
theorem hs_149 {l : Launch} {dC : Nat → ClassId} {dI : Nat → Nat → Nat} {aC : Nat → ClassId} {H0 : Heap} {G : jx_Gv} : (jz_m (jZ l dC dI aC H0 G) 149).1.cls ≠ "java/lang/invoke/MethodHandle" ∧ (jz_m (jZ l dC dI aC H0 G) 149).1.cls ≠ "java/lang/invoke/VarHandle" ∧ (parseMethodDescriptor (jz_m (jZ l dC dI aC H0 G) 149).1.desc).map (fun d => d.parameters.length) = some 2 := by show "PartText$Rules" ≠ _ ∧ "PartText$Rules" ≠ _ ∧ (parseMethodDescriptor "(LPartText$Edition;I)Z").map _ = _; decide +kernel
theorem hm_150 {l : Launch} {dC : Nat → ClassId} {dI : Nat → Nat → Nat} {aC : Nat → ClassId} {H0 : Heap} {G : jx_Gv} : (jz_m (jZ l dC dI aC H0 G) 150).2.1 = c_150 := rfl
theorem ho_150 {l : Launch} {dC : Nat → ClassId} {dI : Nat → Nat → Nat} {aC : Nat → ClassId} {H0 : Heap} {G : jx_Gv} : (jz_m (jZ l dC dI aC H0 G) 150).1.cls = "PartText$Rules" := rfl
set_option maxRecDepth 100000 in
theorem hw_150 {l : Launch} {dC : Nat → ClassId} {dI : Nat → Nat → Nat} {aC : Nat → ClassId} {H0 : Heap} {G : jx_Gv} : Jvm.Cond.code (jz_m (jZ l dC dI aC H0 G) 150).1 (jz_m (jZ l dC dI aC H0 G) 150).2.1 (jz_m (jZ l dC dI aC H0 G) 150).2.2.1 (jz_m (jZ l dC dI aC H0 G) 150).2.2.2 ∈ jz_T (jZ l dC dI aC H0 G) := List.mem_filter.mpr ⟨List.mem_of_getElem? (i := 726) rfl, rfl⟩
theorem hp_150 {l : Launch} {dC : Nat → ClassId} {dI : Nat → Nat → Nat} {aC : Nat → ClassId} {H0 : Heap} {G : jx_Gv} : plainName (jz_m (jZ l dC dI aC H0 G) 150).1.cls = true := by show plainName "PartText$Rules" = true; decide +kernel
theorem hs_150 {l : Launch} {dC : Nat → ClassId} {dI : Nat → Nat → Nat} {aC : Nat → ClassId} {H0 : Heap} {G : jx_Gv} : (jz_m (jZ l dC dI aC H0 G) 150).1.cls ≠ "java/lang/invoke/MethodHandle" ∧ (jz_m (jZ l dC dI aC H0 G) 150).1.cls ≠ "java/lang/invoke/VarHandle" ∧ (parseMethodDescriptor (jz_m (jZ l dC dI aC H0 G) 150).1.desc).map (fun d => d.parameters.length) = some 2 := by show "PartText$Rules" ≠ _ ∧ "PartText$Rules" ≠ _ ∧ (parseMethodDescriptor "(LPartText$Edition;I)I").map _ = _; decide +kernel
theorem hm_151 {l : Launch} {dC : Nat → ClassId} {dI : Nat → Nat → Nat} {aC : Nat → ClassId} {H0 : Heap} {G : jx_Gv} : (jz_m (jZ l dC dI aC H0 G) 151).2.1 = c_151 := rfl
theorem ho_151 {l : Launch} {dC : Nat → ClassId} {dI : Nat → Nat → Nat} {aC : Nat → ClassId} {H0 : Heap} {G : jx_Gv} : (jz_m (jZ l dC dI aC H0 G) 151).1.cls = "PartText$Rules" := rfl
set_option maxRecDepth 100000 in
theorem hw_151 {l : Launch} {dC : Nat → ClassId} {dI : Nat → Nat → Nat} {aC : Nat → ClassId} {H0 : Heap} {G : jx_Gv} : Jvm.Cond.code (jz_m (jZ l dC dI aC H0 G) 151).1 (jz_m (jZ l dC dI aC H0 G) 151).2.1 (jz_m (jZ l dC dI aC H0 G) 151).2.2.1 (jz_m (jZ l dC dI aC H0 G) 151).2.2.2 ∈ jz_T (jZ l dC dI aC H0 G) := List.mem_filter.mpr ⟨List.mem_of_getElem? (i := 688) rfl, rfl⟩
theorem hp_151 {l : Launch} {dC : Nat → ClassId} {dI : Nat → Nat → Nat} {aC : Nat → ClassId} {H0 : Heap} {G : jx_Gv} : plainName (jz_m (jZ l dC dI aC H0 G) 151).1.cls = true := by show plainName "PartText$Rules" = true; decide +kernel
theorem hs_151 {l : Launch} {dC : Nat → ClassId} {dI : Nat → Nat → Nat} {aC : Nat → ClassId} {H0 : Heap} {G : jx_Gv} : (jz_m (jZ l dC dI aC H0 G) 151).1.cls ≠ "java/lang/invoke/MethodHandle" ∧ (jz_m (jZ l dC dI aC H0 G) 151).1.cls ≠ "java/lang/invoke/VarHandle" ∧ (parseMethodDescriptor (jz_m (jZ l dC dI aC H0 G) 151).1.desc).map (fun d => d.parameters.length) = some 2 := by show "PartText$Rules" ≠ _ ∧ "PartText$Rules" ≠ _ ∧ (parseMethodDescriptor "(LPartText$Edition;I)I").map _ = _; decide +kernel
theorem hm_152 {l : Launch} {dC : Nat → ClassId} {dI : Nat → Nat → Nat} {aC : Nat → ClassId} {H0 : Heap} {G : jx_Gv} : (jz_m (jZ l dC dI aC H0 G) 152).2.1 = c_152 := rfl
theorem ho_152 {l : Launch} {dC : Nat → ClassId} {dI : Nat → Nat → Nat} {aC : Nat → ClassId} {H0 : Heap} {G : jx_Gv} : (jz_m (jZ l dC dI aC H0 G) 152).1.cls = "PartText$Rules" := rfl
set_option maxRecDepth 100000 in
theorem hw_152 {l : Launch} {dC : Nat → ClassId} {dI : Nat → Nat → Nat} {aC : Nat → ClassId} {H0 : Heap} {G : jx_Gv} : Jvm.Cond.code (jz_m (jZ l dC dI aC H0 G) 152).1 (jz_m (jZ l dC dI aC H0 G) 152).2.1 (jz_m (jZ l dC dI aC H0 G) 152).2.2.1 (jz_m (jZ l dC dI aC H0 G) 152).2.2.2 ∈ jz_T (jZ l dC dI aC H0 G) := List.mem_filter.mpr ⟨List.mem_of_getElem? (i := 683) rfl, rfl⟩
theorem hp_152 {l : Launch} {dC : Nat → ClassId} {dI : Nat → Nat → Nat} {aC : Nat → ClassId} {H0 : Heap} {G : jx_Gv} : plainName (jz_m (jZ l dC dI aC H0 G) 152).1.cls = true := by show plainName "PartText$Rules" = true; decide +kernel
theorem hs_152 {l : Launch} {dC : Nat → ClassId} {dI : Nat → Nat → Nat} {aC : Nat → ClassId} {H0 : Heap} {G : jx_Gv} : (jz_m (jZ l dC dI aC H0 G) 152).1.cls ≠ "java/lang/invoke/MethodHandle" ∧ (jz_m (jZ l dC dI aC H0 G) 152).1.cls ≠ "java/lang/invoke/VarHandle" ∧ (parseMethodDescriptor (jz_m (jZ l dC dI aC H0 G) 152).1.desc).map (fun d => d.parameters.length) = some 1 := by show "PartText$Rules" ≠ _ ∧ "PartText$Rules" ≠ _ ∧ (parseMethodDescriptor "(LPartText$Edition;)I").map _ = _; decide +kernel
theorem hm_153 {l : Launch} {dC : Nat → ClassId} {dI : Nat → Nat → Nat} {aC : Nat → ClassId} {H0 : Heap} {G : jx_Gv} : (jz_m (jZ l dC dI aC H0 G) 153).2.1 = c_153 := rfl
theorem ho_153 {l : Launch} {dC : Nat → ClassId} {dI : Nat → Nat → Nat} {aC : Nat → ClassId} {H0 : Heap} {G : jx_Gv} : (jz_m (jZ l dC dI aC H0 G) 153).1.cls = "PartText" := rfl
set_option maxRecDepth 100000 in
theorem hw_153 {l : Launch} {dC : Nat → ClassId} {dI : Nat → Nat → Nat} {aC : Nat → ClassId} {H0 : Heap} {G : jx_Gv} : Jvm.Cond.code (jz_m (jZ l dC dI aC H0 G) 153).1 (jz_m (jZ l dC dI aC H0 G) 153).2.1 (jz_m (jZ l dC dI aC H0 G) 153).2.2.1 (jz_m (jZ l dC dI aC H0 G) 153).2.2.2 ∈ jz_T (jZ l dC dI aC H0 G) := List.mem_filter.mpr ⟨List.mem_of_getElem? (i := 679) rfl, rfl⟩
theorem hp_153 {l : Launch} {dC : Nat → ClassId} {dI : Nat → Nat → Nat} {aC : Nat → ClassId} {H0 : Heap} {G : jx_Gv} : plainName (jz_m (jZ l dC dI aC H0 G) 153).1.cls = true := by show plainName "PartText" = true; decide +kernel
theorem hs_153 {l : Launch} {dC : Nat → ClassId} {dI : Nat → Nat → Nat} {aC : Nat → ClassId} {H0 : Heap} {G : jx_Gv} : (jz_m (jZ l dC dI aC H0 G) 153).1.cls ≠ "java/lang/invoke/MethodHandle" ∧ (jz_m (jZ l dC dI aC H0 G) 153).1.cls ≠ "java/lang/invoke/VarHandle" ∧ (parseMethodDescriptor (jz_m (jZ l dC dI aC H0 G) 153).1.desc).map (fun d => d.parameters.length) = some 0 := by show "PartText" ≠ _ ∧ "PartText" ≠ _ ∧ (parseMethodDescriptor "()I").map _ = _; decide +kernel
theorem hm_154 {l : Launch} {dC : Nat → ClassId} {dI : Nat → Nat → Nat} {aC : Nat → ClassId} {H0 : Heap} {G : jx_Gv} : (jz_m (jZ l dC dI aC H0 G) 154).2.1 = c_154 := rfl
theorem ho_154 {l : Launch} {dC : Nat → ClassId} {dI : Nat → Nat → Nat} {aC : Nat → ClassId} {H0 : Heap} {G : jx_Gv} : (jz_m (jZ l dC dI aC H0 G) 154).1.cls = "PartTextModel" := rfl
set_option maxRecDepth 100000 in
theorem hw_154 {l : Launch} {dC : Nat → ClassId} {dI : Nat → Nat → Nat} {aC : Nat → ClassId} {H0 : Heap} {G : jx_Gv} : Jvm.Cond.code (jz_m (jZ l dC dI aC H0 G) 154).1 (jz_m (jZ l dC dI aC H0 G) 154).2.1 (jz_m (jZ l dC dI aC H0 G) 154).2.2.1 (jz_m (jZ l dC dI aC H0 G) 154).2.2.2 ∈ jz_T (jZ l dC dI aC H0 G) := List.mem_filter.mpr ⟨List.mem_of_getElem? (i := 1234) rfl, rfl⟩
theorem hp_154 {l : Launch} {dC : Nat → ClassId} {dI : Nat → Nat → Nat} {aC : Nat → ClassId} {H0 : Heap} {G : jx_Gv} : plainName (jz_m (jZ l dC dI aC H0 G) 154).1.cls = true := by show plainName "PartTextModel" = true; decide +kernel
theorem hs_154 {l : Launch} {dC : Nat → ClassId} {dI : Nat → Nat → Nat} {aC : Nat → ClassId} {H0 : Heap} {G : jx_Gv} : (jz_m (jZ l dC dI aC H0 G) 154).1.cls ≠ "java/lang/invoke/MethodHandle" ∧ (jz_m (jZ l dC dI aC H0 G) 154).1.cls ≠ "java/lang/invoke/VarHandle" ∧ (parseMethodDescriptor (jz_m (jZ l dC dI aC H0 G) 154).1.desc).map (fun d => d.parameters.length) = some 1 := by show "PartTextModel" ≠ _ ∧ "PartTextModel" ≠ _ ∧ (parseMethodDescriptor "(I)Z").map _ = _; decide +kernel
theorem hm_155 {l : Launch} {dC : Nat → ClassId} {dI : Nat → Nat → Nat} {aC : Nat → ClassId} {H0 : Heap} {G : jx_Gv} : (jz_m (jZ l dC dI aC H0 G) 155).2.1 = c_155 := rfl
theorem ho_155 {l : Launch} {dC : Nat → ClassId} {dI : Nat → Nat → Nat} {aC : Nat → ClassId} {H0 : Heap} {G : jx_Gv} : (jz_m (jZ l dC dI aC H0 G) 155).1.cls = "PartTextModel" := rfl
set_option maxRecDepth 100000 in
theorem hw_155 {l : Launch} {dC : Nat → ClassId} {dI : Nat → Nat → Nat} {aC : Nat → ClassId} {H0 : Heap} {G : jx_Gv} : Jvm.Cond.code (jz_m (jZ l dC dI aC H0 G) 155).1 (jz_m (jZ l dC dI aC H0 G) 155).2.1 (jz_m (jZ l dC dI aC H0 G) 155).2.2.1 (jz_m (jZ l dC dI aC H0 G) 155).2.2.2 ∈ jz_T (jZ l dC dI aC H0 G) := List.mem_filter.mpr ⟨List.mem_of_getElem? (i := 1242) rfl, rfl⟩
theorem hp_155 {l : Launch} {dC : Nat → ClassId} {dI : Nat → Nat → Nat} {aC : Nat → ClassId} {H0 : Heap} {G : jx_Gv} : plainName (jz_m (jZ l dC dI aC H0 G) 155).1.cls = true := by show plainName "PartTextModel" = true; decide +kernel
theorem hs_155 {l : Launch} {dC : Nat → ClassId} {dI : Nat → Nat → Nat} {aC : Nat → ClassId} {H0 : Heap} {G : jx_Gv} : (jz_m (jZ l dC dI aC H0 G) 155).1.cls ≠ "java/lang/invoke/MethodHandle" ∧ (jz_m (jZ l dC dI aC H0 G) 155).1.cls ≠ "java/lang/invoke/VarHandle" ∧ (parseMethodDescriptor (jz_m (jZ l dC dI aC H0 G) 155).1.desc).map (fun d => d.parameters.length) = some 2 := by show "PartTextModel" ≠ _ ∧ "PartTextModel" ≠ _ ∧ (parseMethodDescriptor "(II)Z").map _ = _; decide +kernel
theorem hm_156 {l : Launch} {dC : Nat → ClassId} {dI : Nat → Nat → Nat} {aC : Nat → ClassId} {H0 : Heap} {G : jx_Gv} : (jz_m (jZ l dC dI aC H0 G) 156).2.1 = c_156 := rfl
theorem ho_156 {l : Launch} {dC : Nat → ClassId} {dI : Nat → Nat → Nat} {aC : Nat → ClassId} {H0 : Heap} {G : jx_Gv} : (jz_m (jZ l dC dI aC H0 G) 156).1.cls = "PartTextModel" := rfl
set_option maxRecDepth 100000 in
theorem hw_156 {l : Launch} {dC : Nat → ClassId} {dI : Nat → Nat → Nat} {aC : Nat → ClassId} {H0 : Heap} {G : jx_Gv} : Jvm.Cond.code (jz_m (jZ l dC dI aC H0 G) 156).1 (jz_m (jZ l dC dI aC H0 G) 156).2.1 (jz_m (jZ l dC dI aC H0 G) 156).2.2.1 (jz_m (jZ l dC dI aC H0 G) 156).2.2.2 ∈ jz_T (jZ l dC dI aC H0 G) := List.mem_filter.mpr ⟨List.mem_of_getElem? (i := 1246) rfl, rfl⟩
theorem hp_156 {l : Launch} {dC : Nat → ClassId} {dI : Nat → Nat → Nat} {aC : Nat → ClassId} {H0 : Heap} {G : jx_Gv} : plainName (jz_m (jZ l dC dI aC H0 G) 156).1.cls = true := by show plainName "PartTextModel" = true; decide +kernel
theorem hs_156 {l : Launch} {dC : Nat → ClassId} {dI : Nat → Nat → Nat} {aC : Nat → ClassId} {H0 : Heap} {G : jx_Gv} : (jz_m (jZ l dC dI aC H0 G) 156).1.cls ≠ "java/lang/invoke/MethodHandle" ∧ (jz_m (jZ l dC dI aC H0 G) 156).1.cls ≠ "java/lang/invoke/VarHandle" ∧ (parseMethodDescriptor (jz_m (jZ l dC dI aC H0 G) 156).1.desc).map (fun d => d.parameters.length) = some 3 := by show "PartTextModel" ≠ _ ∧ "PartTextModel" ≠ _ ∧ (parseMethodDescriptor "(III)Z").map _ = _; decide +kernel
theorem hm_157 {l : Launch} {dC : Nat → ClassId} {dI : Nat → Nat → Nat} {aC : Nat → ClassId} {H0 : Heap} {G : jx_Gv} : (jz_m (jZ l dC dI aC H0 G) 157).2.1 = c_157 := rfl
theorem ho_157 {l : Launch} {dC : Nat → ClassId} {dI : Nat → Nat → Nat} {aC : Nat → ClassId} {H0 : Heap} {G : jx_Gv} : (jz_m (jZ l dC dI aC H0 G) 157).1.cls = "PartTextModel" := rfl
set_option maxRecDepth 100000 in
theorem hw_157 {l : Launch} {dC : Nat → ClassId} {dI : Nat → Nat → Nat} {aC : Nat → ClassId} {H0 : Heap} {G : jx_Gv} : Jvm.Cond.code (jz_m (jZ l dC dI aC H0 G) 157).1 (jz_m (jZ l dC dI aC H0 G) 157).2.1 (jz_m (jZ l dC dI aC H0 G) 157).2.2.1 (jz_m (jZ l dC dI aC H0 G) 157).2.2.2 ∈ jz_T (jZ l dC dI aC H0 G) := List.mem_filter.mpr ⟨List.mem_of_getElem? (i := 1238) rfl, rfl⟩
theorem hp_157 {l : Launch} {dC : Nat → ClassId} {dI : Nat → Nat → Nat} {aC : Nat → ClassId} {H0 : Heap} {G : jx_Gv} : plainName (jz_m (jZ l dC dI aC H0 G) 157).1.cls = true := by show plainName "PartTextModel" = true; decide +kernel
theorem hs_157 {l : Launch} {dC : Nat → ClassId} {dI : Nat → Nat → Nat} {aC : Nat → ClassId} {H0 : Heap} {G : jx_Gv} : (jz_m (jZ l dC dI aC H0 G) 157).1.cls ≠ "java/lang/invoke/MethodHandle" ∧ (jz_m (jZ l dC dI aC H0 G) 157).1.cls ≠ "java/lang/invoke/VarHandle" ∧ (parseMethodDescriptor (jz_m (jZ l dC dI aC H0 G) 157).1.desc).map (fun d => d.parameters.length) = some 1 := by show "PartTextModel" ≠ _ ∧ "PartTextModel" ≠ _ ∧ (parseMethodDescriptor "(I)Z").map _ = _; decide +kernel
theorem hm_158 {l : Launch} {dC : Nat → ClassId} {dI : Nat → Nat → Nat} {aC : Nat → ClassId} {H0 : Heap} {G : jx_Gv} : (jz_m (jZ l dC dI aC H0 G) 158).2.1 = c_158 := rfl
theorem ho_158 {l : Launch} {dC : Nat → ClassId} {dI : Nat → Nat → Nat} {aC : Nat → ClassId} {H0 : Heap} {G : jx_Gv} : (jz_m (jZ l dC dI aC H0 G) 158).1.cls = "PartTextModel" := rfl
set_option maxRecDepth 100000 in
theorem hw_158 {l : Launch} {dC : Nat → ClassId} {dI : Nat → Nat → Nat} {aC : Nat → ClassId} {H0 : Heap} {G : jx_Gv} : Jvm.Cond.code (jz_m (jZ l dC dI aC H0 G) 158).1 (jz_m (jZ l dC dI aC H0 G) 158).2.1 (jz_m (jZ l dC dI aC H0 G) 158).2.2.1 (jz_m (jZ l dC dI aC H0 G) 158).2.2.2 ∈ jz_T (jZ l dC dI aC H0 G) := List.mem_filter.mpr ⟨List.mem_of_getElem? (i := 1254) rfl, rfl⟩
theorem hp_158 {l : Launch} {dC : Nat → ClassId} {dI : Nat → Nat → Nat} {aC : Nat → ClassId} {H0 : Heap} {G : jx_Gv} : plainName (jz_m (jZ l dC dI aC H0 G) 158).1.cls = true := by show plainName "PartTextModel" = true; decide +kernel
theorem hs_158 {l : Launch} {dC : Nat → ClassId} {dI : Nat → Nat → Nat} {aC : Nat → ClassId} {H0 : Heap} {G : jx_Gv} : (jz_m (jZ l dC dI aC H0 G) 158).1.cls ≠ "java/lang/invoke/MethodHandle" ∧ (jz_m (jZ l dC dI aC H0 G) 158).1.cls ≠ "java/lang/invoke/VarHandle" ∧ (parseMethodDescriptor (jz_m (jZ l dC dI aC H0 G) 158).1.desc).map (fun d => d.parameters.length) = some 1 := by show "PartTextModel" ≠ _ ∧ "PartTextModel" ≠ _ ∧ (parseMethodDescriptor "(I)I").map _ = _; decide +kernel
theorem hm_159 {l : Launch} {dC : Nat → ClassId} {dI : Nat → Nat → Nat} {aC : Nat → ClassId} {H0 : Heap} {G : jx_Gv} : (jz_m (jZ l dC dI aC H0 G) 159).2.1 = c_159 := rfl
theorem ho_159 {l : Launch} {dC : Nat → ClassId} {dI : Nat → Nat → Nat} {aC : Nat → ClassId} {H0 : Heap} {G : jx_Gv} : (jz_m (jZ l dC dI aC H0 G) 159).1.cls = "PartTextModel" := rfl
set_option maxRecDepth 100000 in
theorem hw_159 {l : Launch} {dC : Nat → ClassId} {dI : Nat → Nat → Nat} {aC : Nat → ClassId} {H0 : Heap} {G : jx_Gv} : Jvm.Cond.code (jz_m (jZ l dC dI aC H0 G) 159).1 (jz_m (jZ l dC dI aC H0 G) 159).2.1 (jz_m (jZ l dC dI aC H0 G) 159).2.2.1 (jz_m (jZ l dC dI aC H0 G) 159).2.2.2 ∈ jz_T (jZ l dC dI aC H0 G) := List.mem_filter.mpr ⟨List.mem_of_getElem? (i := 1258) rfl, rfl⟩
theorem hp_159 {l : Launch} {dC : Nat → ClassId} {dI : Nat → Nat → Nat} {aC : Nat → ClassId} {H0 : Heap} {G : jx_Gv} : plainName (jz_m (jZ l dC dI aC H0 G) 159).1.cls = true := by show plainName "PartTextModel" = true; decide +kernel
theorem hs_159 {l : Launch} {dC : Nat → ClassId} {dI : Nat → Nat → Nat} {aC : Nat → ClassId} {H0 : Heap} {G : jx_Gv} : (jz_m (jZ l dC dI aC H0 G) 159).1.cls ≠ "java/lang/invoke/MethodHandle" ∧ (jz_m (jZ l dC dI aC H0 G) 159).1.cls ≠ "java/lang/invoke/VarHandle" ∧ (parseMethodDescriptor (jz_m (jZ l dC dI aC H0 G) 159).1.desc).map (fun d => d.parameters.length) = some 1 := by show "PartTextModel" ≠ _ ∧ "PartTextModel" ≠ _ ∧ (parseMethodDescriptor "(I)I").map _ = _; decide +kernel
theorem hm_160 {l : Launch} {dC : Nat → ClassId} {dI : Nat → Nat → Nat} {aC : Nat → ClassId} {H0 : Heap} {G : jx_Gv} : (jz_m (jZ l dC dI aC H0 G) 160).2.1 = c_160 := rfl
theorem ho_160 {l : Launch} {dC : Nat → ClassId} {dI : Nat → Nat → Nat} {aC : Nat → ClassId} {H0 : Heap} {G : jx_Gv} : (jz_m (jZ l dC dI aC H0 G) 160).1.cls = "PartTextModel" := rfl
set_option maxRecDepth 100000 in
theorem hw_160 {l : Launch} {dC : Nat → ClassId} {dI : Nat → Nat → Nat} {aC : Nat → ClassId} {H0 : Heap} {G : jx_Gv} : Jvm.Cond.code (jz_m (jZ l dC dI aC H0 G) 160).1 (jz_m (jZ l dC dI aC H0 G) 160).2.1 (jz_m (jZ l dC dI aC H0 G) 160).2.2.1 (jz_m (jZ l dC dI aC H0 G) 160).2.2.2 ∈ jz_T (jZ l dC dI aC H0 G) := List.mem_filter.mpr ⟨List.mem_of_getElem? (i := 1250) rfl, rfl⟩
theorem hp_160 {l : Launch} {dC : Nat → ClassId} {dI : Nat → Nat → Nat} {aC : Nat → ClassId} {H0 : Heap} {G : jx_Gv} : plainName (jz_m (jZ l dC dI aC H0 G) 160).1.cls = true := by show plainName "PartTextModel" = true; decide +kernel
theorem hs_160 {l : Launch} {dC : Nat → ClassId} {dI : Nat → Nat → Nat} {aC : Nat → ClassId} {H0 : Heap} {G : jx_Gv} : (jz_m (jZ l dC dI aC H0 G) 160).1.cls ≠ "java/lang/invoke/MethodHandle" ∧ (jz_m (jZ l dC dI aC H0 G) 160).1.cls ≠ "java/lang/invoke/VarHandle" ∧ (parseMethodDescriptor (jz_m (jZ l dC dI aC H0 G) 160).1.desc).map (fun d => d.parameters.length) = some 1 := by show "PartTextModel" ≠ _ ∧ "PartTextModel" ≠ _ ∧ (parseMethodDescriptor "(I)Z").map _ = _; decide +kernel
theorem hm_161 {l : Launch} {dC : Nat → ClassId} {dI : Nat → Nat → Nat} {aC : Nat → ClassId} {H0 : Heap} {G : jx_Gv} : (jz_m (jZ l dC dI aC H0 G) 161).2.1 = c_161 := rfl
theorem ho_161 {l : Launch} {dC : Nat → ClassId} {dI : Nat → Nat → Nat} {aC : Nat → ClassId} {H0 : Heap} {G : jx_Gv} : (jz_m (jZ l dC dI aC H0 G) 161).1.cls = "PartTextModel" := rfl
set_option maxRecDepth 100000 in
theorem hw_161 {l : Launch} {dC : Nat → ClassId} {dI : Nat → Nat → Nat} {aC : Nat → ClassId} {H0 : Heap} {G : jx_Gv} : Jvm.Cond.code (jz_m (jZ l dC dI aC H0 G) 161).1 (jz_m (jZ l dC dI aC H0 G) 161).2.1 (jz_m (jZ l dC dI aC H0 G) 161).2.2.1 (jz_m (jZ l dC dI aC H0 G) 161).2.2.2 ∈ jz_T (jZ l dC dI aC H0 G) := List.mem_filter.mpr ⟨List.mem_of_getElem? (i := 1266) rfl, rfl⟩
theorem hp_161 {l : Launch} {dC : Nat → ClassId} {dI : Nat → Nat → Nat} {aC : Nat → ClassId} {H0 : Heap} {G : jx_Gv} : plainName (jz_m (jZ l dC dI aC H0 G) 161).1.cls = true := by show plainName "PartTextModel" = true; decide +kernel
theorem hs_161 {l : Launch} {dC : Nat → ClassId} {dI : Nat → Nat → Nat} {aC : Nat → ClassId} {H0 : Heap} {G : jx_Gv} : (jz_m (jZ l dC dI aC H0 G) 161).1.cls ≠ "java/lang/invoke/MethodHandle" ∧ (jz_m (jZ l dC dI aC H0 G) 161).1.cls ≠ "java/lang/invoke/VarHandle" ∧ (parseMethodDescriptor (jz_m (jZ l dC dI aC H0 G) 161).1.desc).map (fun d => d.parameters.length) = some 3 := by show "PartTextModel" ≠ _ ∧ "PartTextModel" ≠ _ ∧ (parseMethodDescriptor "(III)Z").map _ = _; decide +kernel
theorem hm_162 {l : Launch} {dC : Nat → ClassId} {dI : Nat → Nat → Nat} {aC : Nat → ClassId} {H0 : Heap} {G : jx_Gv} : (jz_m (jZ l dC dI aC H0 G) 162).2.1 = c_162 := rfl
theorem ho_162 {l : Launch} {dC : Nat → ClassId} {dI : Nat → Nat → Nat} {aC : Nat → ClassId} {H0 : Heap} {G : jx_Gv} : (jz_m (jZ l dC dI aC H0 G) 162).1.cls = "PartTextModel" := rfl
set_option maxRecDepth 100000 in
theorem hw_162 {l : Launch} {dC : Nat → ClassId} {dI : Nat → Nat → Nat} {aC : Nat → ClassId} {H0 : Heap} {G : jx_Gv} : Jvm.Cond.code (jz_m (jZ l dC dI aC H0 G) 162).1 (jz_m (jZ l dC dI aC H0 G) 162).2.1 (jz_m (jZ l dC dI aC H0 G) 162).2.2.1 (jz_m (jZ l dC dI aC H0 G) 162).2.2.2 ∈ jz_T (jZ l dC dI aC H0 G) := List.mem_filter.mpr ⟨List.mem_of_getElem? (i := 1262) rfl, rfl⟩
theorem hp_162 {l : Launch} {dC : Nat → ClassId} {dI : Nat → Nat → Nat} {aC : Nat → ClassId} {H0 : Heap} {G : jx_Gv} : plainName (jz_m (jZ l dC dI aC H0 G) 162).1.cls = true := by show plainName "PartTextModel" = true; decide +kernel
theorem hs_162 {l : Launch} {dC : Nat → ClassId} {dI : Nat → Nat → Nat} {aC : Nat → ClassId} {H0 : Heap} {G : jx_Gv} : (jz_m (jZ l dC dI aC H0 G) 162).1.cls ≠ "java/lang/invoke/MethodHandle" ∧ (jz_m (jZ l dC dI aC H0 G) 162).1.cls ≠ "java/lang/invoke/VarHandle" ∧ (parseMethodDescriptor (jz_m (jZ l dC dI aC H0 G) 162).1.desc).map (fun d => d.parameters.length) = some 2 := by show "PartTextModel" ≠ _ ∧ "PartTextModel" ≠ _ ∧ (parseMethodDescriptor "(II)Z").map _ = _; decide +kernel
theorem hm_163 {l : Launch} {dC : Nat → ClassId} {dI : Nat → Nat → Nat} {aC : Nat → ClassId} {H0 : Heap} {G : jx_Gv} : (jz_m (jZ l dC dI aC H0 G) 163).2.1 = c_163 := rfl
theorem ho_163 {l : Launch} {dC : Nat → ClassId} {dI : Nat → Nat → Nat} {aC : Nat → ClassId} {H0 : Heap} {G : jx_Gv} : (jz_m (jZ l dC dI aC H0 G) 163).1.cls = "PartTextModel" := rfl
set_option maxRecDepth 100000 in
theorem hw_163 {l : Launch} {dC : Nat → ClassId} {dI : Nat → Nat → Nat} {aC : Nat → ClassId} {H0 : Heap} {G : jx_Gv} : Jvm.Cond.code (jz_m (jZ l dC dI aC H0 G) 163).1 (jz_m (jZ l dC dI aC H0 G) 163).2.1 (jz_m (jZ l dC dI aC H0 G) 163).2.2.1 (jz_m (jZ l dC dI aC H0 G) 163).2.2.2 ∈ jz_T (jZ l dC dI aC H0 G) := List.mem_filter.mpr ⟨List.mem_of_getElem? (i := 1270) rfl, rfl⟩
theorem hp_163 {l : Launch} {dC : Nat → ClassId} {dI : Nat → Nat → Nat} {aC : Nat → ClassId} {H0 : Heap} {G : jx_Gv} : plainName (jz_m (jZ l dC dI aC H0 G) 163).1.cls = true := by show plainName "PartTextModel" = true; decide +kernel
theorem hs_163 {l : Launch} {dC : Nat → ClassId} {dI : Nat → Nat → Nat} {aC : Nat → ClassId} {H0 : Heap} {G : jx_Gv} : (jz_m (jZ l dC dI aC H0 G) 163).1.cls ≠ "java/lang/invoke/MethodHandle" ∧ (jz_m (jZ l dC dI aC H0 G) 163).1.cls ≠ "java/lang/invoke/VarHandle" ∧ (parseMethodDescriptor (jz_m (jZ l dC dI aC H0 G) 163).1.desc).map (fun d => d.parameters.length) = some 1 := by show "PartTextModel" ≠ _ ∧ "PartTextModel" ≠ _ ∧ (parseMethodDescriptor "(I)Z").map _ = _; decide +kernel
theorem hm_164 {l : Launch} {dC : Nat → ClassId} {dI : Nat → Nat → Nat} {aC : Nat → ClassId} {H0 : Heap} {G : jx_Gv} : (jz_m (jZ l dC dI aC H0 G) 164).2.1 = c_164 := rfl
theorem ho_164 {l : Launch} {dC : Nat → ClassId} {dI : Nat → Nat → Nat} {aC : Nat → ClassId} {H0 : Heap} {G : jx_Gv} : (jz_m (jZ l dC dI aC H0 G) 164).1.cls = "PartTextModel" := rfl
set_option maxRecDepth 100000 in
theorem hw_164 {l : Launch} {dC : Nat → ClassId} {dI : Nat → Nat → Nat} {aC : Nat → ClassId} {H0 : Heap} {G : jx_Gv} : Jvm.Cond.code (jz_m (jZ l dC dI aC H0 G) 164).1 (jz_m (jZ l dC dI aC H0 G) 164).2.1 (jz_m (jZ l dC dI aC H0 G) 164).2.2.1 (jz_m (jZ l dC dI aC H0 G) 164).2.2.2 ∈ jz_T (jZ l dC dI aC H0 G) := List.mem_filter.mpr ⟨List.mem_of_getElem? (i := 1274) rfl, rfl⟩
theorem hp_164 {l : Launch} {dC : Nat → ClassId} {dI : Nat → Nat → Nat} {aC : Nat → ClassId} {H0 : Heap} {G : jx_Gv} : plainName (jz_m (jZ l dC dI aC H0 G) 164).1.cls = true := by show plainName "PartTextModel" = true; decide +kernel
theorem hs_164 {l : Launch} {dC : Nat → ClassId} {dI : Nat → Nat → Nat} {aC : Nat → ClassId} {H0 : Heap} {G : jx_Gv} : (jz_m (jZ l dC dI aC H0 G) 164).1.cls ≠ "java/lang/invoke/MethodHandle" ∧ (jz_m (jZ l dC dI aC H0 G) 164).1.cls ≠ "java/lang/invoke/VarHandle" ∧ (parseMethodDescriptor (jz_m (jZ l dC dI aC H0 G) 164).1.desc).map (fun d => d.parameters.length) = some 1 := by show "PartTextModel" ≠ _ ∧ "PartTextModel" ≠ _ ∧ (parseMethodDescriptor "(I)Z").map _ = _; decide +kernel
theorem hm_165 {l : Launch} {dC : Nat → ClassId} {dI : Nat → Nat → Nat} {aC : Nat → ClassId} {H0 : Heap} {G : jx_Gv} : (jz_m (jZ l dC dI aC H0 G) 165).2.1 = c_165 := rfl
theorem ho_165 {l : Launch} {dC : Nat → ClassId} {dI : Nat → Nat → Nat} {aC : Nat → ClassId} {H0 : Heap} {G : jx_Gv} : (jz_m (jZ l dC dI aC H0 G) 165).1.cls = "PartTextModel" := rfl
set_option maxRecDepth 100000 in
theorem hw_165 {l : Launch} {dC : Nat → ClassId} {dI : Nat → Nat → Nat} {aC : Nat → ClassId} {H0 : Heap} {G : jx_Gv} : Jvm.Cond.code (jz_m (jZ l dC dI aC H0 G) 165).1 (jz_m (jZ l dC dI aC H0 G) 165).2.1 (jz_m (jZ l dC dI aC H0 G) 165).2.2.1 (jz_m (jZ l dC dI aC H0 G) 165).2.2.2 ∈ jz_T (jZ l dC dI aC H0 G) := List.mem_filter.mpr ⟨List.mem_of_getElem? (i := 1230) rfl, rfl⟩
theorem hp_165 {l : Launch} {dC : Nat → ClassId} {dI : Nat → Nat → Nat} {aC : Nat → ClassId} {H0 : Heap} {G : jx_Gv} : plainName (jz_m (jZ l dC dI aC H0 G) 165).1.cls = true := by show plainName "PartTextModel" = true; decide +kernel
theorem hs_165 {l : Launch} {dC : Nat → ClassId} {dI : Nat → Nat → Nat} {aC : Nat → ClassId} {H0 : Heap} {G : jx_Gv} : (jz_m (jZ l dC dI aC H0 G) 165).1.cls ≠ "java/lang/invoke/MethodHandle" ∧ (jz_m (jZ l dC dI aC H0 G) 165).1.cls ≠ "java/lang/invoke/VarHandle" ∧ (parseMethodDescriptor (jz_m (jZ l dC dI aC H0 G) 165).1.desc).map (fun d => d.parameters.length) = some 2 := by show "PartTextModel" ≠ _ ∧ "PartTextModel" ≠ _ ∧ (parseMethodDescriptor "(II)Z").map _ = _; decide +kernel
theorem hm_166 {l : Launch} {dC : Nat → ClassId} {dI : Nat → Nat → Nat} {aC : Nat → ClassId} {H0 : Heap} {G : jx_Gv} : (jz_m (jZ l dC dI aC H0 G) 166).2.1 = c_166 := rfl
theorem ho_166 {l : Launch} {dC : Nat → ClassId} {dI : Nat → Nat → Nat} {aC : Nat → ClassId} {H0 : Heap} {G : jx_Gv} : (jz_m (jZ l dC dI aC H0 G) 166).1.cls = "PartTextModel" := rfl
set_option maxRecDepth 100000 in
theorem hw_166 {l : Launch} {dC : Nat → ClassId} {dI : Nat → Nat → Nat} {aC : Nat → ClassId} {H0 : Heap} {G : jx_Gv} : Jvm.Cond.code (jz_m (jZ l dC dI aC H0 G) 166).1 (jz_m (jZ l dC dI aC H0 G) 166).2.1 (jz_m (jZ l dC dI aC H0 G) 166).2.2.1 (jz_m (jZ l dC dI aC H0 G) 166).2.2.2 ∈ jz_T (jZ l dC dI aC H0 G) := List.mem_filter.mpr ⟨List.mem_of_getElem? (i := 1226) rfl, rfl⟩
theorem hp_166 {l : Launch} {dC : Nat → ClassId} {dI : Nat → Nat → Nat} {aC : Nat → ClassId} {H0 : Heap} {G : jx_Gv} : plainName (jz_m (jZ l dC dI aC H0 G) 166).1.cls = true := by show plainName "PartTextModel" = true; decide +kernel
theorem hs_166 {l : Launch} {dC : Nat → ClassId} {dI : Nat → Nat → Nat} {aC : Nat → ClassId} {H0 : Heap} {G : jx_Gv} : (jz_m (jZ l dC dI aC H0 G) 166).1.cls ≠ "java/lang/invoke/MethodHandle" ∧ (jz_m (jZ l dC dI aC H0 G) 166).1.cls ≠ "java/lang/invoke/VarHandle" ∧ (parseMethodDescriptor (jz_m (jZ l dC dI aC H0 G) 166).1.desc).map (fun d => d.parameters.length) = some 0 := by show "PartTextModel" ≠ _ ∧ "PartTextModel" ≠ _ ∧ (parseMethodDescriptor "()I").map _ = _; decide +kernel
theorem hm_167 {l : Launch} {dC : Nat → ClassId} {dI : Nat → Nat → Nat} {aC : Nat → ClassId} {H0 : Heap} {G : jx_Gv} : (jz_m (jZ l dC dI aC H0 G) 167).2.1 = c_167 := rfl
theorem ho_167 {l : Launch} {dC : Nat → ClassId} {dI : Nat → Nat → Nat} {aC : Nat → ClassId} {H0 : Heap} {G : jx_Gv} : (jz_m (jZ l dC dI aC H0 G) 167).1.cls = "PartText" := rfl
set_option maxRecDepth 100000 in
theorem hw_167 {l : Launch} {dC : Nat → ClassId} {dI : Nat → Nat → Nat} {aC : Nat → ClassId} {H0 : Heap} {G : jx_Gv} : Jvm.Cond.code (jz_m (jZ l dC dI aC H0 G) 167).1 (jz_m (jZ l dC dI aC H0 G) 167).2.1 (jz_m (jZ l dC dI aC H0 G) 167).2.2.1 (jz_m (jZ l dC dI aC H0 G) 167).2.2.2 ∈ jz_T (jZ l dC dI aC H0 G) := List.mem_filter.mpr ⟨List.mem_of_getElem? (i := 750) rfl, rfl⟩
theorem hp_167 {l : Launch} {dC : Nat → ClassId} {dI : Nat → Nat → Nat} {aC : Nat → ClassId} {H0 : Heap} {G : jx_Gv} : plainName (jz_m (jZ l dC dI aC H0 G) 167).1.cls = true := by show plainName "PartText" = true; decide +kernel
theorem hs_167 {l : Launch} {dC : Nat → ClassId} {dI : Nat → Nat → Nat} {aC : Nat → ClassId} {H0 : Heap} {G : jx_Gv} : (jz_m (jZ l dC dI aC H0 G) 167).1.cls ≠ "java/lang/invoke/MethodHandle" ∧ (jz_m (jZ l dC dI aC H0 G) 167).1.cls ≠ "java/lang/invoke/VarHandle" ∧ (parseMethodDescriptor (jz_m (jZ l dC dI aC H0 G) 167).1.desc).map (fun d => d.parameters.length) = some 2 := by show "PartText" ≠ _ ∧ "PartText" ≠ _ ∧ (parseMethodDescriptor "(II)I").map _ = _; decide +kernel
theorem hm_168 {l : Launch} {dC : Nat → ClassId} {dI : Nat → Nat → Nat} {aC : Nat → ClassId} {H0 : Heap} {G : jx_Gv} : (jz_m (jZ l dC dI aC H0 G) 168).2.1 = c_168 := rfl
theorem ho_168 {l : Launch} {dC : Nat → ClassId} {dI : Nat → Nat → Nat} {aC : Nat → ClassId} {H0 : Heap} {G : jx_Gv} : (jz_m (jZ l dC dI aC H0 G) 168).1.cls = "PartText" := rfl
set_option maxRecDepth 100000 in
theorem hw_168 {l : Launch} {dC : Nat → ClassId} {dI : Nat → Nat → Nat} {aC : Nat → ClassId} {H0 : Heap} {G : jx_Gv} : Jvm.Cond.code (jz_m (jZ l dC dI aC H0 G) 168).1 (jz_m (jZ l dC dI aC H0 G) 168).2.1 (jz_m (jZ l dC dI aC H0 G) 168).2.2.1 (jz_m (jZ l dC dI aC H0 G) 168).2.2.2 ∈ jz_T (jZ l dC dI aC H0 G) := List.mem_filter.mpr ⟨List.mem_of_getElem? (i := 747) rfl, rfl⟩
theorem hp_168 {l : Launch} {dC : Nat → ClassId} {dI : Nat → Nat → Nat} {aC : Nat → ClassId} {H0 : Heap} {G : jx_Gv} : plainName (jz_m (jZ l dC dI aC H0 G) 168).1.cls = true := by show plainName "PartText" = true; decide +kernel
theorem hs_168 {l : Launch} {dC : Nat → ClassId} {dI : Nat → Nat → Nat} {aC : Nat → ClassId} {H0 : Heap} {G : jx_Gv} : (jz_m (jZ l dC dI aC H0 G) 168).1.cls ≠ "java/lang/invoke/MethodHandle" ∧ (jz_m (jZ l dC dI aC H0 G) 168).1.cls ≠ "java/lang/invoke/VarHandle" ∧ (parseMethodDescriptor (jz_m (jZ l dC dI aC H0 G) 168).1.desc).map (fun d => d.parameters.length) = some 3 := by show "PartText" ≠ _ ∧ "PartText" ≠ _ ∧ (parseMethodDescriptor "(III)I").map _ = _; decide +kernel
theorem hm_169 {l : Launch} {dC : Nat → ClassId} {dI : Nat → Nat → Nat} {aC : Nat → ClassId} {H0 : Heap} {G : jx_Gv} : (jz_m (jZ l dC dI aC H0 G) 169).2.1 = c_169 := rfl
theorem ho_169 {l : Launch} {dC : Nat → ClassId} {dI : Nat → Nat → Nat} {aC : Nat → ClassId} {H0 : Heap} {G : jx_Gv} : (jz_m (jZ l dC dI aC H0 G) 169).1.cls = "PartTextModel" := rfl
set_option maxRecDepth 100000 in
theorem hw_169 {l : Launch} {dC : Nat → ClassId} {dI : Nat → Nat → Nat} {aC : Nat → ClassId} {H0 : Heap} {G : jx_Gv} : Jvm.Cond.code (jz_m (jZ l dC dI aC H0 G) 169).1 (jz_m (jZ l dC dI aC H0 G) 169).2.1 (jz_m (jZ l dC dI aC H0 G) 169).2.2.1 (jz_m (jZ l dC dI aC H0 G) 169).2.2.2 ∈ jz_T (jZ l dC dI aC H0 G) := List.mem_filter.mpr ⟨List.mem_of_getElem? (i := 1222) rfl, rfl⟩
theorem hp_169 {l : Launch} {dC : Nat → ClassId} {dI : Nat → Nat → Nat} {aC : Nat → ClassId} {H0 : Heap} {G : jx_Gv} : plainName (jz_m (jZ l dC dI aC H0 G) 169).1.cls = true := by show plainName "PartTextModel" = true; decide +kernel
theorem hs_169 {l : Launch} {dC : Nat → ClassId} {dI : Nat → Nat → Nat} {aC : Nat → ClassId} {H0 : Heap} {G : jx_Gv} : (jz_m (jZ l dC dI aC H0 G) 169).1.cls ≠ "java/lang/invoke/MethodHandle" ∧ (jz_m (jZ l dC dI aC H0 G) 169).1.cls ≠ "java/lang/invoke/VarHandle" ∧ (parseMethodDescriptor (jz_m (jZ l dC dI aC H0 G) 169).1.desc).map (fun d => d.parameters.length) = some 2 := by show "PartTextModel" ≠ _ ∧ "PartTextModel" ≠ _ ∧ (parseMethodDescriptor "(JJ)J").map _ = _; decide +kernel
theorem hm_170 {l : Launch} {dC : Nat → ClassId} {dI : Nat → Nat → Nat} {aC : Nat → ClassId} {H0 : Heap} {G : jx_Gv} : (jz_m (jZ l dC dI aC H0 G) 170).2.1 = c_170 := rfl
theorem ho_170 {l : Launch} {dC : Nat → ClassId} {dI : Nat → Nat → Nat} {aC : Nat → ClassId} {H0 : Heap} {G : jx_Gv} : (jz_m (jZ l dC dI aC H0 G) 170).1.cls = "PartTextModel" := rfl
set_option maxRecDepth 100000 in
theorem hw_170 {l : Launch} {dC : Nat → ClassId} {dI : Nat → Nat → Nat} {aC : Nat → ClassId} {H0 : Heap} {G : jx_Gv} : Jvm.Cond.code (jz_m (jZ l dC dI aC H0 G) 170).1 (jz_m (jZ l dC dI aC H0 G) 170).2.1 (jz_m (jZ l dC dI aC H0 G) 170).2.2.1 (jz_m (jZ l dC dI aC H0 G) 170).2.2.2 ∈ jz_T (jZ l dC dI aC H0 G) := List.mem_filter.mpr ⟨List.mem_of_getElem? (i := 1219) rfl, rfl⟩
theorem hp_170 {l : Launch} {dC : Nat → ClassId} {dI : Nat → Nat → Nat} {aC : Nat → ClassId} {H0 : Heap} {G : jx_Gv} : plainName (jz_m (jZ l dC dI aC H0 G) 170).1.cls = true := by show plainName "PartTextModel" = true; decide +kernel
theorem hs_170 {l : Launch} {dC : Nat → ClassId} {dI : Nat → Nat → Nat} {aC : Nat → ClassId} {H0 : Heap} {G : jx_Gv} : (jz_m (jZ l dC dI aC H0 G) 170).1.cls ≠ "java/lang/invoke/MethodHandle" ∧ (jz_m (jZ l dC dI aC H0 G) 170).1.cls ≠ "java/lang/invoke/VarHandle" ∧ (parseMethodDescriptor (jz_m (jZ l dC dI aC H0 G) 170).1.desc).map (fun d => d.parameters.length) = some 3 := by show "PartTextModel" ≠ _ ∧ "PartTextModel" ≠ _ ∧ (parseMethodDescriptor "(III)I").map _ = _; decide +kernel
theorem hm_171 {l : Launch} {dC : Nat → ClassId} {dI : Nat → Nat → Nat} {aC : Nat → ClassId} {H0 : Heap} {G : jx_Gv} : (jz_m (jZ l dC dI aC H0 G) 171).2.1 = c_171 := rfl
theorem ho_171 {l : Launch} {dC : Nat → ClassId} {dI : Nat → Nat → Nat} {aC : Nat → ClassId} {H0 : Heap} {G : jx_Gv} : (jz_m (jZ l dC dI aC H0 G) 171).1.cls = "PartText$Words" := rfl
set_option maxRecDepth 100000 in
theorem hw_171 {l : Launch} {dC : Nat → ClassId} {dI : Nat → Nat → Nat} {aC : Nat → ClassId} {H0 : Heap} {G : jx_Gv} : Jvm.Cond.code (jz_m (jZ l dC dI aC H0 G) 171).1 (jz_m (jZ l dC dI aC H0 G) 171).2.1 (jz_m (jZ l dC dI aC H0 G) 171).2.2.1 (jz_m (jZ l dC dI aC H0 G) 171).2.2.2 ∈ jz_T (jZ l dC dI aC H0 G) := List.mem_filter.mpr ⟨List.mem_of_getElem? (i := 776) rfl, rfl⟩
theorem hp_171 {l : Launch} {dC : Nat → ClassId} {dI : Nat → Nat → Nat} {aC : Nat → ClassId} {H0 : Heap} {G : jx_Gv} : plainName (jz_m (jZ l dC dI aC H0 G) 171).1.cls = true := by show plainName "PartText$Words" = true; decide +kernel
theorem hs_171 {l : Launch} {dC : Nat → ClassId} {dI : Nat → Nat → Nat} {aC : Nat → ClassId} {H0 : Heap} {G : jx_Gv} : (jz_m (jZ l dC dI aC H0 G) 171).1.cls ≠ "java/lang/invoke/MethodHandle" ∧ (jz_m (jZ l dC dI aC H0 G) 171).1.cls ≠ "java/lang/invoke/VarHandle" ∧ (parseMethodDescriptor (jz_m (jZ l dC dI aC H0 G) 171).1.desc).map (fun d => d.parameters.length) = some 1 := by show "PartText$Words" ≠ _ ∧ "PartText$Words" ≠ _ ∧ (parseMethodDescriptor "(I)J").map _ = _; decide +kernel
theorem hm_172 {l : Launch} {dC : Nat → ClassId} {dI : Nat → Nat → Nat} {aC : Nat → ClassId} {H0 : Heap} {G : jx_Gv} : (jz_m (jZ l dC dI aC H0 G) 172).2.1 = c_172 := rfl
theorem ho_172 {l : Launch} {dC : Nat → ClassId} {dI : Nat → Nat → Nat} {aC : Nat → ClassId} {H0 : Heap} {G : jx_Gv} : (jz_m (jZ l dC dI aC H0 G) 172).1.cls = "PartText$Words" := rfl
set_option maxRecDepth 100000 in
theorem hw_172 {l : Launch} {dC : Nat → ClassId} {dI : Nat → Nat → Nat} {aC : Nat → ClassId} {H0 : Heap} {G : jx_Gv} : Jvm.Cond.code (jz_m (jZ l dC dI aC H0 G) 172).1 (jz_m (jZ l dC dI aC H0 G) 172).2.1 (jz_m (jZ l dC dI aC H0 G) 172).2.2.1 (jz_m (jZ l dC dI aC H0 G) 172).2.2.2 ∈ jz_T (jZ l dC dI aC H0 G) := List.mem_filter.mpr ⟨List.mem_of_getElem? (i := 784) rfl, rfl⟩
theorem hp_172 {l : Launch} {dC : Nat → ClassId} {dI : Nat → Nat → Nat} {aC : Nat → ClassId} {H0 : Heap} {G : jx_Gv} : plainName (jz_m (jZ l dC dI aC H0 G) 172).1.cls = true := by show plainName "PartText$Words" = true; decide +kernel
theorem hs_172 {l : Launch} {dC : Nat → ClassId} {dI : Nat → Nat → Nat} {aC : Nat → ClassId} {H0 : Heap} {G : jx_Gv} : (jz_m (jZ l dC dI aC H0 G) 172).1.cls ≠ "java/lang/invoke/MethodHandle" ∧ (jz_m (jZ l dC dI aC H0 G) 172).1.cls ≠ "java/lang/invoke/VarHandle" ∧ (parseMethodDescriptor (jz_m (jZ l dC dI aC H0 G) 172).1.desc).map (fun d => d.parameters.length) = some 1 := by show "PartText$Words" ≠ _ ∧ "PartText$Words" ≠ _ ∧ (parseMethodDescriptor "(I)I").map _ = _; decide +kernel
theorem hm_173 {l : Launch} {dC : Nat → ClassId} {dI : Nat → Nat → Nat} {aC : Nat → ClassId} {H0 : Heap} {G : jx_Gv} : (jz_m (jZ l dC dI aC H0 G) 173).2.1 = c_173 := rfl
theorem ho_173 {l : Launch} {dC : Nat → ClassId} {dI : Nat → Nat → Nat} {aC : Nat → ClassId} {H0 : Heap} {G : jx_Gv} : (jz_m (jZ l dC dI aC H0 G) 173).1.cls = "PartText$Writer" := rfl
set_option maxRecDepth 100000 in
theorem hw_173 {l : Launch} {dC : Nat → ClassId} {dI : Nat → Nat → Nat} {aC : Nat → ClassId} {H0 : Heap} {G : jx_Gv} : Jvm.Cond.code (jz_m (jZ l dC dI aC H0 G) 173).1 (jz_m (jZ l dC dI aC H0 G) 173).2.1 (jz_m (jZ l dC dI aC H0 G) 173).2.2.1 (jz_m (jZ l dC dI aC H0 G) 173).2.2.2 ∈ jz_T (jZ l dC dI aC H0 G) := List.mem_filter.mpr ⟨List.mem_of_getElem? (i := 780) rfl, rfl⟩
theorem hp_173 {l : Launch} {dC : Nat → ClassId} {dI : Nat → Nat → Nat} {aC : Nat → ClassId} {H0 : Heap} {G : jx_Gv} : plainName (jz_m (jZ l dC dI aC H0 G) 173).1.cls = true := by show plainName "PartText$Writer" = true; decide +kernel
theorem hs_173 {l : Launch} {dC : Nat → ClassId} {dI : Nat → Nat → Nat} {aC : Nat → ClassId} {H0 : Heap} {G : jx_Gv} : (jz_m (jZ l dC dI aC H0 G) 173).1.cls ≠ "java/lang/invoke/MethodHandle" ∧ (jz_m (jZ l dC dI aC H0 G) 173).1.cls ≠ "java/lang/invoke/VarHandle" ∧ (parseMethodDescriptor (jz_m (jZ l dC dI aC H0 G) 173).1.desc).map (fun d => d.parameters.length) = some 1 := by show "PartText$Writer" ≠ _ ∧ "PartText$Writer" ≠ _ ∧ (parseMethodDescriptor "(J)V").map _ = _; decide +kernel
theorem hm_174 {l : Launch} {dC : Nat → ClassId} {dI : Nat → Nat → Nat} {aC : Nat → ClassId} {H0 : Heap} {G : jx_Gv} : (jz_m (jZ l dC dI aC H0 G) 174).2.1 = c_174 := rfl
theorem ho_174 {l : Launch} {dC : Nat → ClassId} {dI : Nat → Nat → Nat} {aC : Nat → ClassId} {H0 : Heap} {G : jx_Gv} : (jz_m (jZ l dC dI aC H0 G) 174).1.cls = "PartText$Edition" := rfl
set_option maxRecDepth 100000 in
theorem hw_174 {l : Launch} {dC : Nat → ClassId} {dI : Nat → Nat → Nat} {aC : Nat → ClassId} {H0 : Heap} {G : jx_Gv} : Jvm.Cond.code (jz_m (jZ l dC dI aC H0 G) 174).1 (jz_m (jZ l dC dI aC H0 G) 174).2.1 (jz_m (jZ l dC dI aC H0 G) 174).2.2.1 (jz_m (jZ l dC dI aC H0 G) 174).2.2.2 ∈ jz_T (jZ l dC dI aC H0 G) := List.mem_filter.mpr ⟨List.mem_of_getElem? (i := 788) rfl, rfl⟩
theorem hp_174 {l : Launch} {dC : Nat → ClassId} {dI : Nat → Nat → Nat} {aC : Nat → ClassId} {H0 : Heap} {G : jx_Gv} : plainName (jz_m (jZ l dC dI aC H0 G) 174).1.cls = true := by show plainName "PartText$Edition" = true; decide +kernel
theorem hs_174 {l : Launch} {dC : Nat → ClassId} {dI : Nat → Nat → Nat} {aC : Nat → ClassId} {H0 : Heap} {G : jx_Gv} : (jz_m (jZ l dC dI aC H0 G) 174).1.cls ≠ "java/lang/invoke/MethodHandle" ∧ (jz_m (jZ l dC dI aC H0 G) 174).1.cls ≠ "java/lang/invoke/VarHandle" ∧ (parseMethodDescriptor (jz_m (jZ l dC dI aC H0 G) 174).1.desc).map (fun d => d.parameters.length) = some 1 := by show "PartText$Edition" ≠ _ ∧ "PartText$Edition" ≠ _ ∧ (parseMethodDescriptor "(I)J").map _ = _; decide +kernel
theorem hm_175 {l : Launch} {dC : Nat → ClassId} {dI : Nat → Nat → Nat} {aC : Nat → ClassId} {H0 : Heap} {G : jx_Gv} : (jz_m (jZ l dC dI aC H0 G) 175).2.1 = c_175 := rfl
theorem ho_175 {l : Launch} {dC : Nat → ClassId} {dI : Nat → Nat → Nat} {aC : Nat → ClassId} {H0 : Heap} {G : jx_Gv} : (jz_m (jZ l dC dI aC H0 G) 175).1.cls = "PartText$Writer" := rfl
set_option maxRecDepth 100000 in
theorem hw_175 {l : Launch} {dC : Nat → ClassId} {dI : Nat → Nat → Nat} {aC : Nat → ClassId} {H0 : Heap} {G : jx_Gv} : Jvm.Cond.code (jz_m (jZ l dC dI aC H0 G) 175).1 (jz_m (jZ l dC dI aC H0 G) 175).2.1 (jz_m (jZ l dC dI aC H0 G) 175).2.2.1 (jz_m (jZ l dC dI aC H0 G) 175).2.2.2 ∈ jz_T (jZ l dC dI aC H0 G) := List.mem_filter.mpr ⟨List.mem_of_getElem? (i := 792) rfl, rfl⟩
theorem hp_175 {l : Launch} {dC : Nat → ClassId} {dI : Nat → Nat → Nat} {aC : Nat → ClassId} {H0 : Heap} {G : jx_Gv} : plainName (jz_m (jZ l dC dI aC H0 G) 175).1.cls = true := by show plainName "PartText$Writer" = true; decide +kernel
theorem hs_175 {l : Launch} {dC : Nat → ClassId} {dI : Nat → Nat → Nat} {aC : Nat → ClassId} {H0 : Heap} {G : jx_Gv} : (jz_m (jZ l dC dI aC H0 G) 175).1.cls ≠ "java/lang/invoke/MethodHandle" ∧ (jz_m (jZ l dC dI aC H0 G) 175).1.cls ≠ "java/lang/invoke/VarHandle" ∧ (parseMethodDescriptor (jz_m (jZ l dC dI aC H0 G) 175).1.desc).map (fun d => d.parameters.length) = some 1 := by show "PartText$Writer" ≠ _ ∧ "PartText$Writer" ≠ _ ∧ (parseMethodDescriptor "(I)V").map _ = _; decide +kernel
theorem hm_176 {l : Launch} {dC : Nat → ClassId} {dI : Nat → Nat → Nat} {aC : Nat → ClassId} {H0 : Heap} {G : jx_Gv} : (jz_m (jZ l dC dI aC H0 G) 176).2.1 = c_176 := rfl
theorem ho_176 {l : Launch} {dC : Nat → ClassId} {dI : Nat → Nat → Nat} {aC : Nat → ClassId} {H0 : Heap} {G : jx_Gv} : (jz_m (jZ l dC dI aC H0 G) 176).1.cls = "PartText$Writer" := rfl
set_option maxRecDepth 100000 in
theorem hw_176 {l : Launch} {dC : Nat → ClassId} {dI : Nat → Nat → Nat} {aC : Nat → ClassId} {H0 : Heap} {G : jx_Gv} : Jvm.Cond.code (jz_m (jZ l dC dI aC H0 G) 176).1 (jz_m (jZ l dC dI aC H0 G) 176).2.1 (jz_m (jZ l dC dI aC H0 G) 176).2.2.1 (jz_m (jZ l dC dI aC H0 G) 176).2.2.2 ∈ jz_T (jZ l dC dI aC H0 G) := List.mem_filter.mpr ⟨List.mem_of_getElem? (i := 770) rfl, rfl⟩
theorem hp_176 {l : Launch} {dC : Nat → ClassId} {dI : Nat → Nat → Nat} {aC : Nat → ClassId} {H0 : Heap} {G : jx_Gv} : plainName (jz_m (jZ l dC dI aC H0 G) 176).1.cls = true := by show plainName "PartText$Writer" = true; decide +kernel
theorem hs_176 {l : Launch} {dC : Nat → ClassId} {dI : Nat → Nat → Nat} {aC : Nat → ClassId} {H0 : Heap} {G : jx_Gv} : (jz_m (jZ l dC dI aC H0 G) 176).1.cls ≠ "java/lang/invoke/MethodHandle" ∧ (jz_m (jZ l dC dI aC H0 G) 176).1.cls ≠ "java/lang/invoke/VarHandle" ∧ (parseMethodDescriptor (jz_m (jZ l dC dI aC H0 G) 176).1.desc).map (fun d => d.parameters.length) = some 3 := by show "PartText$Writer" ≠ _ ∧ "PartText$Writer" ≠ _ ∧ (parseMethodDescriptor "(LPartText$Edition;II)V").map _ = _; decide +kernel
theorem hm_177 {l : Launch} {dC : Nat → ClassId} {dI : Nat → Nat → Nat} {aC : Nat → ClassId} {H0 : Heap} {G : jx_Gv} : (jz_m (jZ l dC dI aC H0 G) 177).2.1 = c_177 := rfl
theorem ho_177 {l : Launch} {dC : Nat → ClassId} {dI : Nat → Nat → Nat} {aC : Nat → ClassId} {H0 : Heap} {G : jx_Gv} : (jz_m (jZ l dC dI aC H0 G) 177).1.cls = "PartText$Writer" := rfl
set_option maxRecDepth 100000 in
theorem hw_177 {l : Launch} {dC : Nat → ClassId} {dI : Nat → Nat → Nat} {aC : Nat → ClassId} {H0 : Heap} {G : jx_Gv} : Jvm.Cond.code (jz_m (jZ l dC dI aC H0 G) 177).1 (jz_m (jZ l dC dI aC H0 G) 177).2.1 (jz_m (jZ l dC dI aC H0 G) 177).2.2.1 (jz_m (jZ l dC dI aC H0 G) 177).2.2.2 ∈ jz_T (jZ l dC dI aC H0 G) := List.mem_filter.mpr ⟨List.mem_of_getElem? (i := 764) rfl, rfl⟩
theorem hp_177 {l : Launch} {dC : Nat → ClassId} {dI : Nat → Nat → Nat} {aC : Nat → ClassId} {H0 : Heap} {G : jx_Gv} : plainName (jz_m (jZ l dC dI aC H0 G) 177).1.cls = true := by show plainName "PartText$Writer" = true; decide +kernel
theorem hs_177 {l : Launch} {dC : Nat → ClassId} {dI : Nat → Nat → Nat} {aC : Nat → ClassId} {H0 : Heap} {G : jx_Gv} : (jz_m (jZ l dC dI aC H0 G) 177).1.cls ≠ "java/lang/invoke/MethodHandle" ∧ (jz_m (jZ l dC dI aC H0 G) 177).1.cls ≠ "java/lang/invoke/VarHandle" ∧ (parseMethodDescriptor (jz_m (jZ l dC dI aC H0 G) 177).1.desc).map (fun d => d.parameters.length) = some 2 := by show "PartText$Writer" ≠ _ ∧ "PartText$Writer" ≠ _ ∧ (parseMethodDescriptor "(LPartText$Edition;I)V").map _ = _; decide +kernel
theorem hm_178 {l : Launch} {dC : Nat → ClassId} {dI : Nat → Nat → Nat} {aC : Nat → ClassId} {H0 : Heap} {G : jx_Gv} : (jz_m (jZ l dC dI aC H0 G) 178).2.1 = c_178 := rfl
theorem ho_178 {l : Launch} {dC : Nat → ClassId} {dI : Nat → Nat → Nat} {aC : Nat → ClassId} {H0 : Heap} {G : jx_Gv} : (jz_m (jZ l dC dI aC H0 G) 178).1.cls = "PartText$Writer" := rfl
set_option maxRecDepth 100000 in
theorem hw_178 {l : Launch} {dC : Nat → ClassId} {dI : Nat → Nat → Nat} {aC : Nat → ClassId} {H0 : Heap} {G : jx_Gv} : Jvm.Cond.code (jz_m (jZ l dC dI aC H0 G) 178).1 (jz_m (jZ l dC dI aC H0 G) 178).2.1 (jz_m (jZ l dC dI aC H0 G) 178).2.2.1 (jz_m (jZ l dC dI aC H0 G) 178).2.2.2 ∈ jz_T (jZ l dC dI aC H0 G) := List.mem_filter.mpr ⟨List.mem_of_getElem? (i := 758) rfl, rfl⟩
theorem hp_178 {l : Launch} {dC : Nat → ClassId} {dI : Nat → Nat → Nat} {aC : Nat → ClassId} {H0 : Heap} {G : jx_Gv} : plainName (jz_m (jZ l dC dI aC H0 G) 178).1.cls = true := by show plainName "PartText$Writer" = true; decide +kernel
theorem hs_178 {l : Launch} {dC : Nat → ClassId} {dI : Nat → Nat → Nat} {aC : Nat → ClassId} {H0 : Heap} {G : jx_Gv} : (jz_m (jZ l dC dI aC H0 G) 178).1.cls ≠ "java/lang/invoke/MethodHandle" ∧ (jz_m (jZ l dC dI aC H0 G) 178).1.cls ≠ "java/lang/invoke/VarHandle" ∧ (parseMethodDescriptor (jz_m (jZ l dC dI aC H0 G) 178).1.desc).map (fun d => d.parameters.length) = some 1 := by show "PartText$Writer" ≠ _ ∧ "PartText$Writer" ≠ _ ∧ (parseMethodDescriptor "(LPartText$Edition;)V").map _ = _; decide +kernel
theorem hm_179 {l : Launch} {dC : Nat → ClassId} {dI : Nat → Nat → Nat} {aC : Nat → ClassId} {H0 : Heap} {G : jx_Gv} : (jz_m (jZ l dC dI aC H0 G) 179).2.1 = c_179 := rfl
theorem ho_179 {l : Launch} {dC : Nat → ClassId} {dI : Nat → Nat → Nat} {aC : Nat → ClassId} {H0 : Heap} {G : jx_Gv} : (jz_m (jZ l dC dI aC H0 G) 179).1.cls = "PartText$Octets" := rfl
set_option maxRecDepth 100000 in
theorem hw_179 {l : Launch} {dC : Nat → ClassId} {dI : Nat → Nat → Nat} {aC : Nat → ClassId} {H0 : Heap} {G : jx_Gv} : Jvm.Cond.code (jz_m (jZ l dC dI aC H0 G) 179).1 (jz_m (jZ l dC dI aC H0 G) 179).2.1 (jz_m (jZ l dC dI aC H0 G) 179).2.2.1 (jz_m (jZ l dC dI aC H0 G) 179).2.2.2 ∈ jz_T (jZ l dC dI aC H0 G) := List.mem_filter.mpr ⟨List.mem_of_getElem? (i := 800) rfl, rfl⟩
theorem hp_179 {l : Launch} {dC : Nat → ClassId} {dI : Nat → Nat → Nat} {aC : Nat → ClassId} {H0 : Heap} {G : jx_Gv} : plainName (jz_m (jZ l dC dI aC H0 G) 179).1.cls = true := by show plainName "PartText$Octets" = true; decide +kernel
theorem hs_179 {l : Launch} {dC : Nat → ClassId} {dI : Nat → Nat → Nat} {aC : Nat → ClassId} {H0 : Heap} {G : jx_Gv} : (jz_m (jZ l dC dI aC H0 G) 179).1.cls ≠ "java/lang/invoke/MethodHandle" ∧ (jz_m (jZ l dC dI aC H0 G) 179).1.cls ≠ "java/lang/invoke/VarHandle" ∧ (parseMethodDescriptor (jz_m (jZ l dC dI aC H0 G) 179).1.desc).map (fun d => d.parameters.length) = some 0 := by show "PartText$Octets" ≠ _ ∧ "PartText$Octets" ≠ _ ∧ (parseMethodDescriptor "()Z").map _ = _; decide +kernel
theorem hm_180 {l : Launch} {dC : Nat → ClassId} {dI : Nat → Nat → Nat} {aC : Nat → ClassId} {H0 : Heap} {G : jx_Gv} : (jz_m (jZ l dC dI aC H0 G) 180).2.1 = c_180 := rfl
theorem ho_180 {l : Launch} {dC : Nat → ClassId} {dI : Nat → Nat → Nat} {aC : Nat → ClassId} {H0 : Heap} {G : jx_Gv} : (jz_m (jZ l dC dI aC H0 G) 180).1.cls = "PartText" := rfl
set_option maxRecDepth 100000 in
theorem hw_180 {l : Launch} {dC : Nat → ClassId} {dI : Nat → Nat → Nat} {aC : Nat → ClassId} {H0 : Heap} {G : jx_Gv} : Jvm.Cond.code (jz_m (jZ l dC dI aC H0 G) 180).1 (jz_m (jZ l dC dI aC H0 G) 180).2.1 (jz_m (jZ l dC dI aC H0 G) 180).2.2.1 (jz_m (jZ l dC dI aC H0 G) 180).2.2.2 ∈ jz_T (jZ l dC dI aC H0 G) := List.mem_filter.mpr ⟨List.mem_of_getElem? (i := 754) rfl, rfl⟩
theorem hp_180 {l : Launch} {dC : Nat → ClassId} {dI : Nat → Nat → Nat} {aC : Nat → ClassId} {H0 : Heap} {G : jx_Gv} : plainName (jz_m (jZ l dC dI aC H0 G) 180).1.cls = true := by show plainName "PartText" = true; decide +kernel
theorem hs_180 {l : Launch} {dC : Nat → ClassId} {dI : Nat → Nat → Nat} {aC : Nat → ClassId} {H0 : Heap} {G : jx_Gv} : (jz_m (jZ l dC dI aC H0 G) 180).1.cls ≠ "java/lang/invoke/MethodHandle" ∧ (jz_m (jZ l dC dI aC H0 G) 180).1.cls ≠ "java/lang/invoke/VarHandle" ∧ (parseMethodDescriptor (jz_m (jZ l dC dI aC H0 G) 180).1.desc).map (fun d => d.parameters.length) = some 0 := by show "PartText" ≠ _ ∧ "PartText" ≠ _ ∧ (parseMethodDescriptor "()I").map _ = _; decide +kernel
theorem hm_181 {l : Launch} {dC : Nat → ClassId} {dI : Nat → Nat → Nat} {aC : Nat → ClassId} {H0 : Heap} {G : jx_Gv} : (jz_m (jZ l dC dI aC H0 G) 181).2.1 = c_181 := rfl
theorem ho_181 {l : Launch} {dC : Nat → ClassId} {dI : Nat → Nat → Nat} {aC : Nat → ClassId} {H0 : Heap} {G : jx_Gv} : (jz_m (jZ l dC dI aC H0 G) 181).1.cls = "PartTextModel" := rfl
set_option maxRecDepth 100000 in
theorem hw_181 {l : Launch} {dC : Nat → ClassId} {dI : Nat → Nat → Nat} {aC : Nat → ClassId} {H0 : Heap} {G : jx_Gv} : Jvm.Cond.code (jz_m (jZ l dC dI aC H0 G) 181).1 (jz_m (jZ l dC dI aC H0 G) 181).2.1 (jz_m (jZ l dC dI aC H0 G) 181).2.2.1 (jz_m (jZ l dC dI aC H0 G) 181).2.2.2 ∈ jz_T (jZ l dC dI aC H0 G) := List.mem_filter.mpr ⟨List.mem_of_getElem? (i := 1278) rfl, rfl⟩
theorem hp_181 {l : Launch} {dC : Nat → ClassId} {dI : Nat → Nat → Nat} {aC : Nat → ClassId} {H0 : Heap} {G : jx_Gv} : plainName (jz_m (jZ l dC dI aC H0 G) 181).1.cls = true := by show plainName "PartTextModel" = true; decide +kernel
theorem hs_181 {l : Launch} {dC : Nat → ClassId} {dI : Nat → Nat → Nat} {aC : Nat → ClassId} {H0 : Heap} {G : jx_Gv} : (jz_m (jZ l dC dI aC H0 G) 181).1.cls ≠ "java/lang/invoke/MethodHandle" ∧ (jz_m (jZ l dC dI aC H0 G) 181).1.cls ≠ "java/lang/invoke/VarHandle" ∧ (parseMethodDescriptor (jz_m (jZ l dC dI aC H0 G) 181).1.desc).map (fun d => d.parameters.length) = some 0 := by show "PartTextModel" ≠ _ ∧ "PartTextModel" ≠ _ ∧ (parseMethodDescriptor "()I").map _ = _; decide +kernel
theorem hm_182 {l : Launch} {dC : Nat → ClassId} {dI : Nat → Nat → Nat} {aC : Nat → ClassId} {H0 : Heap} {G : jx_Gv} : (jz_m (jZ l dC dI aC H0 G) 182).2.1 = c_182 := rfl
theorem ho_182 {l : Launch} {dC : Nat → ClassId} {dI : Nat → Nat → Nat} {aC : Nat → ClassId} {H0 : Heap} {G : jx_Gv} : (jz_m (jZ l dC dI aC H0 G) 182).1.cls = "PartText" := rfl
set_option maxRecDepth 100000 in
theorem hw_182 {l : Launch} {dC : Nat → ClassId} {dI : Nat → Nat → Nat} {aC : Nat → ClassId} {H0 : Heap} {G : jx_Gv} : Jvm.Cond.code (jz_m (jZ l dC dI aC H0 G) 182).1 (jz_m (jZ l dC dI aC H0 G) 182).2.1 (jz_m (jZ l dC dI aC H0 G) 182).2.2.1 (jz_m (jZ l dC dI aC H0 G) 182).2.2.2 ∈ jz_T (jZ l dC dI aC H0 G) := List.mem_filter.mpr ⟨List.mem_of_getElem? (i := 805) rfl, rfl⟩
theorem hp_182 {l : Launch} {dC : Nat → ClassId} {dI : Nat → Nat → Nat} {aC : Nat → ClassId} {H0 : Heap} {G : jx_Gv} : plainName (jz_m (jZ l dC dI aC H0 G) 182).1.cls = true := by show plainName "PartText" = true; decide +kernel
theorem hs_182 {l : Launch} {dC : Nat → ClassId} {dI : Nat → Nat → Nat} {aC : Nat → ClassId} {H0 : Heap} {G : jx_Gv} : (jz_m (jZ l dC dI aC H0 G) 182).1.cls ≠ "java/lang/invoke/MethodHandle" ∧ (jz_m (jZ l dC dI aC H0 G) 182).1.cls ≠ "java/lang/invoke/VarHandle" ∧ (parseMethodDescriptor (jz_m (jZ l dC dI aC H0 G) 182).1.desc).map (fun d => d.parameters.length) = some 1 := by show "PartText" ≠ _ ∧ "PartText" ≠ _ ∧ (parseMethodDescriptor "(I)I").map _ = _; decide +kernel
theorem hm_183 {l : Launch} {dC : Nat → ClassId} {dI : Nat → Nat → Nat} {aC : Nat → ClassId} {H0 : Heap} {G : jx_Gv} : (jz_m (jZ l dC dI aC H0 G) 183).2.1 = c_183 := rfl
theorem ho_183 {l : Launch} {dC : Nat → ClassId} {dI : Nat → Nat → Nat} {aC : Nat → ClassId} {H0 : Heap} {G : jx_Gv} : (jz_m (jZ l dC dI aC H0 G) 183).1.cls = "PartTextModel" := rfl
set_option maxRecDepth 100000 in
theorem hw_183 {l : Launch} {dC : Nat → ClassId} {dI : Nat → Nat → Nat} {aC : Nat → ClassId} {H0 : Heap} {G : jx_Gv} : Jvm.Cond.code (jz_m (jZ l dC dI aC H0 G) 183).1 (jz_m (jZ l dC dI aC H0 G) 183).2.1 (jz_m (jZ l dC dI aC H0 G) 183).2.2.1 (jz_m (jZ l dC dI aC H0 G) 183).2.2.2 ∈ jz_T (jZ l dC dI aC H0 G) := List.mem_filter.mpr ⟨List.mem_of_getElem? (i := 1016) rfl, rfl⟩
theorem hp_183 {l : Launch} {dC : Nat → ClassId} {dI : Nat → Nat → Nat} {aC : Nat → ClassId} {H0 : Heap} {G : jx_Gv} : plainName (jz_m (jZ l dC dI aC H0 G) 183).1.cls = true := by show plainName "PartTextModel" = true; decide +kernel
theorem hs_183 {l : Launch} {dC : Nat → ClassId} {dI : Nat → Nat → Nat} {aC : Nat → ClassId} {H0 : Heap} {G : jx_Gv} : (jz_m (jZ l dC dI aC H0 G) 183).1.cls ≠ "java/lang/invoke/MethodHandle" ∧ (jz_m (jZ l dC dI aC H0 G) 183).1.cls ≠ "java/lang/invoke/VarHandle" ∧ (parseMethodDescriptor (jz_m (jZ l dC dI aC H0 G) 183).1.desc).map (fun d => d.parameters.length) = some 1 := by show "PartTextModel" ≠ _ ∧ "PartTextModel" ≠ _ ∧ (parseMethodDescriptor "(I)I").map _ = _; decide +kernel
theorem hm_184 {l : Launch} {dC : Nat → ClassId} {dI : Nat → Nat → Nat} {aC : Nat → ClassId} {H0 : Heap} {G : jx_Gv} : (jz_m (jZ l dC dI aC H0 G) 184).2.1 = c_184 := rfl
theorem ho_184 {l : Launch} {dC : Nat → ClassId} {dI : Nat → Nat → Nat} {aC : Nat → ClassId} {H0 : Heap} {G : jx_Gv} : (jz_m (jZ l dC dI aC H0 G) 184).1.cls = "PartText$Edition" := rfl
set_option maxRecDepth 100000 in
theorem hw_184 {l : Launch} {dC : Nat → ClassId} {dI : Nat → Nat → Nat} {aC : Nat → ClassId} {H0 : Heap} {G : jx_Gv} : Jvm.Cond.code (jz_m (jZ l dC dI aC H0 G) 184).1 (jz_m (jZ l dC dI aC H0 G) 184).2.1 (jz_m (jZ l dC dI aC H0 G) 184).2.2.1 (jz_m (jZ l dC dI aC H0 G) 184).2.2.2 ∈ jz_T (jZ l dC dI aC H0 G) := List.mem_filter.mpr ⟨List.mem_of_getElem? (i := 827) rfl, rfl⟩
theorem hp_184 {l : Launch} {dC : Nat → ClassId} {dI : Nat → Nat → Nat} {aC : Nat → ClassId} {H0 : Heap} {G : jx_Gv} : plainName (jz_m (jZ l dC dI aC H0 G) 184).1.cls = true := by show plainName "PartText$Edition" = true; decide +kernel
theorem hs_184 {l : Launch} {dC : Nat → ClassId} {dI : Nat → Nat → Nat} {aC : Nat → ClassId} {H0 : Heap} {G : jx_Gv} : (jz_m (jZ l dC dI aC H0 G) 184).1.cls ≠ "java/lang/invoke/MethodHandle" ∧ (jz_m (jZ l dC dI aC H0 G) 184).1.cls ≠ "java/lang/invoke/VarHandle" ∧ (parseMethodDescriptor (jz_m (jZ l dC dI aC H0 G) 184).1.desc).map (fun d => d.parameters.length) = some 4 := by show "PartText$Edition" ≠ _ ∧ "PartText$Edition" ≠ _ ∧ (parseMethodDescriptor "(IILPartText$Edition;I)Z").map _ = _; decide +kernel
theorem hm_185 {l : Launch} {dC : Nat → ClassId} {dI : Nat → Nat → Nat} {aC : Nat → ClassId} {H0 : Heap} {G : jx_Gv} : (jz_m (jZ l dC dI aC H0 G) 185).2.1 = c_185 := rfl
theorem ho_185 {l : Launch} {dC : Nat → ClassId} {dI : Nat → Nat → Nat} {aC : Nat → ClassId} {H0 : Heap} {G : jx_Gv} : (jz_m (jZ l dC dI aC H0 G) 185).1.cls = "PartText$Edition" := rfl
set_option maxRecDepth 100000 in
theorem hw_185 {l : Launch} {dC : Nat → ClassId} {dI : Nat → Nat → Nat} {aC : Nat → ClassId} {H0 : Heap} {G : jx_Gv} : Jvm.Cond.code (jz_m (jZ l dC dI aC H0 G) 185).1 (jz_m (jZ l dC dI aC H0 G) 185).2.1 (jz_m (jZ l dC dI aC H0 G) 185).2.2.1 (jz_m (jZ l dC dI aC H0 G) 185).2.2.2 ∈ jz_T (jZ l dC dI aC H0 G) := List.mem_filter.mpr ⟨List.mem_of_getElem? (i := 822) rfl, rfl⟩
theorem hp_185 {l : Launch} {dC : Nat → ClassId} {dI : Nat → Nat → Nat} {aC : Nat → ClassId} {H0 : Heap} {G : jx_Gv} : plainName (jz_m (jZ l dC dI aC H0 G) 185).1.cls = true := by show plainName "PartText$Edition" = true; decide +kernel
theorem hs_185 {l : Launch} {dC : Nat → ClassId} {dI : Nat → Nat → Nat} {aC : Nat → ClassId} {H0 : Heap} {G : jx_Gv} : (jz_m (jZ l dC dI aC H0 G) 185).1.cls ≠ "java/lang/invoke/MethodHandle" ∧ (jz_m (jZ l dC dI aC H0 G) 185).1.cls ≠ "java/lang/invoke/VarHandle" ∧ (parseMethodDescriptor (jz_m (jZ l dC dI aC H0 G) 185).1.desc).map (fun d => d.parameters.length) = some 3 := by show "PartText$Edition" ≠ _ ∧ "PartText$Edition" ≠ _ ∧ (parseMethodDescriptor "(ILPartText$Edition;I)Z").map _ = _; decide +kernel
theorem hm_186 {l : Launch} {dC : Nat → ClassId} {dI : Nat → Nat → Nat} {aC : Nat → ClassId} {H0 : Heap} {G : jx_Gv} : (jz_m (jZ l dC dI aC H0 G) 186).2.1 = c_186 := rfl
theorem ho_186 {l : Launch} {dC : Nat → ClassId} {dI : Nat → Nat → Nat} {aC : Nat → ClassId} {H0 : Heap} {G : jx_Gv} : (jz_m (jZ l dC dI aC H0 G) 186).1.cls = "PartText$Edition" := rfl
set_option maxRecDepth 100000 in
theorem hw_186 {l : Launch} {dC : Nat → ClassId} {dI : Nat → Nat → Nat} {aC : Nat → ClassId} {H0 : Heap} {G : jx_Gv} : Jvm.Cond.code (jz_m (jZ l dC dI aC H0 G) 186).1 (jz_m (jZ l dC dI aC H0 G) 186).2.1 (jz_m (jZ l dC dI aC H0 G) 186).2.2.1 (jz_m (jZ l dC dI aC H0 G) 186).2.2.2 ∈ jz_T (jZ l dC dI aC H0 G) := List.mem_filter.mpr ⟨List.mem_of_getElem? (i := 818) rfl, rfl⟩
theorem hp_186 {l : Launch} {dC : Nat → ClassId} {dI : Nat → Nat → Nat} {aC : Nat → ClassId} {H0 : Heap} {G : jx_Gv} : plainName (jz_m (jZ l dC dI aC H0 G) 186).1.cls = true := by show plainName "PartText$Edition" = true; decide +kernel
theorem hs_186 {l : Launch} {dC : Nat → ClassId} {dI : Nat → Nat → Nat} {aC : Nat → ClassId} {H0 : Heap} {G : jx_Gv} : (jz_m (jZ l dC dI aC H0 G) 186).1.cls ≠ "java/lang/invoke/MethodHandle" ∧ (jz_m (jZ l dC dI aC H0 G) 186).1.cls ≠ "java/lang/invoke/VarHandle" ∧ (parseMethodDescriptor (jz_m (jZ l dC dI aC H0 G) 186).1.desc).map (fun d => d.parameters.length) = some 2 := by show "PartText$Edition" ≠ _ ∧ "PartText$Edition" ≠ _ ∧ (parseMethodDescriptor "(LPartText$Edition;I)Z").map _ = _; decide +kernel
theorem hm_187 {l : Launch} {dC : Nat → ClassId} {dI : Nat → Nat → Nat} {aC : Nat → ClassId} {H0 : Heap} {G : jx_Gv} : (jz_m (jZ l dC dI aC H0 G) 187).2.1 = c_187 := rfl
theorem ho_187 {l : Launch} {dC : Nat → ClassId} {dI : Nat → Nat → Nat} {aC : Nat → ClassId} {H0 : Heap} {G : jx_Gv} : (jz_m (jZ l dC dI aC H0 G) 187).1.cls = "PartText$Edition" := rfl
set_option maxRecDepth 100000 in
theorem hw_187 {l : Launch} {dC : Nat → ClassId} {dI : Nat → Nat → Nat} {aC : Nat → ClassId} {H0 : Heap} {G : jx_Gv} : Jvm.Cond.code (jz_m (jZ l dC dI aC H0 G) 187).1 (jz_m (jZ l dC dI aC H0 G) 187).2.1 (jz_m (jZ l dC dI aC H0 G) 187).2.2.1 (jz_m (jZ l dC dI aC H0 G) 187).2.2.2 ∈ jz_T (jZ l dC dI aC H0 G) := List.mem_filter.mpr ⟨List.mem_of_getElem? (i := 814) rfl, rfl⟩
theorem hp_187 {l : Launch} {dC : Nat → ClassId} {dI : Nat → Nat → Nat} {aC : Nat → ClassId} {H0 : Heap} {G : jx_Gv} : plainName (jz_m (jZ l dC dI aC H0 G) 187).1.cls = true := by show plainName "PartText$Edition" = true; decide +kernel
theorem hs_187 {l : Launch} {dC : Nat → ClassId} {dI : Nat → Nat → Nat} {aC : Nat → ClassId} {H0 : Heap} {G : jx_Gv} : (jz_m (jZ l dC dI aC H0 G) 187).1.cls ≠ "java/lang/invoke/MethodHandle" ∧ (jz_m (jZ l dC dI aC H0 G) 187).1.cls ≠ "java/lang/invoke/VarHandle" ∧ (parseMethodDescriptor (jz_m (jZ l dC dI aC H0 G) 187).1.desc).map (fun d => d.parameters.length) = some 1 := by show "PartText$Edition" ≠ _ ∧ "PartText$Edition" ≠ _ ∧ (parseMethodDescriptor "(LPartText$Edition;)I").map _ = _; decide +kernel
theorem hm_188 {l : Launch} {dC : Nat → ClassId} {dI : Nat → Nat → Nat} {aC : Nat → ClassId} {H0 : Heap} {G : jx_Gv} : (jz_m (jZ l dC dI aC H0 G) 188).2.1 = c_188 := rfl
theorem ho_188 {l : Launch} {dC : Nat → ClassId} {dI : Nat → Nat → Nat} {aC : Nat → ClassId} {H0 : Heap} {G : jx_Gv} : (jz_m (jZ l dC dI aC H0 G) 188).1.cls = "PartText" := rfl
set_option maxRecDepth 100000 in
theorem hw_188 {l : Launch} {dC : Nat → ClassId} {dI : Nat → Nat → Nat} {aC : Nat → ClassId} {H0 : Heap} {G : jx_Gv} : Jvm.Cond.code (jz_m (jZ l dC dI aC H0 G) 188).1 (jz_m (jZ l dC dI aC H0 G) 188).2.1 (jz_m (jZ l dC dI aC H0 G) 188).2.2.1 (jz_m (jZ l dC dI aC H0 G) 188).2.2.2 ∈ jz_T (jZ l dC dI aC H0 G) := List.mem_filter.mpr ⟨List.mem_of_getElem? (i := 810) rfl, rfl⟩
theorem hp_188 {l : Launch} {dC : Nat → ClassId} {dI : Nat → Nat → Nat} {aC : Nat → ClassId} {H0 : Heap} {G : jx_Gv} : plainName (jz_m (jZ l dC dI aC H0 G) 188).1.cls = true := by show plainName "PartText" = true; decide +kernel
theorem hs_188 {l : Launch} {dC : Nat → ClassId} {dI : Nat → Nat → Nat} {aC : Nat → ClassId} {H0 : Heap} {G : jx_Gv} : (jz_m (jZ l dC dI aC H0 G) 188).1.cls ≠ "java/lang/invoke/MethodHandle" ∧ (jz_m (jZ l dC dI aC H0 G) 188).1.cls ≠ "java/lang/invoke/VarHandle" ∧ (parseMethodDescriptor (jz_m (jZ l dC dI aC H0 G) 188).1.desc).map (fun d => d.parameters.length) = some 1 := by show "PartText" ≠ _ ∧ "PartText" ≠ _ ∧ (parseMethodDescriptor "(I)I").map _ = _; decide +kernel
theorem hm_189 {l : Launch} {dC : Nat → ClassId} {dI : Nat → Nat → Nat} {aC : Nat → ClassId} {H0 : Heap} {G : jx_Gv} : (jz_m (jZ l dC dI aC H0 G) 189).2.1 = c_189 := rfl
theorem ho_189 {l : Launch} {dC : Nat → ClassId} {dI : Nat → Nat → Nat} {aC : Nat → ClassId} {H0 : Heap} {G : jx_Gv} : (jz_m (jZ l dC dI aC H0 G) 189).1.cls = "PartTextModel" := rfl
set_option maxRecDepth 100000 in
theorem hw_189 {l : Launch} {dC : Nat → ClassId} {dI : Nat → Nat → Nat} {aC : Nat → ClassId} {H0 : Heap} {G : jx_Gv} : Jvm.Cond.code (jz_m (jZ l dC dI aC H0 G) 189).1 (jz_m (jZ l dC dI aC H0 G) 189).2.1 (jz_m (jZ l dC dI aC H0 G) 189).2.2.1 (jz_m (jZ l dC dI aC H0 G) 189).2.2.2 ∈ jz_T (jZ l dC dI aC H0 G) := List.mem_filter.mpr ⟨List.mem_of_getElem? (i := 1286) rfl, rfl⟩
theorem hp_189 {l : Launch} {dC : Nat → ClassId} {dI : Nat → Nat → Nat} {aC : Nat → ClassId} {H0 : Heap} {G : jx_Gv} : plainName (jz_m (jZ l dC dI aC H0 G) 189).1.cls = true := by show plainName "PartTextModel" = true; decide +kernel
theorem hs_189 {l : Launch} {dC : Nat → ClassId} {dI : Nat → Nat → Nat} {aC : Nat → ClassId} {H0 : Heap} {G : jx_Gv} : (jz_m (jZ l dC dI aC H0 G) 189).1.cls ≠ "java/lang/invoke/MethodHandle" ∧ (jz_m (jZ l dC dI aC H0 G) 189).1.cls ≠ "java/lang/invoke/VarHandle" ∧ (parseMethodDescriptor (jz_m (jZ l dC dI aC H0 G) 189).1.desc).map (fun d => d.parameters.length) = some 3 := by show "PartTextModel" ≠ _ ∧ "PartTextModel" ≠ _ ∧ (parseMethodDescriptor "(III)Z").map _ = _; decide +kernel
theorem hm_190 {l : Launch} {dC : Nat → ClassId} {dI : Nat → Nat → Nat} {aC : Nat → ClassId} {H0 : Heap} {G : jx_Gv} : (jz_m (jZ l dC dI aC H0 G) 190).2.1 = c_190 := rfl
theorem ho_190 {l : Launch} {dC : Nat → ClassId} {dI : Nat → Nat → Nat} {aC : Nat → ClassId} {H0 : Heap} {G : jx_Gv} : (jz_m (jZ l dC dI aC H0 G) 190).1.cls = "PartTextModel" := rfl
set_option maxRecDepth 100000 in
theorem hw_190 {l : Launch} {dC : Nat → ClassId} {dI : Nat → Nat → Nat} {aC : Nat → ClassId} {H0 : Heap} {G : jx_Gv} : Jvm.Cond.code (jz_m (jZ l dC dI aC H0 G) 190).1 (jz_m (jZ l dC dI aC H0 G) 190).2.1 (jz_m (jZ l dC dI aC H0 G) 190).2.2.1 (jz_m (jZ l dC dI aC H0 G) 190).2.2.2 ∈ jz_T (jZ l dC dI aC H0 G) := List.mem_filter.mpr ⟨List.mem_of_getElem? (i := 1282) rfl, rfl⟩
theorem hp_190 {l : Launch} {dC : Nat → ClassId} {dI : Nat → Nat → Nat} {aC : Nat → ClassId} {H0 : Heap} {G : jx_Gv} : plainName (jz_m (jZ l dC dI aC H0 G) 190).1.cls = true := by show plainName "PartTextModel" = true; decide +kernel
theorem hs_190 {l : Launch} {dC : Nat → ClassId} {dI : Nat → Nat → Nat} {aC : Nat → ClassId} {H0 : Heap} {G : jx_Gv} : (jz_m (jZ l dC dI aC H0 G) 190).1.cls ≠ "java/lang/invoke/MethodHandle" ∧ (jz_m (jZ l dC dI aC H0 G) 190).1.cls ≠ "java/lang/invoke/VarHandle" ∧ (parseMethodDescriptor (jz_m (jZ l dC dI aC H0 G) 190).1.desc).map (fun d => d.parameters.length) = some 1 := by show "PartTextModel" ≠ _ ∧ "PartTextModel" ≠ _ ∧ (parseMethodDescriptor "(I)I").map _ = _; decide +kernel
theorem hm_191 {l : Launch} {dC : Nat → ClassId} {dI : Nat → Nat → Nat} {aC : Nat → ClassId} {H0 : Heap} {G : jx_Gv} : (jz_m (jZ l dC dI aC H0 G) 191).2.1 = c_191 := rfl
theorem ho_191 {l : Launch} {dC : Nat → ClassId} {dI : Nat → Nat → Nat} {aC : Nat → ClassId} {H0 : Heap} {G : jx_Gv} : (jz_m (jZ l dC dI aC H0 G) 191).1.cls = "PartTextLaw" := rfl
