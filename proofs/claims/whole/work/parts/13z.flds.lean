theorem fl_0_2 : 2 < 7 := by decide
theorem fn_0_2 : fT_0 2 = ("PartText", "writer", "LPartText$Writer;", true) := rfl
theorem fy_0_2 : (ft_0 2).isReference = true := rfl
theorem fl_0_3 : 3 < 7 := by decide
theorem fn_0_3 : fT_0 3 = ("PartText", "rules", "LPartText$Rules;", true) := rfl
theorem fy_0_3 : (ft_0 3).isReference = true := rfl
theorem fl_0_4 : 4 < 7 := by decide
theorem fn_0_4 : fT_0 4 = ("PartText", "slots", "[LPartText$Edition;", true) := rfl
theorem fy_0_4 : (ft_0 4).isReference = true := rfl
theorem fl_0_5 : 5 < 7 := by decide
theorem fn_0_5 : fT_0 5 = ("PartText", "kept", "I", false) := rfl
theorem fy_0_5 : ft_0 5 = .int := rfl
theorem fl_0_6 : 6 < 7 := by decide
theorem fn_0_6 : fT_0 6 = ("PartText", "handSlot", "I", false) := rfl
theorem fy_0_6 : ft_0 6 = .int := rfl
theorem fl_1_0 : 0 < 3 := by decide
theorem fn_1_0 : fT_1 0 = ("PartText$Octets", "octets", "[I", true) := rfl
theorem fy_1_0 : (ft_1 0).isReference = true := rfl
theorem fl_1_1 : 1 < 3 := by decide
theorem fn_1_1 : fT_1 1 = ("PartText$Octets", "length", "I", false) := rfl
theorem fy_1_1 : ft_1 1 = .int := rfl
theorem fl_1_2 : 2 < 3 := by decide
theorem fn_1_2 : fT_1 2 = ("PartText$Octets", "overfull", "Z", false) := rfl
theorem fy_1_2 : ft_1 2 = .boolean := rfl
theorem fl_2_0 : 0 < 1 := by decide
theorem fn_2_0 : fT_2 0 = ("PartText$Words", "names", "[J", true) := rfl
theorem fy_2_0 : (ft_2 0).isReference = true := rfl
theorem fl_3_0 : 0 < 7 := by decide
theorem fn_3_0 : fT_3 0 = ("PartText$Scanner", "text", "LPartText$Octets;", true) := rfl
theorem fy_3_0 : (ft_3 0).isReference = true := rfl
theorem fl_3_1 : 1 < 7 := by decide
theorem fn_3_1 : fT_3 1 = ("PartText$Scanner", "words", "LPartText$Words;", true) := rfl
theorem fy_3_1 : (ft_3 1).isReference = true := rfl
theorem fl_3_2 : 2 < 7 := by decide
theorem fn_3_2 : fT_3 2 = ("PartText$Scanner", "place", "I", false) := rfl
theorem fy_3_2 : ft_3 2 = .int := rfl
theorem fl_3_3 : 3 < 7 := by decide
theorem fn_3_3 : fT_3 3 = ("PartText$Scanner", "line", "I", false) := rfl
theorem fy_3_3 : ft_3 3 = .int := rfl
theorem fl_3_4 : 4 < 7 := by decide
theorem fn_3_4 : fT_3 4 = ("PartText$Scanner", "sort", "I", false) := rfl
theorem fy_3_4 : ft_3 4 = .int := rfl
theorem fl_3_5 : 5 < 7 := by decide
theorem fn_3_5 : fT_3 5 = ("PartText$Scanner", "value", "I", false) := rfl
theorem fy_3_5 : ft_3 5 = .int := rfl
theorem fl_3_6 : 6 < 7 := by decide
theorem fn_3_6 : fT_3 6 = ("PartText$Scanner", "name", "J", false) := rfl
theorem fy_3_6 : ft_3 6 = .long := rfl
theorem fl_4_0 : 0 < 6 := by decide
theorem fn_4_0 : fT_4 0 = ("PartText$Reader", "scanner", "LPartText$Scanner;", true) := rfl
theorem fy_4_0 : (ft_4 0).isReference = true := rfl
theorem fl_4_1 : 1 < 6 := by decide
theorem fn_4_1 : fT_4 1 = ("PartText$Reader", "block", "I", false) := rfl
theorem fy_4_1 : ft_4 1 = .int := rfl
theorem fl_4_2 : 2 < 6 := by decide
theorem fn_4_2 : fT_4 2 = ("PartText$Reader", "form", "Ljava/lang/String;", false) := rfl
theorem fy_4_2 : (ft_4 2).isReference = true := rfl
theorem fl_4_3 : 3 < 6 := by decide
theorem fn_4_3 : fT_4 3 = ("PartText$Reader", "step", "I", false) := rfl
theorem fy_4_3 : ft_4 3 = .int := rfl
theorem fl_4_4 : 4 < 6 := by decide
theorem fn_4_4 : fT_4 4 = ("PartText$Reader", "accesses", "I", false) := rfl
theorem fy_4_4 : ft_4 4 = .int := rfl
theorem fl_4_5 : 5 < 6 := by decide
theorem fn_4_5 : fT_4 5 = ("PartText$Reader", "minus", "Z", false) := rfl
theorem fy_4_5 : ft_4 5 = .boolean := rfl
theorem fl_5_0 : 0 < 2 := by decide
theorem fn_5_0 : fT_5 0 = ("PartText$Writer", "text", "LPartText$Octets;", true) := rfl
theorem fy_5_0 : (ft_5 0).isReference = true := rfl
theorem fl_5_1 : 1 < 2 := by decide
theorem fn_5_1 : fT_5 1 = ("PartText$Writer", "words", "LPartText$Words;", true) := rfl
theorem fy_5_1 : (ft_5 1).isReference = true := rfl
theorem fl_6_0 : 0 < 1 := by decide
theorem fn_6_0 : fT_6 0 = ("PartText$Rules", "reached", "[I", true) := rfl
theorem fy_6_0 : (ft_6 0).isReference = true := rfl
theorem fl_7_0 : 0 < 11 := by decide
theorem fn_7_0 : fT_7 0 = ("PartText$Edition", "sorts", "[B", true) := rfl
theorem fy_7_0 : (ft_7 0).isReference = true := rfl
theorem fl_7_1 : 1 < 11 := by decide
theorem fn_7_1 : fT_7 1 = ("PartText$Edition", "values", "[I", true) := rfl
theorem fy_7_1 : (ft_7 1).isReference = true := rfl
theorem fl_7_2 : 2 < 11 := by decide
theorem fn_7_2 : fT_7 2 = ("PartText$Edition", "tokenCount", "I", false) := rfl
theorem fy_7_2 : ft_7 2 = .int := rfl
theorem fl_7_3 : 3 < 11 := by decide
theorem fn_7_3 : fT_7 3 = ("PartText$Edition", "names", "[J", true) := rfl
theorem fy_7_3 : (ft_7 3).isReference = true := rfl
theorem fl_7_4 : 4 < 11 := by decide
theorem fn_7_4 : fT_7 4 = ("PartText$Edition", "nameCount", "I", false) := rfl
theorem fy_7_4 : ft_7 4 = .int := rfl
theorem fl_7_5 : 5 < 11 := by decide
theorem fn_7_5 : fT_7 5 = ("PartText$Edition", "kinds", "[I", true) := rfl
theorem fy_7_5 : (ft_7 5).isReference = true := rfl
theorem fl_7_6 : 6 < 11 := by decide
theorem fn_7_6 : fT_7 6 = ("PartText$Edition", "blocks", "[I", true) := rfl
theorem fy_7_6 : (ft_7 6).isReference = true := rfl
theorem fl_7_7 : 7 < 11 := by decide
theorem fn_7_7 : fT_7 7 = ("PartText$Edition", "starts", "[I", true) := rfl
theorem fy_7_7 : (ft_7 7).isReference = true := rfl
theorem fl_7_8 : 8 < 11 := by decide
theorem fn_7_8 : fT_7 8 = ("PartText$Edition", "lengths", "[I", true) := rfl
theorem fy_7_8 : (ft_7 8).isReference = true := rfl
theorem fl_7_9 : 9 < 11 := by decide
theorem fn_7_9 : fT_7 9 = ("PartText$Edition", "targets", "[I", true) := rfl
theorem fy_7_9 : (ft_7 9).isReference = true := rfl
theorem fl_7_10 : 10 < 11 := by decide
theorem fn_7_10 : fT_7 10 = ("PartText$Edition", "rowCount", "I", false) := rfl
theorem fy_7_10 : ft_7 10 = .int := rfl
theorem fl_8_0 : 0 < 57 := by decide
theorem fn_8_0 : fT_8 0 = ("PartTextModel", "size", "I", false) := rfl
theorem fy_8_0 : ft_8 0 = .int := rfl
theorem fl_8_1 : 1 < 57 := by decide
theorem fn_8_1 : fT_8 1 = ("PartTextModel", "text", "[I", true) := rfl
theorem fy_8_1 : (ft_8 1).isReference = true := rfl
theorem fl_8_2 : 2 < 57 := by decide
theorem fn_8_2 : fT_8 2 = ("PartTextModel", "at", "I", false) := rfl
theorem fy_8_2 : ft_8 2 = .int := rfl
theorem fl_8_3 : 3 < 57 := by decide
theorem fn_8_3 : fT_8 3 = ("PartTextModel", "line", "I", false) := rfl
theorem fy_8_3 : ft_8 3 = .int := rfl
theorem fl_8_4 : 4 < 57 := by decide
theorem fn_8_4 : fT_8 4 = ("PartTextModel", "kind", "I", false) := rfl
theorem fy_8_4 : ft_8 4 = .int := rfl
theorem fl_8_5 : 5 < 57 := by decide
theorem fn_8_5 : fT_8 5 = ("PartTextModel", "value", "I", false) := rfl
theorem fy_8_5 : ft_8 5 = .int := rfl
theorem fl_8_6 : 6 < 57 := by decide
theorem fn_8_6 : fT_8 6 = ("PartTextModel", "tokenLine", "I", false) := rfl
theorem fy_8_6 : ft_8 6 = .int := rfl
theorem fl_8_7 : 7 < 57 := by decide
theorem fn_8_7 : fT_8 7 = ("PartTextModel", "good", "Z", false) := rfl
theorem fy_8_7 : ft_8 7 = .boolean := rfl
theorem fl_8_8 : 8 < 57 := by decide
theorem fn_8_8 : fT_8 8 = ("PartTextModel", "names", "I", false) := rfl
theorem fy_8_8 : ft_8 8 = .int := rfl
theorem fl_8_9 : 9 < 57 := by decide
theorem fn_8_9 : fT_8 9 = ("PartTextModel", "nameLength", "[I", true) := rfl
theorem fy_8_9 : (ft_8 9).isReference = true := rfl
theorem fl_8_10 : 10 < 57 := by decide
theorem fn_8_10 : fT_8 10 = ("PartTextModel", "nameOctets", "[I", true) := rfl
theorem fy_8_10 : (ft_8 10).isReference = true := rfl
theorem fl_8_11 : 11 < 57 := by decide
theorem fn_8_11 : fT_8 11 = ("PartTextModel", "rows", "I", false) := rfl
theorem fy_8_11 : ft_8 11 = .int := rfl
theorem fl_8_12 : 12 < 57 := by decide
theorem fn_8_12 : fT_8 12 = ("PartTextModel", "rowKind", "[I", true) := rfl
theorem fy_8_12 : (ft_8 12).isReference = true := rfl
theorem fl_8_13 : 13 < 57 := by decide
theorem fn_8_13 : fT_8 13 = ("PartTextModel", "rowBlock", "[I", true) := rfl
theorem fy_8_13 : (ft_8 13).isReference = true := rfl
theorem fl_8_14 : 14 < 57 := by decide
theorem fn_8_14 : fT_8 14 = ("PartTextModel", "given", "[I", true) := rfl
theorem fy_8_14 : (ft_8 14).isReference = true := rfl
theorem fl_8_15 : 15 < 57 := by decide
theorem fn_8_15 : fT_8 15 = ("PartTextModel", "second", "[I", true) := rfl
theorem fy_8_15 : (ft_8 15).isReference = true := rfl
theorem fl_8_16 : 16 < 57 := by decide
theorem fn_8_16 : fT_8 16 = ("PartTextModel", "third", "[I", true) := rfl
theorem fy_8_16 : (ft_8 16).isReference = true := rfl
theorem fl_8_17 : 17 < 57 := by decide
theorem fn_8_17 : fT_8 17 = ("PartTextModel", "fourth", "[I", true) := rfl
theorem fy_8_17 : (ft_8 17).isReference = true := rfl
theorem fl_8_18 : 18 < 57 := by decide
theorem fn_8_18 : fT_8 18 = ("PartTextModel", "fifth", "[I", true) := rfl
theorem fy_8_18 : (ft_8 18).isReference = true := rfl
theorem fl_8_19 : 19 < 57 := by decide
theorem fn_8_19 : fT_8 19 = ("PartTextModel", "low", "[I", true) := rfl
theorem fy_8_19 : (ft_8 19).isReference = true := rfl
theorem fl_8_20 : 20 < 57 := by decide
theorem fn_8_20 : fT_8 20 = ("PartTextModel", "high", "[I", true) := rfl
theorem fy_8_20 : (ft_8 20).isReference = true := rfl
theorem fl_8_21 : 21 < 57 := by decide
theorem fn_8_21 : fT_8 21 = ("PartTextModel", "trigger", "[I", true) := rfl
theorem fy_8_21 : (ft_8 21).isReference = true := rfl
theorem fl_8_22 : 22 < 57 := by decide
theorem fn_8_22 : fT_8 22 = ("PartTextModel", "accessAt", "[I", true) := rfl
theorem fy_8_22 : (ft_8 22).isReference = true := rfl
theorem fl_8_23 : 23 < 57 := by decide
theorem fn_8_23 : fT_8 23 = ("PartTextModel", "accessMany", "[I", true) := rfl
theorem fy_8_23 : (ft_8 23).isReference = true := rfl
theorem fl_8_24 : 24 < 57 := by decide
theorem fn_8_24 : fT_8 24 = ("PartTextModel", "accesses", "I", false) := rfl
theorem fy_8_24 : ft_8 24 = .int := rfl
theorem fl_8_25 : 25 < 57 := by decide
theorem fn_8_25 : fT_8 25 = ("PartTextModel", "accessKind", "[I", true) := rfl
theorem fy_8_25 : (ft_8 25).isReference = true := rfl
theorem fl_8_26 : 26 < 57 := by decide
theorem fn_8_26 : fT_8 26 = ("PartTextModel", "accessPort", "[I", true) := rfl
theorem fy_8_26 : (ft_8 26).isReference = true := rfl
theorem fl_8_27 : 27 < 57 := by decide
theorem fn_8_27 : fT_8 27 = ("PartTextModel", "accessDatum", "[I", true) := rfl
theorem fy_8_27 : (ft_8 27).isReference = true := rfl
theorem fl_8_28 : 28 < 57 := by decide
theorem fn_8_28 : fT_8 28 = ("PartTextModel", "written", "I", false) := rfl
theorem fy_8_28 : ft_8 28 = .int := rfl
theorem fl_8_29 : 29 < 57 := by decide
theorem fn_8_29 : fT_8 29 = ("PartTextModel", "writing", "[I", true) := rfl
theorem fy_8_29 : (ft_8 29).isReference = true := rfl
theorem fl_8_30 : 30 < 57 := by decide
theorem fn_8_30 : fT_8 30 = ("PartTextModel", "writeAt", "[I", true) := rfl
theorem fy_8_30 : (ft_8 30).isReference = true := rfl
theorem fl_8_31 : 31 < 57 := by decide
theorem fn_8_31 : fT_8 31 = ("PartTextModel", "block", "I", false) := rfl
theorem fy_8_31 : ft_8 31 = .int := rfl
theorem fl_8_32 : 32 < 57 := by decide
theorem fn_8_32 : fT_8 32 = ("PartTextModel", "inHand", "Z", false) := rfl
theorem fy_8_32 : ft_8 32 = .boolean := rfl
theorem fl_8_33 : 33 < 57 := by decide
theorem fn_8_33 : fT_8 33 = ("PartTextModel", "hRows", "I", false) := rfl
theorem fy_8_33 : ft_8 33 = .int := rfl
theorem fl_8_34 : 34 < 57 := by decide
theorem fn_8_34 : fT_8 34 = ("PartTextModel", "hKind", "[I", true) := rfl
theorem fy_8_34 : (ft_8 34).isReference = true := rfl
theorem fl_8_35 : 35 < 57 := by decide
theorem fn_8_35 : fT_8 35 = ("PartTextModel", "hBlock", "[I", true) := rfl
theorem fy_8_35 : (ft_8 35).isReference = true := rfl
theorem fl_8_36 : 36 < 57 := by decide
theorem fn_8_36 : fT_8 36 = ("PartTextModel", "hGiven", "[I", true) := rfl
theorem fy_8_36 : (ft_8 36).isReference = true := rfl
theorem fl_8_37 : 37 < 57 := by decide
theorem fn_8_37 : fT_8 37 = ("PartTextModel", "hSecond", "[I", true) := rfl
theorem fy_8_37 : (ft_8 37).isReference = true := rfl
theorem fl_8_38 : 38 < 57 := by decide
theorem fn_8_38 : fT_8 38 = ("PartTextModel", "hThird", "[I", true) := rfl
theorem fy_8_38 : (ft_8 38).isReference = true := rfl
theorem fl_8_39 : 39 < 57 := by decide
theorem fn_8_39 : fT_8 39 = ("PartTextModel", "hFourth", "[I", true) := rfl
theorem fy_8_39 : (ft_8 39).isReference = true := rfl
theorem fl_8_40 : 40 < 57 := by decide
theorem fn_8_40 : fT_8 40 = ("PartTextModel", "hFifth", "[I", true) := rfl
theorem fy_8_40 : (ft_8 40).isReference = true := rfl
theorem fl_8_41 : 41 < 57 := by decide
theorem fn_8_41 : fT_8 41 = ("PartTextModel", "hLow", "[I", true) := rfl
theorem fy_8_41 : (ft_8 41).isReference = true := rfl
theorem fl_8_42 : 42 < 57 := by decide
theorem fn_8_42 : fT_8 42 = ("PartTextModel", "hHigh", "[I", true) := rfl
theorem fy_8_42 : (ft_8 42).isReference = true := rfl
theorem fl_8_43 : 43 < 57 := by decide
theorem fn_8_43 : fT_8 43 = ("PartTextModel", "hTrigger", "[I", true) := rfl
theorem fy_8_43 : (ft_8 43).isReference = true := rfl
theorem fl_8_44 : 44 < 57 := by decide
theorem fn_8_44 : fT_8 44 = ("PartTextModel", "hAccessAt", "[I", true) := rfl
theorem fy_8_44 : (ft_8 44).isReference = true := rfl
theorem fl_8_45 : 45 < 57 := by decide
theorem fn_8_45 : fT_8 45 = ("PartTextModel", "hAccessMany", "[I", true) := rfl
theorem fy_8_45 : (ft_8 45).isReference = true := rfl
theorem fl_8_46 : 46 < 57 := by decide
theorem fn_8_46 : fT_8 46 = ("PartTextModel", "hAccessKind", "[I", true) := rfl
theorem fy_8_46 : (ft_8 46).isReference = true := rfl
theorem fl_8_47 : 47 < 57 := by decide
theorem fn_8_47 : fT_8 47 = ("PartTextModel", "hAccessPort", "[I", true) := rfl
theorem fy_8_47 : (ft_8 47).isReference = true := rfl
theorem fl_8_48 : 48 < 57 := by decide
theorem fn_8_48 : fT_8 48 = ("PartTextModel", "hAccessDatum", "[I", true) := rfl
theorem fy_8_48 : (ft_8 48).isReference = true := rfl
theorem fl_8_49 : 49 < 57 := by decide
theorem fn_8_49 : fT_8 49 = ("PartTextModel", "hText", "[I", true) := rfl
theorem fy_8_49 : (ft_8 49).isReference = true := rfl
theorem fl_8_50 : 50 < 57 := by decide
theorem fn_8_50 : fT_8 50 = ("PartTextModel", "hAt", "[I", true) := rfl
theorem fy_8_50 : (ft_8 50).isReference = true := rfl
theorem fl_8_51 : 51 < 57 := by decide
theorem fn_8_51 : fT_8 51 = ("PartTextModel", "editions", "I", false) := rfl
theorem fy_8_51 : ft_8 51 = .int := rfl
theorem fl_8_52 : 52 < 57 := by decide
theorem fn_8_52 : fT_8 52 = ("PartTextModel", "eRows", "[I", true) := rfl
theorem fy_8_52 : (ft_8 52).isReference = true := rfl
theorem fl_8_53 : 53 < 57 := by decide
theorem fn_8_53 : fT_8 53 = ("PartTextModel", "eBlock", "[I", true) := rfl
theorem fy_8_53 : (ft_8 53).isReference = true := rfl
theorem fl_8_54 : 54 < 57 := by decide
theorem fn_8_54 : fT_8 54 = ("PartTextModel", "eAt", "[I", true) := rfl
theorem fy_8_54 : (ft_8 54).isReference = true := rfl
theorem fl_8_55 : 55 < 57 := by decide
theorem fn_8_55 : fT_8 55 = ("PartTextModel", "eText", "[I", true) := rfl
theorem fy_8_55 : (ft_8 55).isReference = true := rfl
theorem fl_8_56 : 56 < 57 := by decide
theorem fn_8_56 : fT_8 56 = ("PartTextModel", "seen", "[Z", true) := rfl
theorem fy_8_56 : (ft_8 56).isReference = true := rfl
section JG
variable {Z : jx_Z} {y pc : Nat} {cc : ByteArray} {own : String} {index ci kf : Nat} {C : String} {T : u_T} {N : Nat} {O nm ds : String} {fi : Bool}
theorem og_I (hM : (jz_m Z y).2.1 = cc) (hO : (jz_m Z y).1.cls = own) (hc : (jz_c Z)[ci]? = some (C, T, N)) (hin : ∀ w ∈ u_ws C T N, w ∈ jz_T Z) (hk : kf < N) (hT : T kf = (O, nm, ds, fi)) (hw : Jvm.Cond.fieldLink own index O nm ds ∈ jz_T Z) (hd : decode cc pc = .ok (.getfield index, 3)) : jx_Ok Z y pc (pc + 3) (jo_getI ci kf) := ok_getI hM hO hc hin hk (by rw [hT]; exact hw) hd
theorem og_J (hM : (jz_m Z y).2.1 = cc) (hO : (jz_m Z y).1.cls = own) (hc : (jz_c Z)[ci]? = some (C, T, N)) (hin : ∀ w ∈ u_ws C T N, w ∈ jz_T Z) (hk : kf < N) (hT : T kf = (O, nm, ds, fi)) (hw : Jvm.Cond.fieldLink own index O nm ds ∈ jz_T Z) (hd : decode cc pc = .ok (.getfield index, 3)) : jx_Ok Z y pc (pc + 3) (jo_getJ ci kf) := ok_getJ hM hO hc hin hk (by rw [hT]; exact hw) hd
theorem og_A (hM : (jz_m Z y).2.1 = cc) (hO : (jz_m Z y).1.cls = own) (hc : (jz_c Z)[ci]? = some (C, T, N)) (hin : ∀ w ∈ u_ws C T N, w ∈ jz_T Z) (hk : kf < N) (hT : T kf = (O, nm, ds, fi)) (hw : Jvm.Cond.fieldLink own index O nm ds ∈ jz_T Z) (hd : decode cc pc = .ok (.getfield index, 3)) : jx_Ok Z y pc (pc + 3) (jo_getA ci kf) := ok_getA hM hO hc hin hk (by rw [hT]; exact hw) hd
theorem op_I (hM : (jz_m Z y).2.1 = cc) (hO : (jz_m Z y).1.cls = own) (hc : (jz_c Z)[ci]? = some (C, T, N)) (hin : ∀ w ∈ u_ws C T N, w ∈ jz_T Z) (ty0 : Nat → FieldType) (hty : ∀ k, k < N → parseFieldDescriptor (T k).2.2.1 = some (ty0 k)) (hnm : ∀ a, a < N → ∀ b, b < N → a ≠ b → (T a).2.1 ≠ (T b).2.1) (hk : kf < N) (hT : T kf = (O, nm, ds, false)) (hw : Jvm.Cond.fieldLink own index O nm ds ∈ jz_T Z) (hd : decode cc pc = .ok (.putfield index, 3)) (ht : ty0 kf = .int) : jx_Ok Z y pc (pc + 3) (jo_putI ci kf) := ok_putI hM hO hc hin ty0 hty hnm hk (Or.inl (by rw [hT])) (by rw [hT]; exact hw) hd ht
theorem op_If (hM : (jz_m Z y).2.1 = cc) (hO : (jz_m Z y).1.cls = own) (hc : (jz_c Z)[ci]? = some (C, T, N)) (hin : ∀ w ∈ u_ws C T N, w ∈ jz_T Z) (ty0 : Nat → FieldType) (hty : ∀ k, k < N → parseFieldDescriptor (T k).2.2.1 = some (ty0 k)) (hnm : ∀ a, a < N → ∀ b, b < N → a ≠ b → (T a).2.1 ≠ (T b).2.1) (hk : kf < N) (hT : T kf = (O, nm, ds, true)) (hi2 : (jz_m Z y).1.name = "<init>") (hO2 : O = own) (hw : Jvm.Cond.fieldLink own index O nm ds ∈ jz_T Z) (hd : decode cc pc = .ok (.putfield index, 3)) (ht : ty0 kf = .int) : jx_Ok Z y pc (pc + 3) (jo_putI ci kf) := ok_putI hM hO hc hin ty0 hty hnm hk (Or.inr ⟨by rw [hT], hi2, by rw [hT]; exact hO2⟩) (by rw [hT]; exact hw) hd ht
theorem op_Z (hM : (jz_m Z y).2.1 = cc) (hO : (jz_m Z y).1.cls = own) (hc : (jz_c Z)[ci]? = some (C, T, N)) (hin : ∀ w ∈ u_ws C T N, w ∈ jz_T Z) (ty0 : Nat → FieldType) (hty : ∀ k, k < N → parseFieldDescriptor (T k).2.2.1 = some (ty0 k)) (hnm : ∀ a, a < N → ∀ b, b < N → a ≠ b → (T a).2.1 ≠ (T b).2.1) (hk : kf < N) (hT : T kf = (O, nm, ds, false)) (hw : Jvm.Cond.fieldLink own index O nm ds ∈ jz_T Z) (hd : decode cc pc = .ok (.putfield index, 3)) (ht : ty0 kf = .boolean) : jx_Ok Z y pc (pc + 3) (jo_putZ ci kf) := ok_putZ hM hO hc hin ty0 hty hnm hk (Or.inl (by rw [hT])) (by rw [hT]; exact hw) hd ht
theorem op_Zf (hM : (jz_m Z y).2.1 = cc) (hO : (jz_m Z y).1.cls = own) (hc : (jz_c Z)[ci]? = some (C, T, N)) (hin : ∀ w ∈ u_ws C T N, w ∈ jz_T Z) (ty0 : Nat → FieldType) (hty : ∀ k, k < N → parseFieldDescriptor (T k).2.2.1 = some (ty0 k)) (hnm : ∀ a, a < N → ∀ b, b < N → a ≠ b → (T a).2.1 ≠ (T b).2.1) (hk : kf < N) (hT : T kf = (O, nm, ds, true)) (hi2 : (jz_m Z y).1.name = "<init>") (hO2 : O = own) (hw : Jvm.Cond.fieldLink own index O nm ds ∈ jz_T Z) (hd : decode cc pc = .ok (.putfield index, 3)) (ht : ty0 kf = .boolean) : jx_Ok Z y pc (pc + 3) (jo_putZ ci kf) := ok_putZ hM hO hc hin ty0 hty hnm hk (Or.inr ⟨by rw [hT], hi2, by rw [hT]; exact hO2⟩) (by rw [hT]; exact hw) hd ht
theorem op_J (hM : (jz_m Z y).2.1 = cc) (hO : (jz_m Z y).1.cls = own) (hc : (jz_c Z)[ci]? = some (C, T, N)) (hin : ∀ w ∈ u_ws C T N, w ∈ jz_T Z) (ty0 : Nat → FieldType) (hty : ∀ k, k < N → parseFieldDescriptor (T k).2.2.1 = some (ty0 k)) (hnm : ∀ a, a < N → ∀ b, b < N → a ≠ b → (T a).2.1 ≠ (T b).2.1) (hk : kf < N) (hT : T kf = (O, nm, ds, false)) (hw : Jvm.Cond.fieldLink own index O nm ds ∈ jz_T Z) (hd : decode cc pc = .ok (.putfield index, 3)) (ht : ty0 kf = .long) : jx_Ok Z y pc (pc + 3) (jo_putJ ci kf) := ok_putJ hM hO hc hin ty0 hty hnm hk (Or.inl (by rw [hT])) (by rw [hT]; exact hw) hd ht
theorem op_Jf (hM : (jz_m Z y).2.1 = cc) (hO : (jz_m Z y).1.cls = own) (hc : (jz_c Z)[ci]? = some (C, T, N)) (hin : ∀ w ∈ u_ws C T N, w ∈ jz_T Z) (ty0 : Nat → FieldType) (hty : ∀ k, k < N → parseFieldDescriptor (T k).2.2.1 = some (ty0 k)) (hnm : ∀ a, a < N → ∀ b, b < N → a ≠ b → (T a).2.1 ≠ (T b).2.1) (hk : kf < N) (hT : T kf = (O, nm, ds, true)) (hi2 : (jz_m Z y).1.name = "<init>") (hO2 : O = own) (hw : Jvm.Cond.fieldLink own index O nm ds ∈ jz_T Z) (hd : decode cc pc = .ok (.putfield index, 3)) (ht : ty0 kf = .long) : jx_Ok Z y pc (pc + 3) (jo_putJ ci kf) := ok_putJ hM hO hc hin ty0 hty hnm hk (Or.inr ⟨by rw [hT], hi2, by rw [hT]; exact hO2⟩) (by rw [hT]; exact hw) hd ht
theorem op_A (hM : (jz_m Z y).2.1 = cc) (hO : (jz_m Z y).1.cls = own) (hc : (jz_c Z)[ci]? = some (C, T, N)) (hin : ∀ w ∈ u_ws C T N, w ∈ jz_T Z) (ty0 : Nat → FieldType) (hty : ∀ k, k < N → parseFieldDescriptor (T k).2.2.1 = some (ty0 k)) (hnm : ∀ a, a < N → ∀ b, b < N → a ≠ b → (T a).2.1 ≠ (T b).2.1) (hk : kf < N) (hT : T kf = (O, nm, ds, false)) (hw : Jvm.Cond.fieldLink own index O nm ds ∈ jz_T Z) (hd : decode cc pc = .ok (.putfield index, 3)) (ht : (ty0 kf).isReference = true) : jx_Ok Z y pc (pc + 3) (jo_putA ci kf) := ok_putA hM hO hc hin ty0 hty hnm hk (Or.inl (by rw [hT])) (by rw [hT]; exact hw) hd ht
theorem op_Af (hM : (jz_m Z y).2.1 = cc) (hO : (jz_m Z y).1.cls = own) (hc : (jz_c Z)[ci]? = some (C, T, N)) (hin : ∀ w ∈ u_ws C T N, w ∈ jz_T Z) (ty0 : Nat → FieldType) (hty : ∀ k, k < N → parseFieldDescriptor (T k).2.2.1 = some (ty0 k)) (hnm : ∀ a, a < N → ∀ b, b < N → a ≠ b → (T a).2.1 ≠ (T b).2.1) (hk : kf < N) (hT : T kf = (O, nm, ds, true)) (hi2 : (jz_m Z y).1.name = "<init>") (hO2 : O = own) (hw : Jvm.Cond.fieldLink own index O nm ds ∈ jz_T Z) (hd : decode cc pc = .ok (.putfield index, 3)) (ht : (ty0 kf).isReference = true) : jx_Ok Z y pc (pc + 3) (jo_putA ci kf) := ok_putA hM hO hc hin ty0 hty hnm hk (Or.inr ⟨by rw [hT], hi2, by rw [hT]; exact hO2⟩) (by rw [hT]; exact hw) hd ht
variable {nl : Nat → Nat}
theorem jx_de {Z : jx_Z} {y f1 l1 : Nat} (h1 : jz_d Z y = (f1, l1)) (h : 1 ≤ f1 ∧ 20 ≤ l1) : 1 ≤ (jz_d Z y).1 ∧ 20 ≤ (jz_d Z y).2 := by rw [h1]; exact h
theorem oc_S (hG : jx_GZ Z) (hM : (jz_m Z y).2.1 = cc) (hO : (jz_m Z y).1.cls = own) {y' n : Nat} {yn : MethodName} (hyn : (jz_m Z y').1 = yn) (hnl : nl y' = (jz_m Z y').2.2.1) (hname : plainName (jz_m Z y').1.cls = true) (hcode : Jvm.Cond.code (jz_m Z y').1 (jz_m Z y').2.1 (jz_m Z y').2.2.1 (jz_m Z y').2.2.2 ∈ jz_T Z) (hw1 : Jvm.Cond.methodLink own index yn ∈ jz_T Z) (hw2 : Jvm.Cond.static yn ∈ jz_T Z) (hw3 : Jvm.Cond.initialized yn.cls ∈ jz_T Z) (hds : (jz_m Z y').1.cls ≠ "java/lang/invoke/MethodHandle" ∧ (jz_m Z y').1.cls ≠ "java/lang/invoke/VarHandle" ∧ (parseMethodDescriptor (jz_m Z y').1.desc).map (fun d => d.parameters.length) = some n) {f1 l1 f2 l2 n' : Nat} (h1 : jz_d Z y = (f1, l1)) (h2 : jz_d Z y' = (f2, l2)) (h3 : (jz_m Z y').2.2.1 = n') (hle : f2 + 1 ≤ f1 ∧ 19 + n' + l2 ≤ l1) (hd : decode cc pc = .ok (.invokestatic index, 3)) : jx_OkT Z nl y pc (.inr (.inr (.inr (.inl (y', n, pc + 3, none))))) := okt_callS hG hM hO hnl hname hcode (by rw [hyn]; exact hw1) (by rw [hyn]; exact hw2) (by rw [hyn]; exact hw3) hds (by rw [h1, h2, h3]; exact hle) hd
theorem oc_I (hG : jx_GZ Z) (hM : (jz_m Z y).2.1 = cc) (hO : (jz_m Z y).1.cls = own) {y' n : Nat} {yn : MethodName} (hyn : (jz_m Z y').1 = yn) (hnl : nl y' = (jz_m Z y').2.2.1) (hname : plainName (jz_m Z y').1.cls = true) (hcode : Jvm.Cond.code (jz_m Z y').1 (jz_m Z y').2.1 (jz_m Z y').2.2.1 (jz_m Z y').2.2.2 ∈ jz_T Z) (hret : (jz_m Z y').2.2.2 = none) (hy1 : (jz_m Z y').1.name = "<init>") (hw1 : Jvm.Cond.methodLink own index yn ∈ jz_T Z) (hw2 : Jvm.Cond.instanceMethod yn ∈ jz_T Z) (hw3 : Jvm.Cond.initialized yn.cls ∈ jz_T Z) (hds : (jz_m Z y').1.cls ≠ "java/lang/invoke/MethodHandle" ∧ (jz_m Z y').1.cls ≠ "java/lang/invoke/VarHandle" ∧ (parseMethodDescriptor (jz_m Z y').1.desc).map (fun d => d.parameters.length) = some n) {f1 l1 f2 l2 n' : Nat} (h1 : jz_d Z y = (f1, l1)) (h2 : jz_d Z y' = (f2, l2)) (h3 : (jz_m Z y').2.2.1 = n') (hle : f2 + 1 ≤ f1 ∧ 19 + n' + l2 ≤ l1) (c1 : Nat) (hd : decode cc pc = .ok (.invokespecial index, 3)) : jx_OkT Z nl y pc (.inr (.inr (.inr (.inl (y', n + 1, pc + 3, some c1))))) := okt_callI hG hM hO hnl hname hcode hret hy1 (by rw [hyn]; exact hw1) (by rw [hyn]; exact hw2) (by rw [hyn]; exact hw3) hds (by rw [h1, h2, h3]; exact hle) c1 hd
theorem oc_V (hG : jx_GZ Z) (hM : (jz_m Z y).2.1 = cc) (hO : (jz_m Z y).1.cls = own) {y' n : Nat} {yn : MethodName} (hyn : (jz_m Z y').1 = yn) (hnl : nl y' = (jz_m Z y').2.2.1) (hname : plainName (jz_m Z y').1.cls = true) (hcode : Jvm.Cond.code (jz_m Z y').1 (jz_m Z y').2.1 (jz_m Z y').2.2.1 (jz_m Z y').2.2.2 ∈ jz_T Z) (hw1 : Jvm.Cond.methodLink own index yn ∈ jz_T Z) (hw2 : Jvm.Cond.instanceMethod yn ∈ jz_T Z) (hw3 : Jvm.Cond.initialized yn.cls ∈ jz_T Z) (hw4 : Jvm.Cond.selects yn.cls yn yn ∈ jz_T Z) (hds : (jz_m Z y').1.cls ≠ "java/lang/invoke/MethodHandle" ∧ (jz_m Z y').1.cls ≠ "java/lang/invoke/VarHandle" ∧ (parseMethodDescriptor (jz_m Z y').1.desc).map (fun d => d.parameters.length) = some n) {f1 l1 f2 l2 n' : Nat} (h1 : jz_d Z y = (f1, l1)) (h2 : jz_d Z y' = (f2, l2)) (h3 : (jz_m Z y').2.2.1 = n') (hle : f2 + 1 ≤ f1 ∧ 19 + n' + l2 ≤ l1) {c1 : Nat} {r0 : vw_C} (hci : (jz_c Z)[c1]? = some r0) (hr0 : r0.1 = (jz_m Z y').1.cls) (hd : decode cc pc = .ok (.invokevirtual index, 3)) : jx_OkT Z nl y pc (.inr (.inr (.inr (.inl (y', n + 1, pc + 3, some c1))))) := okt_callV hG hM hO hnl hname hcode (by rw [hyn]; exact hw1) (by rw [hyn]; exact hw2) (by rw [hyn]; exact hw3) (by rw [hyn]; exact hw4) hds (by rw [h1, h2, h3]; exact hle) hci hr0 hd
theorem oc_K (hG : jx_GZ Z) (hM : (jz_m Z y).2.1 = cc) (hO : (jz_m Z y).1.cls = own) {y' n : Nat} {yn : MethodName} (hyn : (jz_m Z y').1 = yn) (hnl : nl y' = (jz_m Z y').2.2.1) (hname : plainName (jz_m Z y').1.cls = true) (hcode : Jvm.Cond.code (jz_m Z y').1 (jz_m Z y').2.1 (jz_m Z y').2.2.1 (jz_m Z y').2.2.2 ∈ jz_T Z) (hw1 : Jvm.Cond.methodLink own index yn ∈ jz_T Z) (hw2 : Jvm.Cond.instanceMethod yn ∈ jz_T Z) (hw3 : Jvm.Cond.initialized yn.cls ∈ jz_T Z) (hw4 : Jvm.Cond.selects yn.cls yn yn ∈ jz_T Z) (hds : (jz_m Z y').1.cls ≠ "java/lang/invoke/MethodHandle" ∧ (jz_m Z y').1.cls ≠ "java/lang/invoke/VarHandle" ∧ (parseMethodDescriptor (jz_m Z y').1.desc).map (fun d => d.parameters.length) = some n) {f1 l1 f2 l2 n' : Nat} (h1 : jz_d Z y = (f1, l1)) (h2 : jz_d Z y' = (f2, l2)) (h3 : (jz_m Z y').2.2.1 = n') (hle : f2 + 1 ≤ f1 ∧ 19 + n' + l2 ≤ l1) (hstr : (jz_m Z y').1.cls = "java/lang/String") {N1 : Nat} {len : List Nat} {byt : List (List Int32)} {ad adV : Nat → Nat} (hK : ∀ s : State, jz_K Z s → vk_S N1 len byt ad adV (jx_A Z) s (jz_H Z)) (hd : decode cc pc = .ok (.invokevirtual index, 3)) : jx_OkB Z nl y pc ([jo_chk ad N1 n], .inr (.inr (.inr (.inl (y', n + 1, pc + 3, none))))) := okb_callK hG hM hO hnl hname hcode (by rw [hyn]; exact hw1) (by rw [hyn]; exact hw2) (by rw [hyn]; exact hw3) (by rw [hyn]; exact hw4) hds (by rw [h1, h2, h3]; exact hle) hstr hK hd
end JG
theorem hz_I : ∀ (cA : ClassId) (n : Nat), vp_cell cA (n, .inl (fun _ => 0)) = arrV cA n (fun _ => defaultValue .int) := fun _ _ => rfl
theorem hzb_I : componentBytes .int ≤ 8 := by decide
theorem hz_B : ∀ (cA : ClassId) (n : Nat), vp_cell cA (n, .inl (fun _ => 0)) = arrV cA n (fun _ => defaultValue .byte) := fun _ _ => rfl
theorem hzb_B : componentBytes .byte ≤ 8 := by decide
theorem hz_Z : ∀ (cA : ClassId) (n : Nat), vp_cell cA (n, .inl (fun _ => 0)) = arrV cA n (fun _ => defaultValue .boolean) := fun _ _ => rfl
theorem hzb_Z : componentBytes .boolean ≤ 8 := by decide
theorem hz_J : ∀ (cA : ClassId) (n : Nat), vp_cell cA (n, .inr (.inl (fun _ => 0))) = arrV cA n (fun _ => defaultValue .long) := fun _ _ => rfl
theorem hzb_J : componentBytes .long ≤ 8 := by decide
theorem hty_0 {l : Launch} {dC : Nat → ClassId} {dI : Nat → Nat → Nat} {aC : Nat → ClassId} {H0 : Heap} {G : jx_Gv} : (jz_t (jZ l dC dI aC H0 G))[0]? = some .int := rfl
theorem hty_1 {l : Launch} {dC : Nat → ClassId} {dI : Nat → Nat → Nat} {aC : Nat → ClassId} {H0 : Heap} {G : jx_Gv} : (jz_t (jZ l dC dI aC H0 G))[1]? = some .long := rfl
theorem hty_2 {l : Launch} {dC : Nat → ClassId} {dI : Nat → Nat → Nat} {aC : Nat → ClassId} {H0 : Heap} {G : jx_Gv} : (jz_t (jZ l dC dI aC H0 G))[2]? = some .byte := rfl
theorem hty_3 {l : Launch} {dC : Nat → ClassId} {dI : Nat → Nat → Nat} {aC : Nat → ClassId} {H0 : Heap} {G : jx_Gv} : (jz_t (jZ l dC dI aC H0 G))[3]? = some .boolean := rfl
theorem hty_4 {l : Launch} {dC : Nat → ClassId} {dI : Nat → Nat → Nat} {aC : Nat → ClassId} {H0 : Heap} {G : jx_Gv} : (jz_t (jZ l dC dI aC H0 G))[4]? = some (.object "PartText$Edition") := rfl
theorem hd_0 {l : Launch} {dC : Nat → ClassId} {dI : Nat → Nat → Nat} {aC : Nat → ClassId} {H0 : Heap} {G : jx_Gv} : jz_d (jZ l dC dI aC H0 G) 0 = (0, 0) := rfl
theorem hy_0 {l : Launch} {dC : Nat → ClassId} {dI : Nat → Nat → Nat} {aC : Nat → ClassId} {H0 : Heap} {G : jx_Gv} : (jz_m (jZ l dC dI aC H0 G) 0).1 = ({ cls := "java/lang/String", name := "coder", desc := "()B" } : Jvm.MethodName) := rfl
theorem hl_0 {l : Launch} {dC : Nat → ClassId} {dI : Nat → Nat → Nat} {aC : Nat → ClassId} {H0 : Heap} {G : jx_Gv} : (jz_m (jZ l dC dI aC H0 G) 0).2.2.1 = 1 := rfl
theorem hnl_0 {l : Launch} {dC : Nat → ClassId} {dI : Nat → Nat → Nat} {aC : Nat → ClassId} {H0 : Heap} {G : jx_Gv} : jNl 0 = (jz_m (jZ l dC dI aC H0 G) 0).2.2.1 := rfl
theorem hr_0 {l : Launch} {dC : Nat → ClassId} {dI : Nat → Nat → Nat} {aC : Nat → ClassId} {H0 : Heap} {G : jx_Gv} : (jz_m (jZ l dC dI aC H0 G) 0).2.2.2 = (some .byte) := rfl
theorem hd_1 {l : Launch} {dC : Nat → ClassId} {dI : Nat → Nat → Nat} {aC : Nat → ClassId} {H0 : Heap} {G : jx_Gv} : jz_d (jZ l dC dI aC H0 G) 1 = (1, 20) := rfl
theorem hy_1 {l : Launch} {dC : Nat → ClassId} {dI : Nat → Nat → Nat} {aC : Nat → ClassId} {H0 : Heap} {G : jx_Gv} : (jz_m (jZ l dC dI aC H0 G) 1).1 = ({ cls := "java/lang/String", name := "length", desc := "()I" } : Jvm.MethodName) := rfl
theorem hl_1 {l : Launch} {dC : Nat → ClassId} {dI : Nat → Nat → Nat} {aC : Nat → ClassId} {H0 : Heap} {G : jx_Gv} : (jz_m (jZ l dC dI aC H0 G) 1).2.2.1 = 1 := rfl
theorem hnl_1 {l : Launch} {dC : Nat → ClassId} {dI : Nat → Nat → Nat} {aC : Nat → ClassId} {H0 : Heap} {G : jx_Gv} : jNl 1 = (jz_m (jZ l dC dI aC H0 G) 1).2.2.1 := rfl
theorem hr_1 {l : Launch} {dC : Nat → ClassId} {dI : Nat → Nat → Nat} {aC : Nat → ClassId} {H0 : Heap} {G : jx_Gv} : (jz_m (jZ l dC dI aC H0 G) 1).2.2.2 = (some .int) := rfl
theorem hd_2 {l : Launch} {dC : Nat → ClassId} {dI : Nat → Nat → Nat} {aC : Nat → ClassId} {H0 : Heap} {G : jx_Gv} : jz_d (jZ l dC dI aC H0 G) 2 = (0, 0) := rfl
theorem hy_2 {l : Launch} {dC : Nat → ClassId} {dI : Nat → Nat → Nat} {aC : Nat → ClassId} {H0 : Heap} {G : jx_Gv} : (jz_m (jZ l dC dI aC H0 G) 2).1 = ({ cls := "java/lang/String", name := "isLatin1", desc := "()Z" } : Jvm.MethodName) := rfl
theorem hl_2 {l : Launch} {dC : Nat → ClassId} {dI : Nat → Nat → Nat} {aC : Nat → ClassId} {H0 : Heap} {G : jx_Gv} : (jz_m (jZ l dC dI aC H0 G) 2).2.2.1 = 1 := rfl
theorem hnl_2 {l : Launch} {dC : Nat → ClassId} {dI : Nat → Nat → Nat} {aC : Nat → ClassId} {H0 : Heap} {G : jx_Gv} : jNl 2 = (jz_m (jZ l dC dI aC H0 G) 2).2.2.1 := rfl
theorem hr_2 {l : Launch} {dC : Nat → ClassId} {dI : Nat → Nat → Nat} {aC : Nat → ClassId} {H0 : Heap} {G : jx_Gv} : (jz_m (jZ l dC dI aC H0 G) 2).2.2.2 = (some .boolean) := rfl
theorem hd_3 {l : Launch} {dC : Nat → ClassId} {dI : Nat → Nat → Nat} {aC : Nat → ClassId} {H0 : Heap} {G : jx_Gv} : jz_d (jZ l dC dI aC H0 G) 3 = (0, 0) := rfl
theorem hy_3 {l : Launch} {dC : Nat → ClassId} {dI : Nat → Nat → Nat} {aC : Nat → ClassId} {H0 : Heap} {G : jx_Gv} : (jz_m (jZ l dC dI aC H0 G) 3).1 = ({ cls := "jdk/internal/util/Preconditions", name := "checkIndex", desc := "(IILjava/util/function/BiFunction;)I" } : Jvm.MethodName) := rfl
theorem hl_3 {l : Launch} {dC : Nat → ClassId} {dI : Nat → Nat → Nat} {aC : Nat → ClassId} {H0 : Heap} {G : jx_Gv} : (jz_m (jZ l dC dI aC H0 G) 3).2.2.1 = 3 := rfl
theorem hnl_3 {l : Launch} {dC : Nat → ClassId} {dI : Nat → Nat → Nat} {aC : Nat → ClassId} {H0 : Heap} {G : jx_Gv} : jNl 3 = (jz_m (jZ l dC dI aC H0 G) 3).2.2.1 := rfl
theorem hr_3 {l : Launch} {dC : Nat → ClassId} {dI : Nat → Nat → Nat} {aC : Nat → ClassId} {H0 : Heap} {G : jx_Gv} : (jz_m (jZ l dC dI aC H0 G) 3).2.2.2 = (some .int) := rfl
theorem hd_4 {l : Launch} {dC : Nat → ClassId} {dI : Nat → Nat → Nat} {aC : Nat → ClassId} {H0 : Heap} {G : jx_Gv} : jz_d (jZ l dC dI aC H0 G) 4 = (1, 22) := rfl
theorem hy_4 {l : Launch} {dC : Nat → ClassId} {dI : Nat → Nat → Nat} {aC : Nat → ClassId} {H0 : Heap} {G : jx_Gv} : (jz_m (jZ l dC dI aC H0 G) 4).1 = ({ cls := "java/lang/String", name := "checkIndex", desc := "(II)V" } : Jvm.MethodName) := rfl
theorem hl_4 {l : Launch} {dC : Nat → ClassId} {dI : Nat → Nat → Nat} {aC : Nat → ClassId} {H0 : Heap} {G : jx_Gv} : (jz_m (jZ l dC dI aC H0 G) 4).2.2.1 = 2 := rfl
theorem hnl_4 {l : Launch} {dC : Nat → ClassId} {dI : Nat → Nat → Nat} {aC : Nat → ClassId} {H0 : Heap} {G : jx_Gv} : jNl 4 = (jz_m (jZ l dC dI aC H0 G) 4).2.2.1 := rfl
theorem hr_4 {l : Launch} {dC : Nat → ClassId} {dI : Nat → Nat → Nat} {aC : Nat → ClassId} {H0 : Heap} {G : jx_Gv} : (jz_m (jZ l dC dI aC H0 G) 4).2.2.2 = none := rfl
theorem hd_5 {l : Launch} {dC : Nat → ClassId} {dI : Nat → Nat → Nat} {aC : Nat → ClassId} {H0 : Heap} {G : jx_Gv} : jz_d (jZ l dC dI aC H0 G) 5 = (2, 43) := rfl
theorem hy_5 {l : Launch} {dC : Nat → ClassId} {dI : Nat → Nat → Nat} {aC : Nat → ClassId} {H0 : Heap} {G : jx_Gv} : (jz_m (jZ l dC dI aC H0 G) 5).1 = ({ cls := "java/lang/StringLatin1", name := "charAt", desc := "([BI)C" } : Jvm.MethodName) := rfl
theorem hl_5 {l : Launch} {dC : Nat → ClassId} {dI : Nat → Nat → Nat} {aC : Nat → ClassId} {H0 : Heap} {G : jx_Gv} : (jz_m (jZ l dC dI aC H0 G) 5).2.2.1 = 2 := rfl
theorem hnl_5 {l : Launch} {dC : Nat → ClassId} {dI : Nat → Nat → Nat} {aC : Nat → ClassId} {H0 : Heap} {G : jx_Gv} : jNl 5 = (jz_m (jZ l dC dI aC H0 G) 5).2.2.1 := rfl
theorem hr_5 {l : Launch} {dC : Nat → ClassId} {dI : Nat → Nat → Nat} {aC : Nat → ClassId} {H0 : Heap} {G : jx_Gv} : (jz_m (jZ l dC dI aC H0 G) 5).2.2.2 = (some .char) := rfl
theorem hd_6 {l : Launch} {dC : Nat → ClassId} {dI : Nat → Nat → Nat} {aC : Nat → ClassId} {H0 : Heap} {G : jx_Gv} : jz_d (jZ l dC dI aC H0 G) 6 = (3, 64) := rfl
theorem hy_6 {l : Launch} {dC : Nat → ClassId} {dI : Nat → Nat → Nat} {aC : Nat → ClassId} {H0 : Heap} {G : jx_Gv} : (jz_m (jZ l dC dI aC H0 G) 6).1 = ({ cls := "java/lang/String", name := "charAt", desc := "(I)C" } : Jvm.MethodName) := rfl
theorem hl_6 {l : Launch} {dC : Nat → ClassId} {dI : Nat → Nat → Nat} {aC : Nat → ClassId} {H0 : Heap} {G : jx_Gv} : (jz_m (jZ l dC dI aC H0 G) 6).2.2.1 = 2 := rfl
theorem hnl_6 {l : Launch} {dC : Nat → ClassId} {dI : Nat → Nat → Nat} {aC : Nat → ClassId} {H0 : Heap} {G : jx_Gv} : jNl 6 = (jz_m (jZ l dC dI aC H0 G) 6).2.2.1 := rfl
theorem hr_6 {l : Launch} {dC : Nat → ClassId} {dI : Nat → Nat → Nat} {aC : Nat → ClassId} {H0 : Heap} {G : jx_Gv} : (jz_m (jZ l dC dI aC H0 G) 6).2.2.2 = (some .char) := rfl
theorem hd_7 {l : Launch} {dC : Nat → ClassId} {dI : Nat → Nat → Nat} {aC : Nat → ClassId} {H0 : Heap} {G : jx_Gv} : jz_d (jZ l dC dI aC H0 G) 7 = (0, 0) := rfl
theorem hy_7 {l : Launch} {dC : Nat → ClassId} {dI : Nat → Nat → Nat} {aC : Nat → ClassId} {H0 : Heap} {G : jx_Gv} : (jz_m (jZ l dC dI aC H0 G) 7).1 = ({ cls := "PartText$Words", name := "isDigit", desc := "(I)Z" } : Jvm.MethodName) := rfl
theorem hl_7 {l : Launch} {dC : Nat → ClassId} {dI : Nat → Nat → Nat} {aC : Nat → ClassId} {H0 : Heap} {G : jx_Gv} : (jz_m (jZ l dC dI aC H0 G) 7).2.2.1 = 1 := rfl
theorem hnl_7 {l : Launch} {dC : Nat → ClassId} {dI : Nat → Nat → Nat} {aC : Nat → ClassId} {H0 : Heap} {G : jx_Gv} : jNl 7 = (jz_m (jZ l dC dI aC H0 G) 7).2.2.1 := rfl
theorem hr_7 {l : Launch} {dC : Nat → ClassId} {dI : Nat → Nat → Nat} {aC : Nat → ClassId} {H0 : Heap} {G : jx_Gv} : (jz_m (jZ l dC dI aC H0 G) 7).2.2.2 = (some .boolean) := rfl
theorem hd_8 {l : Launch} {dC : Nat → ClassId} {dI : Nat → Nat → Nat} {aC : Nat → ClassId} {H0 : Heap} {G : jx_Gv} : jz_d (jZ l dC dI aC H0 G) 8 = (0, 0) := rfl
theorem hy_8 {l : Launch} {dC : Nat → ClassId} {dI : Nat → Nat → Nat} {aC : Nat → ClassId} {H0 : Heap} {G : jx_Gv} : (jz_m (jZ l dC dI aC H0 G) 8).1 = ({ cls := "PartText$Words", name := "isLetter", desc := "(I)Z" } : Jvm.MethodName) := rfl
theorem hl_8 {l : Launch} {dC : Nat → ClassId} {dI : Nat → Nat → Nat} {aC : Nat → ClassId} {H0 : Heap} {G : jx_Gv} : (jz_m (jZ l dC dI aC H0 G) 8).2.2.1 = 1 := rfl
theorem hnl_8 {l : Launch} {dC : Nat → ClassId} {dI : Nat → Nat → Nat} {aC : Nat → ClassId} {H0 : Heap} {G : jx_Gv} : jNl 8 = (jz_m (jZ l dC dI aC H0 G) 8).2.2.1 := rfl
theorem hr_8 {l : Launch} {dC : Nat → ClassId} {dI : Nat → Nat → Nat} {aC : Nat → ClassId} {H0 : Heap} {G : jx_Gv} : (jz_m (jZ l dC dI aC H0 G) 8).2.2.2 = (some .boolean) := rfl
theorem hd_9 {l : Launch} {dC : Nat → ClassId} {dI : Nat → Nat → Nat} {aC : Nat → ClassId} {H0 : Heap} {G : jx_Gv} : jz_d (jZ l dC dI aC H0 G) 9 = (1, 20) := rfl
theorem hy_9 {l : Launch} {dC : Nat → ClassId} {dI : Nat → Nat → Nat} {aC : Nat → ClassId} {H0 : Heap} {G : jx_Gv} : (jz_m (jZ l dC dI aC H0 G) 9).1 = ({ cls := "PartText$Words", name := "codeOf", desc := "(I)I" } : Jvm.MethodName) := rfl
theorem hl_9 {l : Launch} {dC : Nat → ClassId} {dI : Nat → Nat → Nat} {aC : Nat → ClassId} {H0 : Heap} {G : jx_Gv} : (jz_m (jZ l dC dI aC H0 G) 9).2.2.1 = 1 := rfl
theorem hnl_9 {l : Launch} {dC : Nat → ClassId} {dI : Nat → Nat → Nat} {aC : Nat → ClassId} {H0 : Heap} {G : jx_Gv} : jNl 9 = (jz_m (jZ l dC dI aC H0 G) 9).2.2.1 := rfl
theorem hr_9 {l : Launch} {dC : Nat → ClassId} {dI : Nat → Nat → Nat} {aC : Nat → ClassId} {H0 : Heap} {G : jx_Gv} : (jz_m (jZ l dC dI aC H0 G) 9).2.2.2 = (some .int) := rfl
theorem hd_10 {l : Launch} {dC : Nat → ClassId} {dI : Nat → Nat → Nat} {aC : Nat → ClassId} {H0 : Heap} {G : jx_Gv} : jz_d (jZ l dC dI aC H0 G) 10 = (4, 85) := rfl
theorem hy_10 {l : Launch} {dC : Nat → ClassId} {dI : Nat → Nat → Nat} {aC : Nat → ClassId} {H0 : Heap} {G : jx_Gv} : (jz_m (jZ l dC dI aC H0 G) 10).1 = ({ cls := "PartText$Words", name := "<init>", desc := "()V" } : Jvm.MethodName) := rfl
theorem hl_10 {l : Launch} {dC : Nat → ClassId} {dI : Nat → Nat → Nat} {aC : Nat → ClassId} {H0 : Heap} {G : jx_Gv} : (jz_m (jZ l dC dI aC H0 G) 10).2.2.1 = 6 := rfl
theorem hnl_10 {l : Launch} {dC : Nat → ClassId} {dI : Nat → Nat → Nat} {aC : Nat → ClassId} {H0 : Heap} {G : jx_Gv} : jNl 10 = (jz_m (jZ l dC dI aC H0 G) 10).2.2.1 := rfl
theorem hr_10 {l : Launch} {dC : Nat → ClassId} {dI : Nat → Nat → Nat} {aC : Nat → ClassId} {H0 : Heap} {G : jx_Gv} : (jz_m (jZ l dC dI aC H0 G) 10).2.2.2 = none := rfl
theorem hnm_10 {l : Launch} {dC : Nat → ClassId} {dI : Nat → Nat → Nat} {aC : Nat → ClassId} {H0 : Heap} {G : jx_Gv} : (jz_m (jZ l dC dI aC H0 G) 10).1.name = "<init>" := rfl
theorem hd_11 {l : Launch} {dC : Nat → ClassId} {dI : Nat → Nat → Nat} {aC : Nat → ClassId} {H0 : Heap} {G : jx_Gv} : jz_d (jZ l dC dI aC H0 G) 11 = (1, 20) := rfl
theorem hy_11 {l : Launch} {dC : Nat → ClassId} {dI : Nat → Nat → Nat} {aC : Nat → ClassId} {H0 : Heap} {G : jx_Gv} : (jz_m (jZ l dC dI aC H0 G) 11).1 = ({ cls := "PartText$Octets", name := "<init>", desc := "()V" } : Jvm.MethodName) := rfl
theorem hl_11 {l : Launch} {dC : Nat → ClassId} {dI : Nat → Nat → Nat} {aC : Nat → ClassId} {H0 : Heap} {G : jx_Gv} : (jz_m (jZ l dC dI aC H0 G) 11).2.2.1 = 1 := rfl
theorem hnl_11 {l : Launch} {dC : Nat → ClassId} {dI : Nat → Nat → Nat} {aC : Nat → ClassId} {H0 : Heap} {G : jx_Gv} : jNl 11 = (jz_m (jZ l dC dI aC H0 G) 11).2.2.1 := rfl
theorem hr_11 {l : Launch} {dC : Nat → ClassId} {dI : Nat → Nat → Nat} {aC : Nat → ClassId} {H0 : Heap} {G : jx_Gv} : (jz_m (jZ l dC dI aC H0 G) 11).2.2.2 = none := rfl
theorem hnm_11 {l : Launch} {dC : Nat → ClassId} {dI : Nat → Nat → Nat} {aC : Nat → ClassId} {H0 : Heap} {G : jx_Gv} : (jz_m (jZ l dC dI aC H0 G) 11).1.name = "<init>" := rfl
theorem hd_12 {l : Launch} {dC : Nat → ClassId} {dI : Nat → Nat → Nat} {aC : Nat → ClassId} {H0 : Heap} {G : jx_Gv} : jz_d (jZ l dC dI aC H0 G) 12 = (1, 20) := rfl
theorem hy_12 {l : Launch} {dC : Nat → ClassId} {dI : Nat → Nat → Nat} {aC : Nat → ClassId} {H0 : Heap} {G : jx_Gv} : (jz_m (jZ l dC dI aC H0 G) 12).1 = ({ cls := "PartText$Scanner", name := "<init>", desc := "(LPartText$Octets;LPartText$Words;)V" } : Jvm.MethodName) := rfl
theorem hl_12 {l : Launch} {dC : Nat → ClassId} {dI : Nat → Nat → Nat} {aC : Nat → ClassId} {H0 : Heap} {G : jx_Gv} : (jz_m (jZ l dC dI aC H0 G) 12).2.2.1 = 3 := rfl
theorem hnl_12 {l : Launch} {dC : Nat → ClassId} {dI : Nat → Nat → Nat} {aC : Nat → ClassId} {H0 : Heap} {G : jx_Gv} : jNl 12 = (jz_m (jZ l dC dI aC H0 G) 12).2.2.1 := rfl
theorem hr_12 {l : Launch} {dC : Nat → ClassId} {dI : Nat → Nat → Nat} {aC : Nat → ClassId} {H0 : Heap} {G : jx_Gv} : (jz_m (jZ l dC dI aC H0 G) 12).2.2.2 = none := rfl
theorem hnm_12 {l : Launch} {dC : Nat → ClassId} {dI : Nat → Nat → Nat} {aC : Nat → ClassId} {H0 : Heap} {G : jx_Gv} : (jz_m (jZ l dC dI aC H0 G) 12).1.name = "<init>" := rfl
theorem hd_13 {l : Launch} {dC : Nat → ClassId} {dI : Nat → Nat → Nat} {aC : Nat → ClassId} {H0 : Heap} {G : jx_Gv} : jz_d (jZ l dC dI aC H0 G) 13 = (1, 20) := rfl
theorem hy_13 {l : Launch} {dC : Nat → ClassId} {dI : Nat → Nat → Nat} {aC : Nat → ClassId} {H0 : Heap} {G : jx_Gv} : (jz_m (jZ l dC dI aC H0 G) 13).1 = ({ cls := "PartText$Reader", name := "<init>", desc := "(LPartText$Scanner;)V" } : Jvm.MethodName) := rfl
theorem hl_13 {l : Launch} {dC : Nat → ClassId} {dI : Nat → Nat → Nat} {aC : Nat → ClassId} {H0 : Heap} {G : jx_Gv} : (jz_m (jZ l dC dI aC H0 G) 13).2.2.1 = 2 := rfl
theorem hnl_13 {l : Launch} {dC : Nat → ClassId} {dI : Nat → Nat → Nat} {aC : Nat → ClassId} {H0 : Heap} {G : jx_Gv} : jNl 13 = (jz_m (jZ l dC dI aC H0 G) 13).2.2.1 := rfl
theorem hr_13 {l : Launch} {dC : Nat → ClassId} {dI : Nat → Nat → Nat} {aC : Nat → ClassId} {H0 : Heap} {G : jx_Gv} : (jz_m (jZ l dC dI aC H0 G) 13).2.2.2 = none := rfl
theorem hnm_13 {l : Launch} {dC : Nat → ClassId} {dI : Nat → Nat → Nat} {aC : Nat → ClassId} {H0 : Heap} {G : jx_Gv} : (jz_m (jZ l dC dI aC H0 G) 13).1.name = "<init>" := rfl
theorem hd_14 {l : Launch} {dC : Nat → ClassId} {dI : Nat → Nat → Nat} {aC : Nat → ClassId} {H0 : Heap} {G : jx_Gv} : jz_d (jZ l dC dI aC H0 G) 14 = (1, 20) := rfl
theorem hy_14 {l : Launch} {dC : Nat → ClassId} {dI : Nat → Nat → Nat} {aC : Nat → ClassId} {H0 : Heap} {G : jx_Gv} : (jz_m (jZ l dC dI aC H0 G) 14).1 = ({ cls := "PartText$Writer", name := "<init>", desc := "(LPartText$Octets;LPartText$Words;)V" } : Jvm.MethodName) := rfl
theorem hl_14 {l : Launch} {dC : Nat → ClassId} {dI : Nat → Nat → Nat} {aC : Nat → ClassId} {H0 : Heap} {G : jx_Gv} : (jz_m (jZ l dC dI aC H0 G) 14).2.2.1 = 3 := rfl
theorem hnl_14 {l : Launch} {dC : Nat → ClassId} {dI : Nat → Nat → Nat} {aC : Nat → ClassId} {H0 : Heap} {G : jx_Gv} : jNl 14 = (jz_m (jZ l dC dI aC H0 G) 14).2.2.1 := rfl
theorem hr_14 {l : Launch} {dC : Nat → ClassId} {dI : Nat → Nat → Nat} {aC : Nat → ClassId} {H0 : Heap} {G : jx_Gv} : (jz_m (jZ l dC dI aC H0 G) 14).2.2.2 = none := rfl
theorem hnm_14 {l : Launch} {dC : Nat → ClassId} {dI : Nat → Nat → Nat} {aC : Nat → ClassId} {H0 : Heap} {G : jx_Gv} : (jz_m (jZ l dC dI aC H0 G) 14).1.name = "<init>" := rfl
theorem hd_15 {l : Launch} {dC : Nat → ClassId} {dI : Nat → Nat → Nat} {aC : Nat → ClassId} {H0 : Heap} {G : jx_Gv} : jz_d (jZ l dC dI aC H0 G) 15 = (1, 20) := rfl
theorem hy_15 {l : Launch} {dC : Nat → ClassId} {dI : Nat → Nat → Nat} {aC : Nat → ClassId} {H0 : Heap} {G : jx_Gv} : (jz_m (jZ l dC dI aC H0 G) 15).1 = ({ cls := "PartText$Rules", name := "<init>", desc := "()V" } : Jvm.MethodName) := rfl
theorem hl_15 {l : Launch} {dC : Nat → ClassId} {dI : Nat → Nat → Nat} {aC : Nat → ClassId} {H0 : Heap} {G : jx_Gv} : (jz_m (jZ l dC dI aC H0 G) 15).2.2.1 = 1 := rfl
theorem hnl_15 {l : Launch} {dC : Nat → ClassId} {dI : Nat → Nat → Nat} {aC : Nat → ClassId} {H0 : Heap} {G : jx_Gv} : jNl 15 = (jz_m (jZ l dC dI aC H0 G) 15).2.2.1 := rfl
theorem hr_15 {l : Launch} {dC : Nat → ClassId} {dI : Nat → Nat → Nat} {aC : Nat → ClassId} {H0 : Heap} {G : jx_Gv} : (jz_m (jZ l dC dI aC H0 G) 15).2.2.2 = none := rfl
theorem hnm_15 {l : Launch} {dC : Nat → ClassId} {dI : Nat → Nat → Nat} {aC : Nat → ClassId} {H0 : Heap} {G : jx_Gv} : (jz_m (jZ l dC dI aC H0 G) 15).1.name = "<init>" := rfl
theorem hd_16 {l : Launch} {dC : Nat → ClassId} {dI : Nat → Nat → Nat} {aC : Nat → ClassId} {H0 : Heap} {G : jx_Gv} : jz_d (jZ l dC dI aC H0 G) 16 = (5, 110) := rfl
theorem hy_16 {l : Launch} {dC : Nat → ClassId} {dI : Nat → Nat → Nat} {aC : Nat → ClassId} {H0 : Heap} {G : jx_Gv} : (jz_m (jZ l dC dI aC H0 G) 16).1 = ({ cls := "PartText", name := "<init>", desc := "()V" } : Jvm.MethodName) := rfl
theorem hl_16 {l : Launch} {dC : Nat → ClassId} {dI : Nat → Nat → Nat} {aC : Nat → ClassId} {H0 : Heap} {G : jx_Gv} : (jz_m (jZ l dC dI aC H0 G) 16).2.2.1 = 2 := rfl
theorem hnl_16 {l : Launch} {dC : Nat → ClassId} {dI : Nat → Nat → Nat} {aC : Nat → ClassId} {H0 : Heap} {G : jx_Gv} : jNl 16 = (jz_m (jZ l dC dI aC H0 G) 16).2.2.1 := rfl
theorem hr_16 {l : Launch} {dC : Nat → ClassId} {dI : Nat → Nat → Nat} {aC : Nat → ClassId} {H0 : Heap} {G : jx_Gv} : (jz_m (jZ l dC dI aC H0 G) 16).2.2.2 = none := rfl
theorem hnm_16 {l : Launch} {dC : Nat → ClassId} {dI : Nat → Nat → Nat} {aC : Nat → ClassId} {H0 : Heap} {G : jx_Gv} : (jz_m (jZ l dC dI aC H0 G) 16).1.name = "<init>" := rfl
theorem hd_17 {l : Launch} {dC : Nat → ClassId} {dI : Nat → Nat → Nat} {aC : Nat → ClassId} {H0 : Heap} {G : jx_Gv} : jz_d (jZ l dC dI aC H0 G) 17 = (1, 20) := rfl
theorem hy_17 {l : Launch} {dC : Nat → ClassId} {dI : Nat → Nat → Nat} {aC : Nat → ClassId} {H0 : Heap} {G : jx_Gv} : (jz_m (jZ l dC dI aC H0 G) 17).1 = ({ cls := "PartTextModel", name := "<init>", desc := "()V" } : Jvm.MethodName) := rfl
theorem hl_17 {l : Launch} {dC : Nat → ClassId} {dI : Nat → Nat → Nat} {aC : Nat → ClassId} {H0 : Heap} {G : jx_Gv} : (jz_m (jZ l dC dI aC H0 G) 17).2.2.1 = 1 := rfl
theorem hnl_17 {l : Launch} {dC : Nat → ClassId} {dI : Nat → Nat → Nat} {aC : Nat → ClassId} {H0 : Heap} {G : jx_Gv} : jNl 17 = (jz_m (jZ l dC dI aC H0 G) 17).2.2.1 := rfl
theorem hr_17 {l : Launch} {dC : Nat → ClassId} {dI : Nat → Nat → Nat} {aC : Nat → ClassId} {H0 : Heap} {G : jx_Gv} : (jz_m (jZ l dC dI aC H0 G) 17).2.2.2 = none := rfl
theorem hnm_17 {l : Launch} {dC : Nat → ClassId} {dI : Nat → Nat → Nat} {aC : Nat → ClassId} {H0 : Heap} {G : jx_Gv} : (jz_m (jZ l dC dI aC H0 G) 17).1.name = "<init>" := rfl
theorem hd_18 {l : Launch} {dC : Nat → ClassId} {dI : Nat → Nat → Nat} {aC : Nat → ClassId} {H0 : Heap} {G : jx_Gv} : jz_d (jZ l dC dI aC H0 G) 18 = (0, 0) := rfl
theorem hy_18 {l : Launch} {dC : Nat → ClassId} {dI : Nat → Nat → Nat} {aC : Nat → ClassId} {H0 : Heap} {G : jx_Gv} : (jz_m (jZ l dC dI aC H0 G) 18).1 = ({ cls := "PartText$Octets", name := "add", desc := "(I)V" } : Jvm.MethodName) := rfl
theorem hl_18 {l : Launch} {dC : Nat → ClassId} {dI : Nat → Nat → Nat} {aC : Nat → ClassId} {H0 : Heap} {G : jx_Gv} : (jz_m (jZ l dC dI aC H0 G) 18).2.2.1 = 2 := rfl
theorem hnl_18 {l : Launch} {dC : Nat → ClassId} {dI : Nat → Nat → Nat} {aC : Nat → ClassId} {H0 : Heap} {G : jx_Gv} : jNl 18 = (jz_m (jZ l dC dI aC H0 G) 18).2.2.1 := rfl
theorem hr_18 {l : Launch} {dC : Nat → ClassId} {dI : Nat → Nat → Nat} {aC : Nat → ClassId} {H0 : Heap} {G : jx_Gv} : (jz_m (jZ l dC dI aC H0 G) 18).2.2.2 = none := rfl
theorem hd_19 {l : Launch} {dC : Nat → ClassId} {dI : Nat → Nat → Nat} {aC : Nat → ClassId} {H0 : Heap} {G : jx_Gv} : jz_d (jZ l dC dI aC H0 G) 19 = (1, 21) := rfl
theorem hy_19 {l : Launch} {dC : Nat → ClassId} {dI : Nat → Nat → Nat} {aC : Nat → ClassId} {H0 : Heap} {G : jx_Gv} : (jz_m (jZ l dC dI aC H0 G) 19).1 = ({ cls := "PartText", name := "sign", desc := "(I)V" } : Jvm.MethodName) := rfl
theorem hl_19 {l : Launch} {dC : Nat → ClassId} {dI : Nat → Nat → Nat} {aC : Nat → ClassId} {H0 : Heap} {G : jx_Gv} : (jz_m (jZ l dC dI aC H0 G) 19).2.2.1 = 4 := rfl
theorem hnl_19 {l : Launch} {dC : Nat → ClassId} {dI : Nat → Nat → Nat} {aC : Nat → ClassId} {H0 : Heap} {G : jx_Gv} : jNl 19 = (jz_m (jZ l dC dI aC H0 G) 19).2.2.1 := rfl
theorem hr_19 {l : Launch} {dC : Nat → ClassId} {dI : Nat → Nat → Nat} {aC : Nat → ClassId} {H0 : Heap} {G : jx_Gv} : (jz_m (jZ l dC dI aC H0 G) 19).2.2.2 = none := rfl
theorem hd_20 {l : Launch} {dC : Nat → ClassId} {dI : Nat → Nat → Nat} {aC : Nat → ClassId} {H0 : Heap} {G : jx_Gv} : jz_d (jZ l dC dI aC H0 G) 20 = (0, 0) := rfl
theorem hy_20 {l : Launch} {dC : Nat → ClassId} {dI : Nat → Nat → Nat} {aC : Nat → ClassId} {H0 : Heap} {G : jx_Gv} : (jz_m (jZ l dC dI aC H0 G) 20).1 = ({ cls := "PartTextModel", name := "sign", desc := "(I)V" } : Jvm.MethodName) := rfl
theorem hl_20 {l : Launch} {dC : Nat → ClassId} {dI : Nat → Nat → Nat} {aC : Nat → ClassId} {H0 : Heap} {G : jx_Gv} : (jz_m (jZ l dC dI aC H0 G) 20).2.2.1 = 4 := rfl
theorem hnl_20 {l : Launch} {dC : Nat → ClassId} {dI : Nat → Nat → Nat} {aC : Nat → ClassId} {H0 : Heap} {G : jx_Gv} : jNl 20 = (jz_m (jZ l dC dI aC H0 G) 20).2.2.1 := rfl
theorem hr_20 {l : Launch} {dC : Nat → ClassId} {dI : Nat → Nat → Nat} {aC : Nat → ClassId} {H0 : Heap} {G : jx_Gv} : (jz_m (jZ l dC dI aC H0 G) 20).2.2.2 = none := rfl
theorem hd_21 {l : Launch} {dC : Nat → ClassId} {dI : Nat → Nat → Nat} {aC : Nat → ClassId} {H0 : Heap} {G : jx_Gv} : jz_d (jZ l dC dI aC H0 G) 21 = (0, 0) := rfl
theorem hy_21 {l : Launch} {dC : Nat → ClassId} {dI : Nat → Nat → Nat} {aC : Nat → ClassId} {H0 : Heap} {G : jx_Gv} : (jz_m (jZ l dC dI aC H0 G) 21).1 = ({ cls := "PartText", name := "freeSlot", desc := "()I" } : Jvm.MethodName) := rfl
theorem hl_21 {l : Launch} {dC : Nat → ClassId} {dI : Nat → Nat → Nat} {aC : Nat → ClassId} {H0 : Heap} {G : jx_Gv} : (jz_m (jZ l dC dI aC H0 G) 21).2.2.1 = 1 := rfl
theorem hnl_21 {l : Launch} {dC : Nat → ClassId} {dI : Nat → Nat → Nat} {aC : Nat → ClassId} {H0 : Heap} {G : jx_Gv} : jNl 21 = (jz_m (jZ l dC dI aC H0 G) 21).2.2.1 := rfl
theorem hr_21 {l : Launch} {dC : Nat → ClassId} {dI : Nat → Nat → Nat} {aC : Nat → ClassId} {H0 : Heap} {G : jx_Gv} : (jz_m (jZ l dC dI aC H0 G) 21).2.2.2 = (some .int) := rfl
theorem hd_22 {l : Launch} {dC : Nat → ClassId} {dI : Nat → Nat → Nat} {aC : Nat → ClassId} {H0 : Heap} {G : jx_Gv} : jz_d (jZ l dC dI aC H0 G) 22 = (1, 20) := rfl
theorem hy_22 {l : Launch} {dC : Nat → ClassId} {dI : Nat → Nat → Nat} {aC : Nat → ClassId} {H0 : Heap} {G : jx_Gv} : (jz_m (jZ l dC dI aC H0 G) 22).1 = ({ cls := "PartText$Edition", name := "<init>", desc := "()V" } : Jvm.MethodName) := rfl
theorem hl_22 {l : Launch} {dC : Nat → ClassId} {dI : Nat → Nat → Nat} {aC : Nat → ClassId} {H0 : Heap} {G : jx_Gv} : (jz_m (jZ l dC dI aC H0 G) 22).2.2.1 = 1 := rfl
theorem hnl_22 {l : Launch} {dC : Nat → ClassId} {dI : Nat → Nat → Nat} {aC : Nat → ClassId} {H0 : Heap} {G : jx_Gv} : jNl 22 = (jz_m (jZ l dC dI aC H0 G) 22).2.2.1 := rfl
theorem hr_22 {l : Launch} {dC : Nat → ClassId} {dI : Nat → Nat → Nat} {aC : Nat → ClassId} {H0 : Heap} {G : jx_Gv} : (jz_m (jZ l dC dI aC H0 G) 22).2.2.2 = none := rfl
theorem hnm_22 {l : Launch} {dC : Nat → ClassId} {dI : Nat → Nat → Nat} {aC : Nat → ClassId} {H0 : Heap} {G : jx_Gv} : (jz_m (jZ l dC dI aC H0 G) 22).1.name = "<init>" := rfl
theorem hd_23 {l : Launch} {dC : Nat → ClassId} {dI : Nat → Nat → Nat} {aC : Nat → ClassId} {H0 : Heap} {G : jx_Gv} : jz_d (jZ l dC dI aC H0 G) 23 = (2, 40) := rfl
theorem hy_23 {l : Launch} {dC : Nat → ClassId} {dI : Nat → Nat → Nat} {aC : Nat → ClassId} {H0 : Heap} {G : jx_Gv} : (jz_m (jZ l dC dI aC H0 G) 23).1 = ({ cls := "PartText", name := "editionIn", desc := "(I)LPartText$Edition;" } : Jvm.MethodName) := rfl
theorem hl_23 {l : Launch} {dC : Nat → ClassId} {dI : Nat → Nat → Nat} {aC : Nat → ClassId} {H0 : Heap} {G : jx_Gv} : (jz_m (jZ l dC dI aC H0 G) 23).2.2.1 = 2 := rfl
theorem hnl_23 {l : Launch} {dC : Nat → ClassId} {dI : Nat → Nat → Nat} {aC : Nat → ClassId} {H0 : Heap} {G : jx_Gv} : jNl 23 = (jz_m (jZ l dC dI aC H0 G) 23).2.2.1 := rfl
theorem hr_23 {l : Launch} {dC : Nat → ClassId} {dI : Nat → Nat → Nat} {aC : Nat → ClassId} {H0 : Heap} {G : jx_Gv} : (jz_m (jZ l dC dI aC H0 G) 23).2.2.2 = (some (Jvm.ClassFile.FieldType.object "PartText$Edition")) := rfl
theorem hd_24 {l : Launch} {dC : Nat → ClassId} {dI : Nat → Nat → Nat} {aC : Nat → ClassId} {H0 : Heap} {G : jx_Gv} : jz_d (jZ l dC dI aC H0 G) 24 = (0, 0) := rfl
theorem hy_24 {l : Launch} {dC : Nat → ClassId} {dI : Nat → Nat → Nat} {aC : Nat → ClassId} {H0 : Heap} {G : jx_Gv} : (jz_m (jZ l dC dI aC H0 G) 24).1 = ({ cls := "PartText$Edition", name := "clear", desc := "()V" } : Jvm.MethodName) := rfl
theorem hl_24 {l : Launch} {dC : Nat → ClassId} {dI : Nat → Nat → Nat} {aC : Nat → ClassId} {H0 : Heap} {G : jx_Gv} : (jz_m (jZ l dC dI aC H0 G) 24).2.2.1 = 1 := rfl
theorem hnl_24 {l : Launch} {dC : Nat → ClassId} {dI : Nat → Nat → Nat} {aC : Nat → ClassId} {H0 : Heap} {G : jx_Gv} : jNl 24 = (jz_m (jZ l dC dI aC H0 G) 24).2.2.1 := rfl
theorem hr_24 {l : Launch} {dC : Nat → ClassId} {dI : Nat → Nat → Nat} {aC : Nat → ClassId} {H0 : Heap} {G : jx_Gv} : (jz_m (jZ l dC dI aC H0 G) 24).2.2.2 = none := rfl
theorem hd_25 {l : Launch} {dC : Nat → ClassId} {dI : Nat → Nat → Nat} {aC : Nat → ClassId} {H0 : Heap} {G : jx_Gv} : jz_d (jZ l dC dI aC H0 G) 25 = (0, 0) := rfl
theorem hy_25 {l : Launch} {dC : Nat → ClassId} {dI : Nat → Nat → Nat} {aC : Nat → ClassId} {H0 : Heap} {G : jx_Gv} : (jz_m (jZ l dC dI aC H0 G) 25).1 = ({ cls := "PartText$Scanner", name := "restart", desc := "()V" } : Jvm.MethodName) := rfl
theorem hl_25 {l : Launch} {dC : Nat → ClassId} {dI : Nat → Nat → Nat} {aC : Nat → ClassId} {H0 : Heap} {G : jx_Gv} : (jz_m (jZ l dC dI aC H0 G) 25).2.2.1 = 1 := rfl
theorem hnl_25 {l : Launch} {dC : Nat → ClassId} {dI : Nat → Nat → Nat} {aC : Nat → ClassId} {H0 : Heap} {G : jx_Gv} : jNl 25 = (jz_m (jZ l dC dI aC H0 G) 25).2.2.1 := rfl
theorem hr_25 {l : Launch} {dC : Nat → ClassId} {dI : Nat → Nat → Nat} {aC : Nat → ClassId} {H0 : Heap} {G : jx_Gv} : (jz_m (jZ l dC dI aC H0 G) 25).2.2.2 = none := rfl
theorem hd_26 {l : Launch} {dC : Nat → ClassId} {dI : Nat → Nat → Nat} {aC : Nat → ClassId} {H0 : Heap} {G : jx_Gv} : jz_d (jZ l dC dI aC H0 G) 26 = (0, 0) := rfl
theorem hy_26 {l : Launch} {dC : Nat → ClassId} {dI : Nat → Nat → Nat} {aC : Nat → ClassId} {H0 : Heap} {G : jx_Gv} : (jz_m (jZ l dC dI aC H0 G) 26).1 = ({ cls := "PartText$Reader", name := "follow", desc := "(Ljava/lang/String;)V" } : Jvm.MethodName) := rfl
theorem hl_26 {l : Launch} {dC : Nat → ClassId} {dI : Nat → Nat → Nat} {aC : Nat → ClassId} {H0 : Heap} {G : jx_Gv} : (jz_m (jZ l dC dI aC H0 G) 26).2.2.1 = 2 := rfl
theorem hnl_26 {l : Launch} {dC : Nat → ClassId} {dI : Nat → Nat → Nat} {aC : Nat → ClassId} {H0 : Heap} {G : jx_Gv} : jNl 26 = (jz_m (jZ l dC dI aC H0 G) 26).2.2.1 := rfl
theorem hr_26 {l : Launch} {dC : Nat → ClassId} {dI : Nat → Nat → Nat} {aC : Nat → ClassId} {H0 : Heap} {G : jx_Gv} : (jz_m (jZ l dC dI aC H0 G) 26).2.2.2 = none := rfl
theorem hd_27 {l : Launch} {dC : Nat → ClassId} {dI : Nat → Nat → Nat} {aC : Nat → ClassId} {H0 : Heap} {G : jx_Gv} : jz_d (jZ l dC dI aC H0 G) 27 = (0, 0) := rfl
theorem hy_27 {l : Launch} {dC : Nat → ClassId} {dI : Nat → Nat → Nat} {aC : Nat → ClassId} {H0 : Heap} {G : jx_Gv} : (jz_m (jZ l dC dI aC H0 G) 27).1 = ({ cls := "PartText$Octets", name := "length", desc := "()I" } : Jvm.MethodName) := rfl
theorem hl_27 {l : Launch} {dC : Nat → ClassId} {dI : Nat → Nat → Nat} {aC : Nat → ClassId} {H0 : Heap} {G : jx_Gv} : (jz_m (jZ l dC dI aC H0 G) 27).2.2.1 = 1 := rfl
theorem hnl_27 {l : Launch} {dC : Nat → ClassId} {dI : Nat → Nat → Nat} {aC : Nat → ClassId} {H0 : Heap} {G : jx_Gv} : jNl 27 = (jz_m (jZ l dC dI aC H0 G) 27).2.2.1 := rfl
theorem hr_27 {l : Launch} {dC : Nat → ClassId} {dI : Nat → Nat → Nat} {aC : Nat → ClassId} {H0 : Heap} {G : jx_Gv} : (jz_m (jZ l dC dI aC H0 G) 27).2.2.2 = (some .int) := rfl
theorem hd_28 {l : Launch} {dC : Nat → ClassId} {dI : Nat → Nat → Nat} {aC : Nat → ClassId} {H0 : Heap} {G : jx_Gv} : jz_d (jZ l dC dI aC H0 G) 28 = (0, 0) := rfl
theorem hy_28 {l : Launch} {dC : Nat → ClassId} {dI : Nat → Nat → Nat} {aC : Nat → ClassId} {H0 : Heap} {G : jx_Gv} : (jz_m (jZ l dC dI aC H0 G) 28).1 = ({ cls := "PartText$Octets", name := "octet", desc := "(I)I" } : Jvm.MethodName) := rfl
theorem hl_28 {l : Launch} {dC : Nat → ClassId} {dI : Nat → Nat → Nat} {aC : Nat → ClassId} {H0 : Heap} {G : jx_Gv} : (jz_m (jZ l dC dI aC H0 G) 28).2.2.1 = 2 := rfl
theorem hnl_28 {l : Launch} {dC : Nat → ClassId} {dI : Nat → Nat → Nat} {aC : Nat → ClassId} {H0 : Heap} {G : jx_Gv} : jNl 28 = (jz_m (jZ l dC dI aC H0 G) 28).2.2.1 := rfl
theorem hr_28 {l : Launch} {dC : Nat → ClassId} {dI : Nat → Nat → Nat} {aC : Nat → ClassId} {H0 : Heap} {G : jx_Gv} : (jz_m (jZ l dC dI aC H0 G) 28).2.2.2 = (some .int) := rfl
theorem hd_29 {l : Launch} {dC : Nat → ClassId} {dI : Nat → Nat → Nat} {aC : Nat → ClassId} {H0 : Heap} {G : jx_Gv} : jz_d (jZ l dC dI aC H0 G) 29 = (0, 0) := rfl
theorem hy_29 {l : Launch} {dC : Nat → ClassId} {dI : Nat → Nat → Nat} {aC : Nat → ClassId} {H0 : Heap} {G : jx_Gv} : (jz_m (jZ l dC dI aC H0 G) 29).1 = ({ cls := "PartText$Scanner", name := "isBlank", desc := "(I)Z" } : Jvm.MethodName) := rfl
theorem hl_29 {l : Launch} {dC : Nat → ClassId} {dI : Nat → Nat → Nat} {aC : Nat → ClassId} {H0 : Heap} {G : jx_Gv} : (jz_m (jZ l dC dI aC H0 G) 29).2.2.1 = 1 := rfl
theorem hnl_29 {l : Launch} {dC : Nat → ClassId} {dI : Nat → Nat → Nat} {aC : Nat → ClassId} {H0 : Heap} {G : jx_Gv} : jNl 29 = (jz_m (jZ l dC dI aC H0 G) 29).2.2.1 := rfl
theorem hr_29 {l : Launch} {dC : Nat → ClassId} {dI : Nat → Nat → Nat} {aC : Nat → ClassId} {H0 : Heap} {G : jx_Gv} : (jz_m (jZ l dC dI aC H0 G) 29).2.2.2 = (some .boolean) := rfl
theorem hd_30 {l : Launch} {dC : Nat → ClassId} {dI : Nat → Nat → Nat} {aC : Nat → ClassId} {H0 : Heap} {G : jx_Gv} : jz_d (jZ l dC dI aC H0 G) 30 = (1, 21) := rfl
theorem hy_30 {l : Launch} {dC : Nat → ClassId} {dI : Nat → Nat → Nat} {aC : Nat → ClassId} {H0 : Heap} {G : jx_Gv} : (jz_m (jZ l dC dI aC H0 G) 30).1 = ({ cls := "PartText$Scanner", name := "skipBlanks", desc := "()V" } : Jvm.MethodName) := rfl
theorem hl_30 {l : Launch} {dC : Nat → ClassId} {dI : Nat → Nat → Nat} {aC : Nat → ClassId} {H0 : Heap} {G : jx_Gv} : (jz_m (jZ l dC dI aC H0 G) 30).2.2.1 = 1 := rfl
theorem hnl_30 {l : Launch} {dC : Nat → ClassId} {dI : Nat → Nat → Nat} {aC : Nat → ClassId} {H0 : Heap} {G : jx_Gv} : jNl 30 = (jz_m (jZ l dC dI aC H0 G) 30).2.2.1 := rfl
theorem hr_30 {l : Launch} {dC : Nat → ClassId} {dI : Nat → Nat → Nat} {aC : Nat → ClassId} {H0 : Heap} {G : jx_Gv} : (jz_m (jZ l dC dI aC H0 G) 30).2.2.2 = none := rfl
theorem hd_31 {l : Launch} {dC : Nat → ClassId} {dI : Nat → Nat → Nat} {aC : Nat → ClassId} {H0 : Heap} {G : jx_Gv} : jz_d (jZ l dC dI aC H0 G) 31 = (0, 0) := rfl
theorem hy_31 {l : Launch} {dC : Nat → ClassId} {dI : Nat → Nat → Nat} {aC : Nat → ClassId} {H0 : Heap} {G : jx_Gv} : (jz_m (jZ l dC dI aC H0 G) 31).1 = ({ cls := "PartText$Words", name := "bitOf", desc := "(J)I" } : Jvm.MethodName) := rfl
theorem hl_31 {l : Launch} {dC : Nat → ClassId} {dI : Nat → Nat → Nat} {aC : Nat → ClassId} {H0 : Heap} {G : jx_Gv} : (jz_m (jZ l dC dI aC H0 G) 31).2.2.1 = 4 := rfl
theorem hnl_31 {l : Launch} {dC : Nat → ClassId} {dI : Nat → Nat → Nat} {aC : Nat → ClassId} {H0 : Heap} {G : jx_Gv} : jNl 31 = (jz_m (jZ l dC dI aC H0 G) 31).2.2.1 := rfl
theorem hr_31 {l : Launch} {dC : Nat → ClassId} {dI : Nat → Nat → Nat} {aC : Nat → ClassId} {H0 : Heap} {G : jx_Gv} : (jz_m (jZ l dC dI aC H0 G) 31).2.2.2 = (some .int) := rfl
theorem hd_32 {l : Launch} {dC : Nat → ClassId} {dI : Nat → Nat → Nat} {aC : Nat → ClassId} {H0 : Heap} {G : jx_Gv} : jz_d (jZ l dC dI aC H0 G) 32 = (2, 40) := rfl
theorem hy_32 {l : Launch} {dC : Nat → ClassId} {dI : Nat → Nat → Nat} {aC : Nat → ClassId} {H0 : Heap} {G : jx_Gv} : (jz_m (jZ l dC dI aC H0 G) 32).1 = ({ cls := "PartText$Scanner", name := "scanName", desc := "()V" } : Jvm.MethodName) := rfl
theorem hl_32 {l : Launch} {dC : Nat → ClassId} {dI : Nat → Nat → Nat} {aC : Nat → ClassId} {H0 : Heap} {G : jx_Gv} : (jz_m (jZ l dC dI aC H0 G) 32).2.2.1 = 5 := rfl
theorem hnl_32 {l : Launch} {dC : Nat → ClassId} {dI : Nat → Nat → Nat} {aC : Nat → ClassId} {H0 : Heap} {G : jx_Gv} : jNl 32 = (jz_m (jZ l dC dI aC H0 G) 32).2.2.1 := rfl
theorem hr_32 {l : Launch} {dC : Nat → ClassId} {dI : Nat → Nat → Nat} {aC : Nat → ClassId} {H0 : Heap} {G : jx_Gv} : (jz_m (jZ l dC dI aC H0 G) 32).2.2.2 = none := rfl
theorem hd_33 {l : Launch} {dC : Nat → ClassId} {dI : Nat → Nat → Nat} {aC : Nat → ClassId} {H0 : Heap} {G : jx_Gv} : jz_d (jZ l dC dI aC H0 G) 33 = (2, 40) := rfl
theorem hy_33 {l : Launch} {dC : Nat → ClassId} {dI : Nat → Nat → Nat} {aC : Nat → ClassId} {H0 : Heap} {G : jx_Gv} : (jz_m (jZ l dC dI aC H0 G) 33).1 = ({ cls := "PartText$Scanner", name := "scanNumber", desc := "()V" } : Jvm.MethodName) := rfl
theorem hl_33 {l : Launch} {dC : Nat → ClassId} {dI : Nat → Nat → Nat} {aC : Nat → ClassId} {H0 : Heap} {G : jx_Gv} : (jz_m (jZ l dC dI aC H0 G) 33).2.2.1 = 2 := rfl
theorem hnl_33 {l : Launch} {dC : Nat → ClassId} {dI : Nat → Nat → Nat} {aC : Nat → ClassId} {H0 : Heap} {G : jx_Gv} : jNl 33 = (jz_m (jZ l dC dI aC H0 G) 33).2.2.1 := rfl
theorem hr_33 {l : Launch} {dC : Nat → ClassId} {dI : Nat → Nat → Nat} {aC : Nat → ClassId} {H0 : Heap} {G : jx_Gv} : (jz_m (jZ l dC dI aC H0 G) 33).2.2.2 = none := rfl
theorem hd_34 {l : Launch} {dC : Nat → ClassId} {dI : Nat → Nat → Nat} {aC : Nat → ClassId} {H0 : Heap} {G : jx_Gv} : jz_d (jZ l dC dI aC H0 G) 34 = (0, 0) := rfl
theorem hy_34 {l : Launch} {dC : Nat → ClassId} {dI : Nat → Nat → Nat} {aC : Nat → ClassId} {H0 : Heap} {G : jx_Gv} : (jz_m (jZ l dC dI aC H0 G) 34).1 = ({ cls := "java/lang/StringLatin1", name := "canEncode", desc := "(I)Z" } : Jvm.MethodName) := rfl
theorem hl_34 {l : Launch} {dC : Nat → ClassId} {dI : Nat → Nat → Nat} {aC : Nat → ClassId} {H0 : Heap} {G : jx_Gv} : (jz_m (jZ l dC dI aC H0 G) 34).2.2.1 = 1 := rfl
theorem hnl_34 {l : Launch} {dC : Nat → ClassId} {dI : Nat → Nat → Nat} {aC : Nat → ClassId} {H0 : Heap} {G : jx_Gv} : jNl 34 = (jz_m (jZ l dC dI aC H0 G) 34).2.2.1 := rfl
theorem hr_34 {l : Launch} {dC : Nat → ClassId} {dI : Nat → Nat → Nat} {aC : Nat → ClassId} {H0 : Heap} {G : jx_Gv} : (jz_m (jZ l dC dI aC H0 G) 34).2.2.2 = (some .boolean) := rfl
theorem hd_35 {l : Launch} {dC : Nat → ClassId} {dI : Nat → Nat → Nat} {aC : Nat → ClassId} {H0 : Heap} {G : jx_Gv} : jz_d (jZ l dC dI aC H0 G) 35 = (0, 0) := rfl
theorem hy_35 {l : Launch} {dC : Nat → ClassId} {dI : Nat → Nat → Nat} {aC : Nat → ClassId} {H0 : Heap} {G : jx_Gv} : (jz_m (jZ l dC dI aC H0 G) 35).1 = ({ cls := "java/lang/StringLatin1", name := "indexOfChar", desc := "([BIII)I" } : Jvm.MethodName) := rfl
theorem hl_35 {l : Launch} {dC : Nat → ClassId} {dI : Nat → Nat → Nat} {aC : Nat → ClassId} {H0 : Heap} {G : jx_Gv} : (jz_m (jZ l dC dI aC H0 G) 35).2.2.1 = 6 := rfl
theorem hnl_35 {l : Launch} {dC : Nat → ClassId} {dI : Nat → Nat → Nat} {aC : Nat → ClassId} {H0 : Heap} {G : jx_Gv} : jNl 35 = (jz_m (jZ l dC dI aC H0 G) 35).2.2.1 := rfl
theorem hr_35 {l : Launch} {dC : Nat → ClassId} {dI : Nat → Nat → Nat} {aC : Nat → ClassId} {H0 : Heap} {G : jx_Gv} : (jz_m (jZ l dC dI aC H0 G) 35).2.2.2 = (some .int) := rfl
theorem hd_36 {l : Launch} {dC : Nat → ClassId} {dI : Nat → Nat → Nat} {aC : Nat → ClassId} {H0 : Heap} {G : jx_Gv} : jz_d (jZ l dC dI aC H0 G) 36 = (1, 25) := rfl
theorem hy_36 {l : Launch} {dC : Nat → ClassId} {dI : Nat → Nat → Nat} {aC : Nat → ClassId} {H0 : Heap} {G : jx_Gv} : (jz_m (jZ l dC dI aC H0 G) 36).1 = ({ cls := "java/lang/StringLatin1", name := "indexOf", desc := "([BIII)I" } : Jvm.MethodName) := rfl
theorem hl_36 {l : Launch} {dC : Nat → ClassId} {dI : Nat → Nat → Nat} {aC : Nat → ClassId} {H0 : Heap} {G : jx_Gv} : (jz_m (jZ l dC dI aC H0 G) 36).2.2.1 = 4 := rfl
theorem hnl_36 {l : Launch} {dC : Nat → ClassId} {dI : Nat → Nat → Nat} {aC : Nat → ClassId} {H0 : Heap} {G : jx_Gv} : jNl 36 = (jz_m (jZ l dC dI aC H0 G) 36).2.2.1 := rfl
theorem hr_36 {l : Launch} {dC : Nat → ClassId} {dI : Nat → Nat → Nat} {aC : Nat → ClassId} {H0 : Heap} {G : jx_Gv} : (jz_m (jZ l dC dI aC H0 G) 36).2.2.2 = (some .int) := rfl
theorem hd_37 {l : Launch} {dC : Nat → ClassId} {dI : Nat → Nat → Nat} {aC : Nat → ClassId} {H0 : Heap} {G : jx_Gv} : jz_d (jZ l dC dI aC H0 G) 37 = (2, 48) := rfl
theorem hy_37 {l : Launch} {dC : Nat → ClassId} {dI : Nat → Nat → Nat} {aC : Nat → ClassId} {H0 : Heap} {G : jx_Gv} : (jz_m (jZ l dC dI aC H0 G) 37).1 = ({ cls := "java/lang/String", name := "indexOf", desc := "(II)I" } : Jvm.MethodName) := rfl
theorem hl_37 {l : Launch} {dC : Nat → ClassId} {dI : Nat → Nat → Nat} {aC : Nat → ClassId} {H0 : Heap} {G : jx_Gv} : (jz_m (jZ l dC dI aC H0 G) 37).2.2.1 = 3 := rfl
theorem hnl_37 {l : Launch} {dC : Nat → ClassId} {dI : Nat → Nat → Nat} {aC : Nat → ClassId} {H0 : Heap} {G : jx_Gv} : jNl 37 = (jz_m (jZ l dC dI aC H0 G) 37).2.2.1 := rfl
theorem hr_37 {l : Launch} {dC : Nat → ClassId} {dI : Nat → Nat → Nat} {aC : Nat → ClassId} {H0 : Heap} {G : jx_Gv} : (jz_m (jZ l dC dI aC H0 G) 37).2.2.2 = (some .int) := rfl
theorem hd_38 {l : Launch} {dC : Nat → ClassId} {dI : Nat → Nat → Nat} {aC : Nat → ClassId} {H0 : Heap} {G : jx_Gv} : jz_d (jZ l dC dI aC H0 G) 38 = (3, 70) := rfl
theorem hy_38 {l : Launch} {dC : Nat → ClassId} {dI : Nat → Nat → Nat} {aC : Nat → ClassId} {H0 : Heap} {G : jx_Gv} : (jz_m (jZ l dC dI aC H0 G) 38).1 = ({ cls := "java/lang/String", name := "indexOf", desc := "(I)I" } : Jvm.MethodName) := rfl
theorem hl_38 {l : Launch} {dC : Nat → ClassId} {dI : Nat → Nat → Nat} {aC : Nat → ClassId} {H0 : Heap} {G : jx_Gv} : (jz_m (jZ l dC dI aC H0 G) 38).2.2.1 = 2 := rfl
theorem hnl_38 {l : Launch} {dC : Nat → ClassId} {dI : Nat → Nat → Nat} {aC : Nat → ClassId} {H0 : Heap} {G : jx_Gv} : jNl 38 = (jz_m (jZ l dC dI aC H0 G) 38).2.2.1 := rfl
theorem hr_38 {l : Launch} {dC : Nat → ClassId} {dI : Nat → Nat → Nat} {aC : Nat → ClassId} {H0 : Heap} {G : jx_Gv} : (jz_m (jZ l dC dI aC H0 G) 38).2.2.2 = (some .int) := rfl
theorem hd_39 {l : Launch} {dC : Nat → ClassId} {dI : Nat → Nat → Nat} {aC : Nat → ClassId} {H0 : Heap} {G : jx_Gv} : jz_d (jZ l dC dI aC H0 G) 39 = (4, 91) := rfl
theorem hy_39 {l : Launch} {dC : Nat → ClassId} {dI : Nat → Nat → Nat} {aC : Nat → ClassId} {H0 : Heap} {G : jx_Gv} : (jz_m (jZ l dC dI aC H0 G) 39).1 = ({ cls := "PartText$Scanner", name := "advance", desc := "()V" } : Jvm.MethodName) := rfl
theorem hl_39 {l : Launch} {dC : Nat → ClassId} {dI : Nat → Nat → Nat} {aC : Nat → ClassId} {H0 : Heap} {G : jx_Gv} : (jz_m (jZ l dC dI aC H0 G) 39).2.2.1 = 2 := rfl
theorem hnl_39 {l : Launch} {dC : Nat → ClassId} {dI : Nat → Nat → Nat} {aC : Nat → ClassId} {H0 : Heap} {G : jx_Gv} : jNl 39 = (jz_m (jZ l dC dI aC H0 G) 39).2.2.1 := rfl
theorem hr_39 {l : Launch} {dC : Nat → ClassId} {dI : Nat → Nat → Nat} {aC : Nat → ClassId} {H0 : Heap} {G : jx_Gv} : (jz_m (jZ l dC dI aC H0 G) 39).2.2.2 = none := rfl
theorem hd_40 {l : Launch} {dC : Nat → ClassId} {dI : Nat → Nat → Nat} {aC : Nat → ClassId} {H0 : Heap} {G : jx_Gv} : jz_d (jZ l dC dI aC H0 G) 40 = (0, 0) := rfl
theorem hy_40 {l : Launch} {dC : Nat → ClassId} {dI : Nat → Nat → Nat} {aC : Nat → ClassId} {H0 : Heap} {G : jx_Gv} : (jz_m (jZ l dC dI aC H0 G) 40).1 = ({ cls := "PartText$Scanner", name := "sort", desc := "()I" } : Jvm.MethodName) := rfl
theorem hl_40 {l : Launch} {dC : Nat → ClassId} {dI : Nat → Nat → Nat} {aC : Nat → ClassId} {H0 : Heap} {G : jx_Gv} : (jz_m (jZ l dC dI aC H0 G) 40).2.2.1 = 1 := rfl
theorem hnl_40 {l : Launch} {dC : Nat → ClassId} {dI : Nat → Nat → Nat} {aC : Nat → ClassId} {H0 : Heap} {G : jx_Gv} : jNl 40 = (jz_m (jZ l dC dI aC H0 G) 40).2.2.1 := rfl
theorem hr_40 {l : Launch} {dC : Nat → ClassId} {dI : Nat → Nat → Nat} {aC : Nat → ClassId} {H0 : Heap} {G : jx_Gv} : (jz_m (jZ l dC dI aC H0 G) 40).2.2.2 = (some .int) := rfl
theorem hd_41 {l : Launch} {dC : Nat → ClassId} {dI : Nat → Nat → Nat} {aC : Nat → ClassId} {H0 : Heap} {G : jx_Gv} : jz_d (jZ l dC dI aC H0 G) 41 = (2, 40) := rfl
theorem hy_41 {l : Launch} {dC : Nat → ClassId} {dI : Nat → Nat → Nat} {aC : Nat → ClassId} {H0 : Heap} {G : jx_Gv} : (jz_m (jZ l dC dI aC H0 G) 41).1 = ({ cls := "PartText$Reader", name := "isRowOver", desc := "()Z" } : Jvm.MethodName) := rfl
theorem hl_41 {l : Launch} {dC : Nat → ClassId} {dI : Nat → Nat → Nat} {aC : Nat → ClassId} {H0 : Heap} {G : jx_Gv} : (jz_m (jZ l dC dI aC H0 G) 41).2.2.1 = 1 := rfl
theorem hnl_41 {l : Launch} {dC : Nat → ClassId} {dI : Nat → Nat → Nat} {aC : Nat → ClassId} {H0 : Heap} {G : jx_Gv} : jNl 41 = (jz_m (jZ l dC dI aC H0 G) 41).2.2.1 := rfl
theorem hr_41 {l : Launch} {dC : Nat → ClassId} {dI : Nat → Nat → Nat} {aC : Nat → ClassId} {H0 : Heap} {G : jx_Gv} : (jz_m (jZ l dC dI aC H0 G) 41).2.2.2 = (some .boolean) := rfl
theorem hd_42 {l : Launch} {dC : Nat → ClassId} {dI : Nat → Nat → Nat} {aC : Nat → ClassId} {H0 : Heap} {G : jx_Gv} : jz_d (jZ l dC dI aC H0 G) 42 = (0, 0) := rfl
theorem hy_42 {l : Launch} {dC : Nat → ClassId} {dI : Nat → Nat → Nat} {aC : Nat → ClassId} {H0 : Heap} {G : jx_Gv} : (jz_m (jZ l dC dI aC H0 G) 42).1 = ({ cls := "PartText$Edition", name := "rowCount", desc := "()I" } : Jvm.MethodName) := rfl
theorem hl_42 {l : Launch} {dC : Nat → ClassId} {dI : Nat → Nat → Nat} {aC : Nat → ClassId} {H0 : Heap} {G : jx_Gv} : (jz_m (jZ l dC dI aC H0 G) 42).2.2.1 = 1 := rfl
theorem hnl_42 {l : Launch} {dC : Nat → ClassId} {dI : Nat → Nat → Nat} {aC : Nat → ClassId} {H0 : Heap} {G : jx_Gv} : jNl 42 = (jz_m (jZ l dC dI aC H0 G) 42).2.2.1 := rfl
theorem hr_42 {l : Launch} {dC : Nat → ClassId} {dI : Nat → Nat → Nat} {aC : Nat → ClassId} {H0 : Heap} {G : jx_Gv} : (jz_m (jZ l dC dI aC H0 G) 42).2.2.2 = (some .int) := rfl
theorem hd_43 {l : Launch} {dC : Nat → ClassId} {dI : Nat → Nat → Nat} {aC : Nat → ClassId} {H0 : Heap} {G : jx_Gv} : jz_d (jZ l dC dI aC H0 G) 43 = (0, 0) := rfl
theorem hy_43 {l : Launch} {dC : Nat → ClassId} {dI : Nat → Nat → Nat} {aC : Nat → ClassId} {H0 : Heap} {G : jx_Gv} : (jz_m (jZ l dC dI aC H0 G) 43).1 = ({ cls := "PartText$Scanner", name := "isSignOf", desc := "(I)Z" } : Jvm.MethodName) := rfl
theorem hl_43 {l : Launch} {dC : Nat → ClassId} {dI : Nat → Nat → Nat} {aC : Nat → ClassId} {H0 : Heap} {G : jx_Gv} : (jz_m (jZ l dC dI aC H0 G) 43).2.2.1 = 2 := rfl
theorem hnl_43 {l : Launch} {dC : Nat → ClassId} {dI : Nat → Nat → Nat} {aC : Nat → ClassId} {H0 : Heap} {G : jx_Gv} : jNl 43 = (jz_m (jZ l dC dI aC H0 G) 43).2.2.1 := rfl
theorem hr_43 {l : Launch} {dC : Nat → ClassId} {dI : Nat → Nat → Nat} {aC : Nat → ClassId} {H0 : Heap} {G : jx_Gv} : (jz_m (jZ l dC dI aC H0 G) 43).2.2.2 = (some .boolean) := rfl
theorem hd_44 {l : Launch} {dC : Nat → ClassId} {dI : Nat → Nat → Nat} {aC : Nat → ClassId} {H0 : Heap} {G : jx_Gv} : jz_d (jZ l dC dI aC H0 G) 44 = (0, 0) := rfl
theorem hy_44 {l : Launch} {dC : Nat → ClassId} {dI : Nat → Nat → Nat} {aC : Nat → ClassId} {H0 : Heap} {G : jx_Gv} : (jz_m (jZ l dC dI aC H0 G) 44).1 = ({ cls := "PartText$Edition", name := "addRow", desc := "(II)V" } : Jvm.MethodName) := rfl
theorem hl_44 {l : Launch} {dC : Nat → ClassId} {dI : Nat → Nat → Nat} {aC : Nat → ClassId} {H0 : Heap} {G : jx_Gv} : (jz_m (jZ l dC dI aC H0 G) 44).2.2.1 = 3 := rfl
theorem hnl_44 {l : Launch} {dC : Nat → ClassId} {dI : Nat → Nat → Nat} {aC : Nat → ClassId} {H0 : Heap} {G : jx_Gv} : jNl 44 = (jz_m (jZ l dC dI aC H0 G) 44).2.2.1 := rfl
theorem hr_44 {l : Launch} {dC : Nat → ClassId} {dI : Nat → Nat → Nat} {aC : Nat → ClassId} {H0 : Heap} {G : jx_Gv} : (jz_m (jZ l dC dI aC H0 G) 44).2.2.2 = none := rfl
theorem hd_45 {l : Launch} {dC : Nat → ClassId} {dI : Nat → Nat → Nat} {aC : Nat → ClassId} {H0 : Heap} {G : jx_Gv} : jz_d (jZ l dC dI aC H0 G) 45 = (0, 0) := rfl
theorem hy_45 {l : Launch} {dC : Nat → ClassId} {dI : Nat → Nat → Nat} {aC : Nat → ClassId} {H0 : Heap} {G : jx_Gv} : (jz_m (jZ l dC dI aC H0 G) 45).1 = ({ cls := "PartText$Edition", name := "addToken", desc := "(II)V" } : Jvm.MethodName) := rfl
theorem hl_45 {l : Launch} {dC : Nat → ClassId} {dI : Nat → Nat → Nat} {aC : Nat → ClassId} {H0 : Heap} {G : jx_Gv} : (jz_m (jZ l dC dI aC H0 G) 45).2.2.1 = 3 := rfl
theorem hnl_45 {l : Launch} {dC : Nat → ClassId} {dI : Nat → Nat → Nat} {aC : Nat → ClassId} {H0 : Heap} {G : jx_Gv} : jNl 45 = (jz_m (jZ l dC dI aC H0 G) 45).2.2.1 := rfl
theorem hr_45 {l : Launch} {dC : Nat → ClassId} {dI : Nat → Nat → Nat} {aC : Nat → ClassId} {H0 : Heap} {G : jx_Gv} : (jz_m (jZ l dC dI aC H0 G) 45).2.2.2 = none := rfl
theorem hd_46 {l : Launch} {dC : Nat → ClassId} {dI : Nat → Nat → Nat} {aC : Nat → ClassId} {H0 : Heap} {G : jx_Gv} : jz_d (jZ l dC dI aC H0 G) 46 = (1, 22) := rfl
theorem hy_46 {l : Launch} {dC : Nat → ClassId} {dI : Nat → Nat → Nat} {aC : Nat → ClassId} {H0 : Heap} {G : jx_Gv} : (jz_m (jZ l dC dI aC H0 G) 46).1 = ({ cls := "PartText$Reader", name := "take", desc := "(LPartText$Edition;I)Z" } : Jvm.MethodName) := rfl
theorem hl_46 {l : Launch} {dC : Nat → ClassId} {dI : Nat → Nat → Nat} {aC : Nat → ClassId} {H0 : Heap} {G : jx_Gv} : (jz_m (jZ l dC dI aC H0 G) 46).2.2.1 = 3 := rfl
theorem hnl_46 {l : Launch} {dC : Nat → ClassId} {dI : Nat → Nat → Nat} {aC : Nat → ClassId} {H0 : Heap} {G : jx_Gv} : jNl 46 = (jz_m (jZ l dC dI aC H0 G) 46).2.2.1 := rfl
theorem hr_46 {l : Launch} {dC : Nat → ClassId} {dI : Nat → Nat → Nat} {aC : Nat → ClassId} {H0 : Heap} {G : jx_Gv} : (jz_m (jZ l dC dI aC H0 G) 46).2.2.2 = (some .boolean) := rfl
theorem hd_47 {l : Launch} {dC : Nat → ClassId} {dI : Nat → Nat → Nat} {aC : Nat → ClassId} {H0 : Heap} {G : jx_Gv} : jz_d (jZ l dC dI aC H0 G) 47 = (0, 0) := rfl
theorem hy_47 {l : Launch} {dC : Nat → ClassId} {dI : Nat → Nat → Nat} {aC : Nat → ClassId} {H0 : Heap} {G : jx_Gv} : (jz_m (jZ l dC dI aC H0 G) 47).1 = ({ cls := "PartText$Edition", name := "kind", desc := "(I)I" } : Jvm.MethodName) := rfl
theorem hl_47 {l : Launch} {dC : Nat → ClassId} {dI : Nat → Nat → Nat} {aC : Nat → ClassId} {H0 : Heap} {G : jx_Gv} : (jz_m (jZ l dC dI aC H0 G) 47).2.2.1 = 2 := rfl
theorem hnl_47 {l : Launch} {dC : Nat → ClassId} {dI : Nat → Nat → Nat} {aC : Nat → ClassId} {H0 : Heap} {G : jx_Gv} : jNl 47 = (jz_m (jZ l dC dI aC H0 G) 47).2.2.1 := rfl
theorem hr_47 {l : Launch} {dC : Nat → ClassId} {dI : Nat → Nat → Nat} {aC : Nat → ClassId} {H0 : Heap} {G : jx_Gv} : (jz_m (jZ l dC dI aC H0 G) 47).2.2.2 = (some .int) := rfl
theorem hd_48 {l : Launch} {dC : Nat → ClassId} {dI : Nat → Nat → Nat} {aC : Nat → ClassId} {H0 : Heap} {G : jx_Gv} : jz_d (jZ l dC dI aC H0 G) 48 = (0, 0) := rfl
theorem hy_48 {l : Launch} {dC : Nat → ClassId} {dI : Nat → Nat → Nat} {aC : Nat → ClassId} {H0 : Heap} {G : jx_Gv} : (jz_m (jZ l dC dI aC H0 G) 48).1 = ({ cls := "PartText$Reader", name := "wordsIn", desc := "(I)I" } : Jvm.MethodName) := rfl
theorem hl_48 {l : Launch} {dC : Nat → ClassId} {dI : Nat → Nat → Nat} {aC : Nat → ClassId} {H0 : Heap} {G : jx_Gv} : (jz_m (jZ l dC dI aC H0 G) 48).2.2.1 = 1 := rfl
theorem hnl_48 {l : Launch} {dC : Nat → ClassId} {dI : Nat → Nat → Nat} {aC : Nat → ClassId} {H0 : Heap} {G : jx_Gv} : jNl 48 = (jz_m (jZ l dC dI aC H0 G) 48).2.2.1 := rfl
theorem hr_48 {l : Launch} {dC : Nat → ClassId} {dI : Nat → Nat → Nat} {aC : Nat → ClassId} {H0 : Heap} {G : jx_Gv} : (jz_m (jZ l dC dI aC H0 G) 48).2.2.2 = (some .int) := rfl
theorem hd_49 {l : Launch} {dC : Nat → ClassId} {dI : Nat → Nat → Nat} {aC : Nat → ClassId} {H0 : Heap} {G : jx_Gv} : jz_d (jZ l dC dI aC H0 G) 49 = (0, 0) := rfl
theorem hy_49 {l : Launch} {dC : Nat → ClassId} {dI : Nat → Nat → Nat} {aC : Nat → ClassId} {H0 : Heap} {G : jx_Gv} : (jz_m (jZ l dC dI aC H0 G) 49).1 = ({ cls := "PartText$Scanner", name := "isWordOf", desc := "(I)Z" } : Jvm.MethodName) := rfl
theorem hl_49 {l : Launch} {dC : Nat → ClassId} {dI : Nat → Nat → Nat} {aC : Nat → ClassId} {H0 : Heap} {G : jx_Gv} : (jz_m (jZ l dC dI aC H0 G) 49).2.2.1 = 2 := rfl
theorem hnl_49 {l : Launch} {dC : Nat → ClassId} {dI : Nat → Nat → Nat} {aC : Nat → ClassId} {H0 : Heap} {G : jx_Gv} : jNl 49 = (jz_m (jZ l dC dI aC H0 G) 49).2.2.1 := rfl
theorem hr_49 {l : Launch} {dC : Nat → ClassId} {dI : Nat → Nat → Nat} {aC : Nat → ClassId} {H0 : Heap} {G : jx_Gv} : (jz_m (jZ l dC dI aC H0 G) 49).2.2.2 = (some .boolean) := rfl
theorem hd_50 {l : Launch} {dC : Nat → ClassId} {dI : Nat → Nat → Nat} {aC : Nat → ClassId} {H0 : Heap} {G : jx_Gv} : jz_d (jZ l dC dI aC H0 G) 50 = (0, 0) := rfl
theorem hy_50 {l : Launch} {dC : Nat → ClassId} {dI : Nat → Nat → Nat} {aC : Nat → ClassId} {H0 : Heap} {G : jx_Gv} : (jz_m (jZ l dC dI aC H0 G) 50).1 = ({ cls := "PartText$Scanner", name := "value", desc := "()I" } : Jvm.MethodName) := rfl
theorem hl_50 {l : Launch} {dC : Nat → ClassId} {dI : Nat → Nat → Nat} {aC : Nat → ClassId} {H0 : Heap} {G : jx_Gv} : (jz_m (jZ l dC dI aC H0 G) 50).2.2.1 = 1 := rfl
theorem hnl_50 {l : Launch} {dC : Nat → ClassId} {dI : Nat → Nat → Nat} {aC : Nat → ClassId} {H0 : Heap} {G : jx_Gv} : jNl 50 = (jz_m (jZ l dC dI aC H0 G) 50).2.2.1 := rfl
theorem hr_50 {l : Launch} {dC : Nat → ClassId} {dI : Nat → Nat → Nat} {aC : Nat → ClassId} {H0 : Heap} {G : jx_Gv} : (jz_m (jZ l dC dI aC H0 G) 50).2.2.2 = (some .int) := rfl
theorem hd_51 {l : Launch} {dC : Nat → ClassId} {dI : Nat → Nat → Nat} {aC : Nat → ClassId} {H0 : Heap} {G : jx_Gv} : jz_d (jZ l dC dI aC H0 G) 51 = (0, 0) := rfl
theorem hy_51 {l : Launch} {dC : Nat → ClassId} {dI : Nat → Nat → Nat} {aC : Nat → ClassId} {H0 : Heap} {G : jx_Gv} : (jz_m (jZ l dC dI aC H0 G) 51).1 = ({ cls := "PartText$Reader", name := "formOf", desc := "(I)Ljava/lang/String;" } : Jvm.MethodName) := rfl
theorem hl_51 {l : Launch} {dC : Nat → ClassId} {dI : Nat → Nat → Nat} {aC : Nat → ClassId} {H0 : Heap} {G : jx_Gv} : (jz_m (jZ l dC dI aC H0 G) 51).2.2.1 = 1 := rfl
theorem hnl_51 {l : Launch} {dC : Nat → ClassId} {dI : Nat → Nat → Nat} {aC : Nat → ClassId} {H0 : Heap} {G : jx_Gv} : jNl 51 = (jz_m (jZ l dC dI aC H0 G) 51).2.2.1 := rfl
theorem hr_51 {l : Launch} {dC : Nat → ClassId} {dI : Nat → Nat → Nat} {aC : Nat → ClassId} {H0 : Heap} {G : jx_Gv} : (jz_m (jZ l dC dI aC H0 G) 51).2.2.2 = (some (Jvm.ClassFile.FieldType.object "java/lang/String")) := rfl
theorem hd_52 {l : Launch} {dC : Nat → ClassId} {dI : Nat → Nat → Nat} {aC : Nat → ClassId} {H0 : Heap} {G : jx_Gv} : jz_d (jZ l dC dI aC H0 G) 52 = (2, 44) := rfl
theorem hy_52 {l : Launch} {dC : Nat → ClassId} {dI : Nat → Nat → Nat} {aC : Nat → ClassId} {H0 : Heap} {G : jx_Gv} : (jz_m (jZ l dC dI aC H0 G) 52).1 = ({ cls := "PartText$Reader", name := "beginRow", desc := "(LPartText$Edition;)Z" } : Jvm.MethodName) := rfl
theorem hl_52 {l : Launch} {dC : Nat → ClassId} {dI : Nat → Nat → Nat} {aC : Nat → ClassId} {H0 : Heap} {G : jx_Gv} : (jz_m (jZ l dC dI aC H0 G) 52).2.2.1 = 4 := rfl
theorem hnl_52 {l : Launch} {dC : Nat → ClassId} {dI : Nat → Nat → Nat} {aC : Nat → ClassId} {H0 : Heap} {G : jx_Gv} : jNl 52 = (jz_m (jZ l dC dI aC H0 G) 52).2.2.1 := rfl
theorem hr_52 {l : Launch} {dC : Nat → ClassId} {dI : Nat → Nat → Nat} {aC : Nat → ClassId} {H0 : Heap} {G : jx_Gv} : (jz_m (jZ l dC dI aC H0 G) 52).2.2.2 = (some .boolean) := rfl
theorem hd_53 {l : Launch} {dC : Nat → ClassId} {dI : Nat → Nat → Nat} {aC : Nat → ClassId} {H0 : Heap} {G : jx_Gv} : jz_d (jZ l dC dI aC H0 G) 53 = (0, 0) := rfl
theorem hy_53 {l : Launch} {dC : Nat → ClassId} {dI : Nat → Nat → Nat} {aC : Nat → ClassId} {H0 : Heap} {G : jx_Gv} : (jz_m (jZ l dC dI aC H0 G) 53).1 = ({ cls := "PartText$Scanner", name := "name", desc := "()J" } : Jvm.MethodName) := rfl
theorem hl_53 {l : Launch} {dC : Nat → ClassId} {dI : Nat → Nat → Nat} {aC : Nat → ClassId} {H0 : Heap} {G : jx_Gv} : (jz_m (jZ l dC dI aC H0 G) 53).2.2.1 = 1 := rfl
theorem hnl_53 {l : Launch} {dC : Nat → ClassId} {dI : Nat → Nat → Nat} {aC : Nat → ClassId} {H0 : Heap} {G : jx_Gv} : jNl 53 = (jz_m (jZ l dC dI aC H0 G) 53).2.2.1 := rfl
theorem hr_53 {l : Launch} {dC : Nat → ClassId} {dI : Nat → Nat → Nat} {aC : Nat → ClassId} {H0 : Heap} {G : jx_Gv} : (jz_m (jZ l dC dI aC H0 G) 53).2.2.2 = (some .long) := rfl
theorem hd_54 {l : Launch} {dC : Nat → ClassId} {dI : Nat → Nat → Nat} {aC : Nat → ClassId} {H0 : Heap} {G : jx_Gv} : jz_d (jZ l dC dI aC H0 G) 54 = (0, 0) := rfl
theorem hy_54 {l : Launch} {dC : Nat → ClassId} {dI : Nat → Nat → Nat} {aC : Nat → ClassId} {H0 : Heap} {G : jx_Gv} : (jz_m (jZ l dC dI aC H0 G) 54).1 = ({ cls := "PartText$Edition", name := "nameNumber", desc := "(J)I" } : Jvm.MethodName) := rfl
theorem hl_54 {l : Launch} {dC : Nat → ClassId} {dI : Nat → Nat → Nat} {aC : Nat → ClassId} {H0 : Heap} {G : jx_Gv} : (jz_m (jZ l dC dI aC H0 G) 54).2.2.1 = 4 := rfl
theorem hnl_54 {l : Launch} {dC : Nat → ClassId} {dI : Nat → Nat → Nat} {aC : Nat → ClassId} {H0 : Heap} {G : jx_Gv} : jNl 54 = (jz_m (jZ l dC dI aC H0 G) 54).2.2.1 := rfl
theorem hr_54 {l : Launch} {dC : Nat → ClassId} {dI : Nat → Nat → Nat} {aC : Nat → ClassId} {H0 : Heap} {G : jx_Gv} : (jz_m (jZ l dC dI aC H0 G) 54).2.2.2 = (some .int) := rfl
theorem hd_55 {l : Launch} {dC : Nat → ClassId} {dI : Nat → Nat → Nat} {aC : Nat → ClassId} {H0 : Heap} {G : jx_Gv} : jz_d (jZ l dC dI aC H0 G) 55 = (0, 0) := rfl
theorem hy_55 {l : Launch} {dC : Nat → ClassId} {dI : Nat → Nat → Nat} {aC : Nat → ClassId} {H0 : Heap} {G : jx_Gv} : (jz_m (jZ l dC dI aC H0 G) 55).1 = ({ cls := "PartText$Scanner", name := "isNumberWithin", desc := "(II)Z" } : Jvm.MethodName) := rfl
theorem hl_55 {l : Launch} {dC : Nat → ClassId} {dI : Nat → Nat → Nat} {aC : Nat → ClassId} {H0 : Heap} {G : jx_Gv} : (jz_m (jZ l dC dI aC H0 G) 55).2.2.1 = 3 := rfl
theorem hnl_55 {l : Launch} {dC : Nat → ClassId} {dI : Nat → Nat → Nat} {aC : Nat → ClassId} {H0 : Heap} {G : jx_Gv} : jNl 55 = (jz_m (jZ l dC dI aC H0 G) 55).2.2.1 := rfl
theorem hr_55 {l : Launch} {dC : Nat → ClassId} {dI : Nat → Nat → Nat} {aC : Nat → ClassId} {H0 : Heap} {G : jx_Gv} : (jz_m (jZ l dC dI aC H0 G) 55).2.2.2 = (some .boolean) := rfl
theorem hd_56 {l : Launch} {dC : Nat → ClassId} {dI : Nat → Nat → Nat} {aC : Nat → ClassId} {H0 : Heap} {G : jx_Gv} : jz_d (jZ l dC dI aC H0 G) 56 = (2, 44) := rfl
theorem hy_56 {l : Launch} {dC : Nat → ClassId} {dI : Nat → Nat → Nat} {aC : Nat → ClassId} {H0 : Heap} {G : jx_Gv} : (jz_m (jZ l dC dI aC H0 G) 56).1 = ({ cls := "PartText$Reader", name := "takeValue", desc := "(LPartText$Edition;)Z" } : Jvm.MethodName) := rfl
theorem hl_56 {l : Launch} {dC : Nat → ClassId} {dI : Nat → Nat → Nat} {aC : Nat → ClassId} {H0 : Heap} {G : jx_Gv} : (jz_m (jZ l dC dI aC H0 G) 56).2.2.1 = 3 := rfl
theorem hnl_56 {l : Launch} {dC : Nat → ClassId} {dI : Nat → Nat → Nat} {aC : Nat → ClassId} {H0 : Heap} {G : jx_Gv} : jNl 56 = (jz_m (jZ l dC dI aC H0 G) 56).2.2.1 := rfl
theorem hr_56 {l : Launch} {dC : Nat → ClassId} {dI : Nat → Nat → Nat} {aC : Nat → ClassId} {H0 : Heap} {G : jx_Gv} : (jz_m (jZ l dC dI aC H0 G) 56).2.2.2 = (some .boolean) := rfl
theorem hd_57 {l : Launch} {dC : Nat → ClassId} {dI : Nat → Nat → Nat} {aC : Nat → ClassId} {H0 : Heap} {G : jx_Gv} : jz_d (jZ l dC dI aC H0 G) 57 = (2, 44) := rfl
theorem hy_57 {l : Launch} {dC : Nat → ClassId} {dI : Nat → Nat → Nat} {aC : Nat → ClassId} {H0 : Heap} {G : jx_Gv} : (jz_m (jZ l dC dI aC H0 G) 57).1 = ({ cls := "PartText$Reader", name := "takeAccess", desc := "(LPartText$Edition;)Z" } : Jvm.MethodName) := rfl
theorem hl_57 {l : Launch} {dC : Nat → ClassId} {dI : Nat → Nat → Nat} {aC : Nat → ClassId} {H0 : Heap} {G : jx_Gv} : (jz_m (jZ l dC dI aC H0 G) 57).2.2.1 = 2 := rfl
theorem hnl_57 {l : Launch} {dC : Nat → ClassId} {dI : Nat → Nat → Nat} {aC : Nat → ClassId} {H0 : Heap} {G : jx_Gv} : jNl 57 = (jz_m (jZ l dC dI aC H0 G) 57).2.2.1 := rfl
theorem hr_57 {l : Launch} {dC : Nat → ClassId} {dI : Nat → Nat → Nat} {aC : Nat → ClassId} {H0 : Heap} {G : jx_Gv} : (jz_m (jZ l dC dI aC H0 G) 57).2.2.2 = (some .boolean) := rfl
theorem hd_58 {l : Launch} {dC : Nat → ClassId} {dI : Nat → Nat → Nat} {aC : Nat → ClassId} {H0 : Heap} {G : jx_Gv} : jz_d (jZ l dC dI aC H0 G) 58 = (3, 65) := rfl
theorem hy_58 {l : Launch} {dC : Nat → ClassId} {dI : Nat → Nat → Nat} {aC : Nat → ClassId} {H0 : Heap} {G : jx_Gv} : (jz_m (jZ l dC dI aC H0 G) 58).1 = ({ cls := "PartText$Reader", name := "takeTrigger", desc := "(LPartText$Edition;)Z" } : Jvm.MethodName) := rfl
theorem hl_58 {l : Launch} {dC : Nat → ClassId} {dI : Nat → Nat → Nat} {aC : Nat → ClassId} {H0 : Heap} {G : jx_Gv} : (jz_m (jZ l dC dI aC H0 G) 58).2.2.1 = 2 := rfl
theorem hnl_58 {l : Launch} {dC : Nat → ClassId} {dI : Nat → Nat → Nat} {aC : Nat → ClassId} {H0 : Heap} {G : jx_Gv} : jNl 58 = (jz_m (jZ l dC dI aC H0 G) 58).2.2.1 := rfl
theorem hr_58 {l : Launch} {dC : Nat → ClassId} {dI : Nat → Nat → Nat} {aC : Nat → ClassId} {H0 : Heap} {G : jx_Gv} : (jz_m (jZ l dC dI aC H0 G) 58).2.2.2 = (some .boolean) := rfl
theorem hd_59 {l : Launch} {dC : Nat → ClassId} {dI : Nat → Nat → Nat} {aC : Nat → ClassId} {H0 : Heap} {G : jx_Gv} : jz_d (jZ l dC dI aC H0 G) 59 = (4, 86) := rfl
theorem hy_59 {l : Launch} {dC : Nat → ClassId} {dI : Nat → Nat → Nat} {aC : Nat → ClassId} {H0 : Heap} {G : jx_Gv} : (jz_m (jZ l dC dI aC H0 G) 59).1 = ({ cls := "PartText$Reader", name := "takeStep", desc := "(LPartText$Edition;)Z" } : Jvm.MethodName) := rfl
theorem hl_59 {l : Launch} {dC : Nat → ClassId} {dI : Nat → Nat → Nat} {aC : Nat → ClassId} {H0 : Heap} {G : jx_Gv} : (jz_m (jZ l dC dI aC H0 G) 59).2.2.1 = 3 := rfl
theorem hnl_59 {l : Launch} {dC : Nat → ClassId} {dI : Nat → Nat → Nat} {aC : Nat → ClassId} {H0 : Heap} {G : jx_Gv} : jNl 59 = (jz_m (jZ l dC dI aC H0 G) 59).2.2.1 := rfl
theorem hr_59 {l : Launch} {dC : Nat → ClassId} {dI : Nat → Nat → Nat} {aC : Nat → ClassId} {H0 : Heap} {G : jx_Gv} : (jz_m (jZ l dC dI aC H0 G) 59).2.2.2 = (some .boolean) := rfl
theorem hd_60 {l : Launch} {dC : Nat → ClassId} {dI : Nat → Nat → Nat} {aC : Nat → ClassId} {H0 : Heap} {G : jx_Gv} : jz_d (jZ l dC dI aC H0 G) 60 = (5, 112) := rfl
theorem hy_60 {l : Launch} {dC : Nat → ClassId} {dI : Nat → Nat → Nat} {aC : Nat → ClassId} {H0 : Heap} {G : jx_Gv} : (jz_m (jZ l dC dI aC H0 G) 60).1 = ({ cls := "PartText$Reader", name := "fill", desc := "(LPartText$Edition;)Z" } : Jvm.MethodName) := rfl
theorem hl_60 {l : Launch} {dC : Nat → ClassId} {dI : Nat → Nat → Nat} {aC : Nat → ClassId} {H0 : Heap} {G : jx_Gv} : (jz_m (jZ l dC dI aC H0 G) 60).2.2.1 = 4 := rfl
theorem hnl_60 {l : Launch} {dC : Nat → ClassId} {dI : Nat → Nat → Nat} {aC : Nat → ClassId} {H0 : Heap} {G : jx_Gv} : jNl 60 = (jz_m (jZ l dC dI aC H0 G) 60).2.2.1 := rfl
theorem hr_60 {l : Launch} {dC : Nat → ClassId} {dI : Nat → Nat → Nat} {aC : Nat → ClassId} {H0 : Heap} {G : jx_Gv} : (jz_m (jZ l dC dI aC H0 G) 60).2.2.2 = (some .boolean) := rfl
theorem hd_61 {l : Launch} {dC : Nat → ClassId} {dI : Nat → Nat → Nat} {aC : Nat → ClassId} {H0 : Heap} {G : jx_Gv} : jz_d (jZ l dC dI aC H0 G) 61 = (0, 0) := rfl
theorem hy_61 {l : Launch} {dC : Nat → ClassId} {dI : Nat → Nat → Nat} {aC : Nat → ClassId} {H0 : Heap} {G : jx_Gv} : (jz_m (jZ l dC dI aC H0 G) 61).1 = ({ cls := "PartText$Octets", name := "clear", desc := "()V" } : Jvm.MethodName) := rfl
theorem hl_61 {l : Launch} {dC : Nat → ClassId} {dI : Nat → Nat → Nat} {aC : Nat → ClassId} {H0 : Heap} {G : jx_Gv} : (jz_m (jZ l dC dI aC H0 G) 61).2.2.1 = 1 := rfl
theorem hnl_61 {l : Launch} {dC : Nat → ClassId} {dI : Nat → Nat → Nat} {aC : Nat → ClassId} {H0 : Heap} {G : jx_Gv} : jNl 61 = (jz_m (jZ l dC dI aC H0 G) 61).2.2.1 := rfl
theorem hr_61 {l : Launch} {dC : Nat → ClassId} {dI : Nat → Nat → Nat} {aC : Nat → ClassId} {H0 : Heap} {G : jx_Gv} : (jz_m (jZ l dC dI aC H0 G) 61).2.2.2 = none := rfl
theorem hd_62 {l : Launch} {dC : Nat → ClassId} {dI : Nat → Nat → Nat} {aC : Nat → ClassId} {H0 : Heap} {G : jx_Gv} : jz_d (jZ l dC dI aC H0 G) 62 = (0, 0) := rfl
theorem hy_62 {l : Launch} {dC : Nat → ClassId} {dI : Nat → Nat → Nat} {aC : Nat → ClassId} {H0 : Heap} {G : jx_Gv} : (jz_m (jZ l dC dI aC H0 G) 62).1 = ({ cls := "PartText$Scanner", name := "line", desc := "()I" } : Jvm.MethodName) := rfl
theorem hl_62 {l : Launch} {dC : Nat → ClassId} {dI : Nat → Nat → Nat} {aC : Nat → ClassId} {H0 : Heap} {G : jx_Gv} : (jz_m (jZ l dC dI aC H0 G) 62).2.2.1 = 1 := rfl
theorem hnl_62 {l : Launch} {dC : Nat → ClassId} {dI : Nat → Nat → Nat} {aC : Nat → ClassId} {H0 : Heap} {G : jx_Gv} : jNl 62 = (jz_m (jZ l dC dI aC H0 G) 62).2.2.1 := rfl
theorem hr_62 {l : Launch} {dC : Nat → ClassId} {dI : Nat → Nat → Nat} {aC : Nat → ClassId} {H0 : Heap} {G : jx_Gv} : (jz_m (jZ l dC dI aC H0 G) 62).2.2.2 = (some .int) := rfl
theorem hd_63 {l : Launch} {dC : Nat → ClassId} {dI : Nat → Nat → Nat} {aC : Nat → ClassId} {H0 : Heap} {G : jx_Gv} : jz_d (jZ l dC dI aC H0 G) 63 = (1, 20) := rfl
theorem hy_63 {l : Launch} {dC : Nat → ClassId} {dI : Nat → Nat → Nat} {aC : Nat → ClassId} {H0 : Heap} {G : jx_Gv} : (jz_m (jZ l dC dI aC H0 G) 63).1 = ({ cls := "PartText$Reader", name := "faultLine", desc := "()I" } : Jvm.MethodName) := rfl
theorem hl_63 {l : Launch} {dC : Nat → ClassId} {dI : Nat → Nat → Nat} {aC : Nat → ClassId} {H0 : Heap} {G : jx_Gv} : (jz_m (jZ l dC dI aC H0 G) 63).2.2.1 = 1 := rfl
theorem hnl_63 {l : Launch} {dC : Nat → ClassId} {dI : Nat → Nat → Nat} {aC : Nat → ClassId} {H0 : Heap} {G : jx_Gv} : jNl 63 = (jz_m (jZ l dC dI aC H0 G) 63).2.2.1 := rfl
theorem hr_63 {l : Launch} {dC : Nat → ClassId} {dI : Nat → Nat → Nat} {aC : Nat → ClassId} {H0 : Heap} {G : jx_Gv} : (jz_m (jZ l dC dI aC H0 G) 63).2.2.2 = (some .int) := rfl
theorem hd_64 {l : Launch} {dC : Nat → ClassId} {dI : Nat → Nat → Nat} {aC : Nat → ClassId} {H0 : Heap} {G : jx_Gv} : jz_d (jZ l dC dI aC H0 G) 64 = (0, 0) := rfl
theorem hy_64 {l : Launch} {dC : Nat → ClassId} {dI : Nat → Nat → Nat} {aC : Nat → ClassId} {H0 : Heap} {G : jx_Gv} : (jz_m (jZ l dC dI aC H0 G) 64).1 = ({ cls := "PartText$Edition", name := "value", desc := "(II)I" } : Jvm.MethodName) := rfl
theorem hl_64 {l : Launch} {dC : Nat → ClassId} {dI : Nat → Nat → Nat} {aC : Nat → ClassId} {H0 : Heap} {G : jx_Gv} : (jz_m (jZ l dC dI aC H0 G) 64).2.2.1 = 3 := rfl
theorem hnl_64 {l : Launch} {dC : Nat → ClassId} {dI : Nat → Nat → Nat} {aC : Nat → ClassId} {H0 : Heap} {G : jx_Gv} : jNl 64 = (jz_m (jZ l dC dI aC H0 G) 64).2.2.1 := rfl
theorem hr_64 {l : Launch} {dC : Nat → ClassId} {dI : Nat → Nat → Nat} {aC : Nat → ClassId} {H0 : Heap} {G : jx_Gv} : (jz_m (jZ l dC dI aC H0 G) 64).2.2.2 = (some .int) := rfl
theorem hd_65 {l : Launch} {dC : Nat → ClassId} {dI : Nat → Nat → Nat} {aC : Nat → ClassId} {H0 : Heap} {G : jx_Gv} : jz_d (jZ l dC dI aC H0 G) 65 = (0, 0) := rfl
theorem hy_65 {l : Launch} {dC : Nat → ClassId} {dI : Nat → Nat → Nat} {aC : Nat → ClassId} {H0 : Heap} {G : jx_Gv} : (jz_m (jZ l dC dI aC H0 G) 65).1 = ({ cls := "PartText$Edition", name := "fits", desc := "(III)Z" } : Jvm.MethodName) := rfl
theorem hl_65 {l : Launch} {dC : Nat → ClassId} {dI : Nat → Nat → Nat} {aC : Nat → ClassId} {H0 : Heap} {G : jx_Gv} : (jz_m (jZ l dC dI aC H0 G) 65).2.2.1 = 4 := rfl
theorem hnl_65 {l : Launch} {dC : Nat → ClassId} {dI : Nat → Nat → Nat} {aC : Nat → ClassId} {H0 : Heap} {G : jx_Gv} : jNl 65 = (jz_m (jZ l dC dI aC H0 G) 65).2.2.1 := rfl
theorem hr_65 {l : Launch} {dC : Nat → ClassId} {dI : Nat → Nat → Nat} {aC : Nat → ClassId} {H0 : Heap} {G : jx_Gv} : (jz_m (jZ l dC dI aC H0 G) 65).2.2.2 = (some .boolean) := rfl
theorem hd_66 {l : Launch} {dC : Nat → ClassId} {dI : Nat → Nat → Nat} {aC : Nat → ClassId} {H0 : Heap} {G : jx_Gv} : jz_d (jZ l dC dI aC H0 G) 66 = (1, 23) := rfl
theorem hy_66 {l : Launch} {dC : Nat → ClassId} {dI : Nat → Nat → Nat} {aC : Nat → ClassId} {H0 : Heap} {G : jx_Gv} : (jz_m (jZ l dC dI aC H0 G) 66).1 = ({ cls := "PartText$Edition", name := "meant", desc := "(III)I" } : Jvm.MethodName) := rfl
theorem hl_66 {l : Launch} {dC : Nat → ClassId} {dI : Nat → Nat → Nat} {aC : Nat → ClassId} {H0 : Heap} {G : jx_Gv} : (jz_m (jZ l dC dI aC H0 G) 66).2.2.1 = 5 := rfl
theorem hnl_66 {l : Launch} {dC : Nat → ClassId} {dI : Nat → Nat → Nat} {aC : Nat → ClassId} {H0 : Heap} {G : jx_Gv} : jNl 66 = (jz_m (jZ l dC dI aC H0 G) 66).2.2.1 := rfl
theorem hr_66 {l : Launch} {dC : Nat → ClassId} {dI : Nat → Nat → Nat} {aC : Nat → ClassId} {H0 : Heap} {G : jx_Gv} : (jz_m (jZ l dC dI aC H0 G) 66).2.2.2 = (some .int) := rfl
theorem hd_67 {l : Launch} {dC : Nat → ClassId} {dI : Nat → Nat → Nat} {aC : Nat → ClassId} {H0 : Heap} {G : jx_Gv} : jz_d (jZ l dC dI aC H0 G) 67 = (2, 47) := rfl
theorem hy_67 {l : Launch} {dC : Nat → ClassId} {dI : Nat → Nat → Nat} {aC : Nat → ClassId} {H0 : Heap} {G : jx_Gv} : (jz_m (jZ l dC dI aC H0 G) 67).1 = ({ cls := "PartText$Edition", name := "resolve", desc := "()V" } : Jvm.MethodName) := rfl
theorem hl_67 {l : Launch} {dC : Nat → ClassId} {dI : Nat → Nat → Nat} {aC : Nat → ClassId} {H0 : Heap} {G : jx_Gv} : (jz_m (jZ l dC dI aC H0 G) 67).2.2.1 = 3 := rfl
theorem hnl_67 {l : Launch} {dC : Nat → ClassId} {dI : Nat → Nat → Nat} {aC : Nat → ClassId} {H0 : Heap} {G : jx_Gv} : jNl 67 = (jz_m (jZ l dC dI aC H0 G) 67).2.2.1 := rfl
theorem hr_67 {l : Launch} {dC : Nat → ClassId} {dI : Nat → Nat → Nat} {aC : Nat → ClassId} {H0 : Heap} {G : jx_Gv} : (jz_m (jZ l dC dI aC H0 G) 67).2.2.2 = none := rfl
theorem hd_68 {l : Launch} {dC : Nat → ClassId} {dI : Nat → Nat → Nat} {aC : Nat → ClassId} {H0 : Heap} {G : jx_Gv} : jz_d (jZ l dC dI aC H0 G) 68 = (1, 23) := rfl
theorem hy_68 {l : Launch} {dC : Nat → ClassId} {dI : Nat → Nat → Nat} {aC : Nat → ClassId} {H0 : Heap} {G : jx_Gv} : (jz_m (jZ l dC dI aC H0 G) 68).1 = ({ cls := "PartText$Edition", name := "countUpTo", desc := "(III)I" } : Jvm.MethodName) := rfl
theorem hl_68 {l : Launch} {dC : Nat → ClassId} {dI : Nat → Nat → Nat} {aC : Nat → ClassId} {H0 : Heap} {G : jx_Gv} : (jz_m (jZ l dC dI aC H0 G) 68).2.2.1 = 6 := rfl
theorem hnl_68 {l : Launch} {dC : Nat → ClassId} {dI : Nat → Nat → Nat} {aC : Nat → ClassId} {H0 : Heap} {G : jx_Gv} : jNl 68 = (jz_m (jZ l dC dI aC H0 G) 68).2.2.1 := rfl
theorem hr_68 {l : Launch} {dC : Nat → ClassId} {dI : Nat → Nat → Nat} {aC : Nat → ClassId} {H0 : Heap} {G : jx_Gv} : (jz_m (jZ l dC dI aC H0 G) 68).2.2.2 = (some .int) := rfl
theorem hd_69 {l : Launch} {dC : Nat → ClassId} {dI : Nat → Nat → Nat} {aC : Nat → ClassId} {H0 : Heap} {G : jx_Gv} : jz_d (jZ l dC dI aC H0 G) 69 = (2, 48) := rfl
theorem hy_69 {l : Launch} {dC : Nat → ClassId} {dI : Nat → Nat → Nat} {aC : Nat → ClassId} {H0 : Heap} {G : jx_Gv} : (jz_m (jZ l dC dI aC H0 G) 69).1 = ({ cls := "PartText$Edition", name := "count", desc := "(II)I" } : Jvm.MethodName) := rfl
theorem hl_69 {l : Launch} {dC : Nat → ClassId} {dI : Nat → Nat → Nat} {aC : Nat → ClassId} {H0 : Heap} {G : jx_Gv} : (jz_m (jZ l dC dI aC H0 G) 69).2.2.1 = 3 := rfl
theorem hnl_69 {l : Launch} {dC : Nat → ClassId} {dI : Nat → Nat → Nat} {aC : Nat → ClassId} {H0 : Heap} {G : jx_Gv} : jNl 69 = (jz_m (jZ l dC dI aC H0 G) 69).2.2.1 := rfl
theorem hr_69 {l : Launch} {dC : Nat → ClassId} {dI : Nat → Nat → Nat} {aC : Nat → ClassId} {H0 : Heap} {G : jx_Gv} : (jz_m (jZ l dC dI aC H0 G) 69).2.2.2 = (some .int) := rfl
theorem hd_70 {l : Launch} {dC : Nat → ClassId} {dI : Nat → Nat → Nat} {aC : Nat → ClassId} {H0 : Heap} {G : jx_Gv} : jz_d (jZ l dC dI aC H0 G) 70 = (6, 135) := rfl
theorem hy_70 {l : Launch} {dC : Nat → ClassId} {dI : Nat → Nat → Nat} {aC : Nat → ClassId} {H0 : Heap} {G : jx_Gv} : (jz_m (jZ l dC dI aC H0 G) 70).1 = ({ cls := "PartText", name := "read", desc := "()I" } : Jvm.MethodName) := rfl
theorem hl_70 {l : Launch} {dC : Nat → ClassId} {dI : Nat → Nat → Nat} {aC : Nat → ClassId} {H0 : Heap} {G : jx_Gv} : (jz_m (jZ l dC dI aC H0 G) 70).2.2.1 = 4 := rfl
theorem hnl_70 {l : Launch} {dC : Nat → ClassId} {dI : Nat → Nat → Nat} {aC : Nat → ClassId} {H0 : Heap} {G : jx_Gv} : jNl 70 = (jz_m (jZ l dC dI aC H0 G) 70).2.2.1 := rfl
theorem hr_70 {l : Launch} {dC : Nat → ClassId} {dI : Nat → Nat → Nat} {aC : Nat → ClassId} {H0 : Heap} {G : jx_Gv} : (jz_m (jZ l dC dI aC H0 G) 70).2.2.2 = (some .int) := rfl
theorem hd_71 {l : Launch} {dC : Nat → ClassId} {dI : Nat → Nat → Nat} {aC : Nat → ClassId} {H0 : Heap} {G : jx_Gv} : jz_d (jZ l dC dI aC H0 G) 71 = (0, 0) := rfl
theorem hy_71 {l : Launch} {dC : Nat → ClassId} {dI : Nat → Nat → Nat} {aC : Nat → ClassId} {H0 : Heap} {G : jx_Gv} : (jz_m (jZ l dC dI aC H0 G) 71).1 = ({ cls := "PartTextModel", name := "here", desc := "()I" } : Jvm.MethodName) := rfl
theorem hl_71 {l : Launch} {dC : Nat → ClassId} {dI : Nat → Nat → Nat} {aC : Nat → ClassId} {H0 : Heap} {G : jx_Gv} : (jz_m (jZ l dC dI aC H0 G) 71).2.2.1 = 1 := rfl
theorem hnl_71 {l : Launch} {dC : Nat → ClassId} {dI : Nat → Nat → Nat} {aC : Nat → ClassId} {H0 : Heap} {G : jx_Gv} : jNl 71 = (jz_m (jZ l dC dI aC H0 G) 71).2.2.1 := rfl
theorem hr_71 {l : Launch} {dC : Nat → ClassId} {dI : Nat → Nat → Nat} {aC : Nat → ClassId} {H0 : Heap} {G : jx_Gv} : (jz_m (jZ l dC dI aC H0 G) 71).2.2.2 = (some .int) := rfl
theorem hd_72 {l : Launch} {dC : Nat → ClassId} {dI : Nat → Nat → Nat} {aC : Nat → ClassId} {H0 : Heap} {G : jx_Gv} : jz_d (jZ l dC dI aC H0 G) 72 = (0, 0) := rfl
theorem hy_72 {l : Launch} {dC : Nat → ClassId} {dI : Nat → Nat → Nat} {aC : Nat → ClassId} {H0 : Heap} {G : jx_Gv} : (jz_m (jZ l dC dI aC H0 G) 72).1 = ({ cls := "PartTextModel", name := "isLetter", desc := "(I)Z" } : Jvm.MethodName) := rfl
theorem hl_72 {l : Launch} {dC : Nat → ClassId} {dI : Nat → Nat → Nat} {aC : Nat → ClassId} {H0 : Heap} {G : jx_Gv} : (jz_m (jZ l dC dI aC H0 G) 72).2.2.1 = 1 := rfl
theorem hnl_72 {l : Launch} {dC : Nat → ClassId} {dI : Nat → Nat → Nat} {aC : Nat → ClassId} {H0 : Heap} {G : jx_Gv} : jNl 72 = (jz_m (jZ l dC dI aC H0 G) 72).2.2.1 := rfl
theorem hr_72 {l : Launch} {dC : Nat → ClassId} {dI : Nat → Nat → Nat} {aC : Nat → ClassId} {H0 : Heap} {G : jx_Gv} : (jz_m (jZ l dC dI aC H0 G) 72).2.2.2 = (some .boolean) := rfl
theorem hd_73 {l : Launch} {dC : Nat → ClassId} {dI : Nat → Nat → Nat} {aC : Nat → ClassId} {H0 : Heap} {G : jx_Gv} : jz_d (jZ l dC dI aC H0 G) 73 = (0, 0) := rfl
theorem hy_73 {l : Launch} {dC : Nat → ClassId} {dI : Nat → Nat → Nat} {aC : Nat → ClassId} {H0 : Heap} {G : jx_Gv} : (jz_m (jZ l dC dI aC H0 G) 73).1 = ({ cls := "PartTextModel", name := "isDigit", desc := "(I)Z" } : Jvm.MethodName) := rfl
theorem hl_73 {l : Launch} {dC : Nat → ClassId} {dI : Nat → Nat → Nat} {aC : Nat → ClassId} {H0 : Heap} {G : jx_Gv} : (jz_m (jZ l dC dI aC H0 G) 73).2.2.1 = 1 := rfl
theorem hnl_73 {l : Launch} {dC : Nat → ClassId} {dI : Nat → Nat → Nat} {aC : Nat → ClassId} {H0 : Heap} {G : jx_Gv} : jNl 73 = (jz_m (jZ l dC dI aC H0 G) 73).2.2.1 := rfl
theorem hr_73 {l : Launch} {dC : Nat → ClassId} {dI : Nat → Nat → Nat} {aC : Nat → ClassId} {H0 : Heap} {G : jx_Gv} : (jz_m (jZ l dC dI aC H0 G) 73).2.2.2 = (some .boolean) := rfl
theorem hd_74 {l : Launch} {dC : Nat → ClassId} {dI : Nat → Nat → Nat} {aC : Nat → ClassId} {H0 : Heap} {G : jx_Gv} : jz_d (jZ l dC dI aC H0 G) 74 = (0, 0) := rfl
theorem hy_74 {l : Launch} {dC : Nat → ClassId} {dI : Nat → Nat → Nat} {aC : Nat → ClassId} {H0 : Heap} {G : jx_Gv} : (jz_m (jZ l dC dI aC H0 G) 74).1 = ({ cls := "PartTextModel", name := "packed", desc := "(II)J" } : Jvm.MethodName) := rfl
theorem hl_74 {l : Launch} {dC : Nat → ClassId} {dI : Nat → Nat → Nat} {aC : Nat → ClassId} {H0 : Heap} {G : jx_Gv} : (jz_m (jZ l dC dI aC H0 G) 74).2.2.1 = 6 := rfl
theorem hnl_74 {l : Launch} {dC : Nat → ClassId} {dI : Nat → Nat → Nat} {aC : Nat → ClassId} {H0 : Heap} {G : jx_Gv} : jNl 74 = (jz_m (jZ l dC dI aC H0 G) 74).2.2.1 := rfl
theorem hr_74 {l : Launch} {dC : Nat → ClassId} {dI : Nat → Nat → Nat} {aC : Nat → ClassId} {H0 : Heap} {G : jx_Gv} : (jz_m (jZ l dC dI aC H0 G) 74).2.2.2 = (some .long) := rfl
theorem hd_75 {l : Launch} {dC : Nat → ClassId} {dI : Nat → Nat → Nat} {aC : Nat → ClassId} {H0 : Heap} {G : jx_Gv} : jz_d (jZ l dC dI aC H0 G) 75 = (1, 25) := rfl
theorem hy_75 {l : Launch} {dC : Nat → ClassId} {dI : Nat → Nat → Nat} {aC : Nat → ClassId} {H0 : Heap} {G : jx_Gv} : (jz_m (jZ l dC dI aC H0 G) 75).1 = ({ cls := "PartTextModel", name := "wordOf", desc := "(II)I" } : Jvm.MethodName) := rfl
theorem hl_75 {l : Launch} {dC : Nat → ClassId} {dI : Nat → Nat → Nat} {aC : Nat → ClassId} {H0 : Heap} {G : jx_Gv} : (jz_m (jZ l dC dI aC H0 G) 75).2.2.1 = 6 := rfl
theorem hnl_75 {l : Launch} {dC : Nat → ClassId} {dI : Nat → Nat → Nat} {aC : Nat → ClassId} {H0 : Heap} {G : jx_Gv} : jNl 75 = (jz_m (jZ l dC dI aC H0 G) 75).2.2.1 := rfl
theorem hr_75 {l : Launch} {dC : Nat → ClassId} {dI : Nat → Nat → Nat} {aC : Nat → ClassId} {H0 : Heap} {G : jx_Gv} : (jz_m (jZ l dC dI aC H0 G) 75).2.2.2 = (some .int) := rfl
theorem hd_76 {l : Launch} {dC : Nat → ClassId} {dI : Nat → Nat → Nat} {aC : Nat → ClassId} {H0 : Heap} {G : jx_Gv} : jz_d (jZ l dC dI aC H0 G) 76 = (0, 0) := rfl
theorem hy_76 {l : Launch} {dC : Nat → ClassId} {dI : Nat → Nat → Nat} {aC : Nat → ClassId} {H0 : Heap} {G : jx_Gv} : (jz_m (jZ l dC dI aC H0 G) 76).1 = ({ cls := "PartTextModel", name := "nameOf", desc := "(II)I" } : Jvm.MethodName) := rfl
theorem hl_76 {l : Launch} {dC : Nat → ClassId} {dI : Nat → Nat → Nat} {aC : Nat → ClassId} {H0 : Heap} {G : jx_Gv} : (jz_m (jZ l dC dI aC H0 G) 76).2.2.1 = 6 := rfl
theorem hnl_76 {l : Launch} {dC : Nat → ClassId} {dI : Nat → Nat → Nat} {aC : Nat → ClassId} {H0 : Heap} {G : jx_Gv} : jNl 76 = (jz_m (jZ l dC dI aC H0 G) 76).2.2.1 := rfl
theorem hr_76 {l : Launch} {dC : Nat → ClassId} {dI : Nat → Nat → Nat} {aC : Nat → ClassId} {H0 : Heap} {G : jx_Gv} : (jz_m (jZ l dC dI aC H0 G) 76).2.2.2 = (some .int) := rfl
theorem hd_77 {l : Launch} {dC : Nat → ClassId} {dI : Nat → Nat → Nat} {aC : Nat → ClassId} {H0 : Heap} {G : jx_Gv} : jz_d (jZ l dC dI aC H0 G) 77 = (2, 50) := rfl
theorem hy_77 {l : Launch} {dC : Nat → ClassId} {dI : Nat → Nat → Nat} {aC : Nat → ClassId} {H0 : Heap} {G : jx_Gv} : (jz_m (jZ l dC dI aC H0 G) 77).1 = ({ cls := "PartTextModel", name := "next", desc := "()V" } : Jvm.MethodName) := rfl
theorem hl_77 {l : Launch} {dC : Nat → ClassId} {dI : Nat → Nat → Nat} {aC : Nat → ClassId} {H0 : Heap} {G : jx_Gv} : (jz_m (jZ l dC dI aC H0 G) 77).2.2.1 = 4 := rfl
theorem hnl_77 {l : Launch} {dC : Nat → ClassId} {dI : Nat → Nat → Nat} {aC : Nat → ClassId} {H0 : Heap} {G : jx_Gv} : jNl 77 = (jz_m (jZ l dC dI aC H0 G) 77).2.2.1 := rfl
theorem hr_77 {l : Launch} {dC : Nat → ClassId} {dI : Nat → Nat → Nat} {aC : Nat → ClassId} {H0 : Heap} {G : jx_Gv} : (jz_m (jZ l dC dI aC H0 G) 77).2.2.2 = none := rfl
theorem hd_78 {l : Launch} {dC : Nat → ClassId} {dI : Nat → Nat → Nat} {aC : Nat → ClassId} {H0 : Heap} {G : jx_Gv} : jz_d (jZ l dC dI aC H0 G) 78 = (1, 20) := rfl
theorem hy_78 {l : Launch} {dC : Nat → ClassId} {dI : Nat → Nat → Nat} {aC : Nat → ClassId} {H0 : Heap} {G : jx_Gv} : (jz_m (jZ l dC dI aC H0 G) 78).1 = ({ cls := "PartTextModel", name := "lengthOf", desc := "()I" } : Jvm.MethodName) := rfl
theorem hl_78 {l : Launch} {dC : Nat → ClassId} {dI : Nat → Nat → Nat} {aC : Nat → ClassId} {H0 : Heap} {G : jx_Gv} : (jz_m (jZ l dC dI aC H0 G) 78).2.2.1 = 2 := rfl
theorem hnl_78 {l : Launch} {dC : Nat → ClassId} {dI : Nat → Nat → Nat} {aC : Nat → ClassId} {H0 : Heap} {G : jx_Gv} : jNl 78 = (jz_m (jZ l dC dI aC H0 G) 78).2.2.1 := rfl
theorem hr_78 {l : Launch} {dC : Nat → ClassId} {dI : Nat → Nat → Nat} {aC : Nat → ClassId} {H0 : Heap} {G : jx_Gv} : (jz_m (jZ l dC dI aC H0 G) 78).2.2.2 = (some .int) := rfl
theorem hd_79 {l : Launch} {dC : Nat → ClassId} {dI : Nat → Nat → Nat} {aC : Nat → ClassId} {H0 : Heap} {G : jx_Gv} : jz_d (jZ l dC dI aC H0 G) 79 = (0, 0) := rfl
theorem hy_79 {l : Launch} {dC : Nat → ClassId} {dI : Nat → Nat → Nat} {aC : Nat → ClassId} {H0 : Heap} {G : jx_Gv} : (jz_m (jZ l dC dI aC H0 G) 79).1 = ({ cls := "PartTextModel", name := "put", desc := "(I)V" } : Jvm.MethodName) := rfl
theorem hl_79 {l : Launch} {dC : Nat → ClassId} {dI : Nat → Nat → Nat} {aC : Nat → ClassId} {H0 : Heap} {G : jx_Gv} : (jz_m (jZ l dC dI aC H0 G) 79).2.2.1 = 2 := rfl
theorem hnl_79 {l : Launch} {dC : Nat → ClassId} {dI : Nat → Nat → Nat} {aC : Nat → ClassId} {H0 : Heap} {G : jx_Gv} : jNl 79 = (jz_m (jZ l dC dI aC H0 G) 79).2.2.1 := rfl
theorem hr_79 {l : Launch} {dC : Nat → ClassId} {dI : Nat → Nat → Nat} {aC : Nat → ClassId} {H0 : Heap} {G : jx_Gv} : (jz_m (jZ l dC dI aC H0 G) 79).2.2.2 = none := rfl
theorem hd_80 {l : Launch} {dC : Nat → ClassId} {dI : Nat → Nat → Nat} {aC : Nat → ClassId} {H0 : Heap} {G : jx_Gv} : jz_d (jZ l dC dI aC H0 G) 80 = (1, 21) := rfl
theorem hy_80 {l : Launch} {dC : Nat → ClassId} {dI : Nat → Nat → Nat} {aC : Nat → ClassId} {H0 : Heap} {G : jx_Gv} : (jz_m (jZ l dC dI aC H0 G) 80).1 = ({ cls := "PartTextModel", name := "putNumber", desc := "(I)V" } : Jvm.MethodName) := rfl
theorem hl_80 {l : Launch} {dC : Nat → ClassId} {dI : Nat → Nat → Nat} {aC : Nat → ClassId} {H0 : Heap} {G : jx_Gv} : (jz_m (jZ l dC dI aC H0 G) 80).2.2.1 = 3 := rfl
theorem hnl_80 {l : Launch} {dC : Nat → ClassId} {dI : Nat → Nat → Nat} {aC : Nat → ClassId} {H0 : Heap} {G : jx_Gv} : jNl 80 = (jz_m (jZ l dC dI aC H0 G) 80).2.2.1 := rfl
theorem hr_80 {l : Launch} {dC : Nat → ClassId} {dI : Nat → Nat → Nat} {aC : Nat → ClassId} {H0 : Heap} {G : jx_Gv} : (jz_m (jZ l dC dI aC H0 G) 80).2.2.2 = none := rfl
theorem hd_81 {l : Launch} {dC : Nat → ClassId} {dI : Nat → Nat → Nat} {aC : Nat → ClassId} {H0 : Heap} {G : jx_Gv} : jz_d (jZ l dC dI aC H0 G) 81 = (2, 43) := rfl
theorem hy_81 {l : Launch} {dC : Nat → ClassId} {dI : Nat → Nat → Nat} {aC : Nat → ClassId} {H0 : Heap} {G : jx_Gv} : (jz_m (jZ l dC dI aC H0 G) 81).1 = ({ cls := "PartTextModel", name := "writeToken", desc := "(I)V" } : Jvm.MethodName) := rfl
theorem hl_81 {l : Launch} {dC : Nat → ClassId} {dI : Nat → Nat → Nat} {aC : Nat → ClassId} {H0 : Heap} {G : jx_Gv} : (jz_m (jZ l dC dI aC H0 G) 81).2.2.1 = 3 := rfl
theorem hnl_81 {l : Launch} {dC : Nat → ClassId} {dI : Nat → Nat → Nat} {aC : Nat → ClassId} {H0 : Heap} {G : jx_Gv} : jNl 81 = (jz_m (jZ l dC dI aC H0 G) 81).2.2.1 := rfl
theorem hr_81 {l : Launch} {dC : Nat → ClassId} {dI : Nat → Nat → Nat} {aC : Nat → ClassId} {H0 : Heap} {G : jx_Gv} : (jz_m (jZ l dC dI aC H0 G) 81).2.2.2 = none := rfl
theorem hd_82 {l : Launch} {dC : Nat → ClassId} {dI : Nat → Nat → Nat} {aC : Nat → ClassId} {H0 : Heap} {G : jx_Gv} : jz_d (jZ l dC dI aC H0 G) 82 = (3, 73) := rfl
theorem hy_82 {l : Launch} {dC : Nat → ClassId} {dI : Nat → Nat → Nat} {aC : Nat → ClassId} {H0 : Heap} {G : jx_Gv} : (jz_m (jZ l dC dI aC H0 G) 82).1 = ({ cls := "PartTextModel", name := "accept", desc := "()Z" } : Jvm.MethodName) := rfl
theorem hl_82 {l : Launch} {dC : Nat → ClassId} {dI : Nat → Nat → Nat} {aC : Nat → ClassId} {H0 : Heap} {G : jx_Gv} : (jz_m (jZ l dC dI aC H0 G) 82).2.2.1 = 1 := rfl
theorem hnl_82 {l : Launch} {dC : Nat → ClassId} {dI : Nat → Nat → Nat} {aC : Nat → ClassId} {H0 : Heap} {G : jx_Gv} : jNl 82 = (jz_m (jZ l dC dI aC H0 G) 82).2.2.1 := rfl
theorem hr_82 {l : Launch} {dC : Nat → ClassId} {dI : Nat → Nat → Nat} {aC : Nat → ClassId} {H0 : Heap} {G : jx_Gv} : (jz_m (jZ l dC dI aC H0 G) 82).2.2.2 = (some .boolean) := rfl
theorem hd_83 {l : Launch} {dC : Nat → ClassId} {dI : Nat → Nat → Nat} {aC : Nat → ClassId} {H0 : Heap} {G : jx_Gv} : jz_d (jZ l dC dI aC H0 G) 83 = (4, 93) := rfl
theorem hy_83 {l : Launch} {dC : Nat → ClassId} {dI : Nat → Nat → Nat} {aC : Nat → ClassId} {H0 : Heap} {G : jx_Gv} : (jz_m (jZ l dC dI aC H0 G) 83).1 = ({ cls := "PartTextModel", name := "begin", desc := "(I)V" } : Jvm.MethodName) := rfl
theorem hl_83 {l : Launch} {dC : Nat → ClassId} {dI : Nat → Nat → Nat} {aC : Nat → ClassId} {H0 : Heap} {G : jx_Gv} : (jz_m (jZ l dC dI aC H0 G) 83).2.2.1 = 2 := rfl
theorem hnl_83 {l : Launch} {dC : Nat → ClassId} {dI : Nat → Nat → Nat} {aC : Nat → ClassId} {H0 : Heap} {G : jx_Gv} : jNl 83 = (jz_m (jZ l dC dI aC H0 G) 83).2.2.1 := rfl
theorem hr_83 {l : Launch} {dC : Nat → ClassId} {dI : Nat → Nat → Nat} {aC : Nat → ClassId} {H0 : Heap} {G : jx_Gv} : (jz_m (jZ l dC dI aC H0 G) 83).2.2.2 = none := rfl
theorem hd_84 {l : Launch} {dC : Nat → ClassId} {dI : Nat → Nat → Nat} {aC : Nat → ClassId} {H0 : Heap} {G : jx_Gv} : jz_d (jZ l dC dI aC H0 G) 84 = (4, 93) := rfl
theorem hy_84 {l : Launch} {dC : Nat → ClassId} {dI : Nat → Nat → Nat} {aC : Nat → ClassId} {H0 : Heap} {G : jx_Gv} : (jz_m (jZ l dC dI aC H0 G) 84).1 = ({ cls := "PartTextModel", name := "wants", desc := "(Z)Z" } : Jvm.MethodName) := rfl
theorem hl_84 {l : Launch} {dC : Nat → ClassId} {dI : Nat → Nat → Nat} {aC : Nat → ClassId} {H0 : Heap} {G : jx_Gv} : (jz_m (jZ l dC dI aC H0 G) 84).2.2.1 = 2 := rfl
theorem hnl_84 {l : Launch} {dC : Nat → ClassId} {dI : Nat → Nat → Nat} {aC : Nat → ClassId} {H0 : Heap} {G : jx_Gv} : jNl 84 = (jz_m (jZ l dC dI aC H0 G) 84).2.2.1 := rfl
theorem hr_84 {l : Launch} {dC : Nat → ClassId} {dI : Nat → Nat → Nat} {aC : Nat → ClassId} {H0 : Heap} {G : jx_Gv} : (jz_m (jZ l dC dI aC H0 G) 84).2.2.2 = (some .boolean) := rfl
theorem hd_85 {l : Launch} {dC : Nat → ClassId} {dI : Nat → Nat → Nat} {aC : Nat → ClassId} {H0 : Heap} {G : jx_Gv} : jz_d (jZ l dC dI aC H0 G) 85 = (5, 114) := rfl
theorem hy_85 {l : Launch} {dC : Nat → ClassId} {dI : Nat → Nat → Nat} {aC : Nat → ClassId} {H0 : Heap} {G : jx_Gv} : (jz_m (jZ l dC dI aC H0 G) 85).1 = ({ cls := "PartTextModel", name := "name", desc := "()I" } : Jvm.MethodName) := rfl
theorem hl_85 {l : Launch} {dC : Nat → ClassId} {dI : Nat → Nat → Nat} {aC : Nat → ClassId} {H0 : Heap} {G : jx_Gv} : (jz_m (jZ l dC dI aC H0 G) 85).2.2.1 = 2 := rfl
theorem hnl_85 {l : Launch} {dC : Nat → ClassId} {dI : Nat → Nat → Nat} {aC : Nat → ClassId} {H0 : Heap} {G : jx_Gv} : jNl 85 = (jz_m (jZ l dC dI aC H0 G) 85).2.2.1 := rfl
theorem hr_85 {l : Launch} {dC : Nat → ClassId} {dI : Nat → Nat → Nat} {aC : Nat → ClassId} {H0 : Heap} {G : jx_Gv} : (jz_m (jZ l dC dI aC H0 G) 85).2.2.2 = (some .int) := rfl
theorem hd_86 {l : Launch} {dC : Nat → ClassId} {dI : Nat → Nat → Nat} {aC : Nat → ClassId} {H0 : Heap} {G : jx_Gv} : jz_d (jZ l dC dI aC H0 G) 86 = (5, 114) := rfl
theorem hy_86 {l : Launch} {dC : Nat → ClassId} {dI : Nat → Nat → Nat} {aC : Nat → ClassId} {H0 : Heap} {G : jx_Gv} : (jz_m (jZ l dC dI aC H0 G) 86).1 = ({ cls := "PartTextModel", name := "sign0", desc := "(I)Z" } : Jvm.MethodName) := rfl
theorem hl_86 {l : Launch} {dC : Nat → ClassId} {dI : Nat → Nat → Nat} {aC : Nat → ClassId} {H0 : Heap} {G : jx_Gv} : (jz_m (jZ l dC dI aC H0 G) 86).2.2.1 = 2 := rfl
theorem hnl_86 {l : Launch} {dC : Nat → ClassId} {dI : Nat → Nat → Nat} {aC : Nat → ClassId} {H0 : Heap} {G : jx_Gv} : jNl 86 = (jz_m (jZ l dC dI aC H0 G) 86).2.2.1 := rfl
theorem hr_86 {l : Launch} {dC : Nat → ClassId} {dI : Nat → Nat → Nat} {aC : Nat → ClassId} {H0 : Heap} {G : jx_Gv} : (jz_m (jZ l dC dI aC H0 G) 86).2.2.2 = (some .boolean) := rfl
theorem hd_87 {l : Launch} {dC : Nat → ClassId} {dI : Nat → Nat → Nat} {aC : Nat → ClassId} {H0 : Heap} {G : jx_Gv} : jz_d (jZ l dC dI aC H0 G) 87 = (5, 114) := rfl
theorem hy_87 {l : Launch} {dC : Nat → ClassId} {dI : Nat → Nat → Nat} {aC : Nat → ClassId} {H0 : Heap} {G : jx_Gv} : (jz_m (jZ l dC dI aC H0 G) 87).1 = ({ cls := "PartTextModel", name := "number", desc := "(II)I" } : Jvm.MethodName) := rfl
theorem hl_87 {l : Launch} {dC : Nat → ClassId} {dI : Nat → Nat → Nat} {aC : Nat → ClassId} {H0 : Heap} {G : jx_Gv} : (jz_m (jZ l dC dI aC H0 G) 87).2.2.1 = 4 := rfl
theorem hnl_87 {l : Launch} {dC : Nat → ClassId} {dI : Nat → Nat → Nat} {aC : Nat → ClassId} {H0 : Heap} {G : jx_Gv} : jNl 87 = (jz_m (jZ l dC dI aC H0 G) 87).2.2.1 := rfl
theorem hr_87 {l : Launch} {dC : Nat → ClassId} {dI : Nat → Nat → Nat} {aC : Nat → ClassId} {H0 : Heap} {G : jx_Gv} : (jz_m (jZ l dC dI aC H0 G) 87).2.2.2 = (some .int) := rfl
theorem hd_88 {l : Launch} {dC : Nat → ClassId} {dI : Nat → Nat → Nat} {aC : Nat → ClassId} {H0 : Heap} {G : jx_Gv} : jz_d (jZ l dC dI aC H0 G) 88 = (0, 0) := rfl
theorem hy_88 {l : Launch} {dC : Nat → ClassId} {dI : Nat → Nat → Nat} {aC : Nat → ClassId} {H0 : Heap} {G : jx_Gv} : (jz_m (jZ l dC dI aC H0 G) 88).1 = ({ cls := "PartTextModel", name := "keepRow", desc := "(IIIII)V" } : Jvm.MethodName) := rfl
theorem hl_88 {l : Launch} {dC : Nat → ClassId} {dI : Nat → Nat → Nat} {aC : Nat → ClassId} {H0 : Heap} {G : jx_Gv} : (jz_m (jZ l dC dI aC H0 G) 88).2.2.1 = 6 := rfl
theorem hnl_88 {l : Launch} {dC : Nat → ClassId} {dI : Nat → Nat → Nat} {aC : Nat → ClassId} {H0 : Heap} {G : jx_Gv} : jNl 88 = (jz_m (jZ l dC dI aC H0 G) 88).2.2.1 := rfl
theorem hr_88 {l : Launch} {dC : Nat → ClassId} {dI : Nat → Nat → Nat} {aC : Nat → ClassId} {H0 : Heap} {G : jx_Gv} : (jz_m (jZ l dC dI aC H0 G) 88).2.2.2 = none := rfl
theorem hd_89 {l : Launch} {dC : Nat → ClassId} {dI : Nat → Nat → Nat} {aC : Nat → ClassId} {H0 : Heap} {G : jx_Gv} : jz_d (jZ l dC dI aC H0 G) 89 = (6, 137) := rfl
theorem hy_89 {l : Launch} {dC : Nat → ClassId} {dI : Nat → Nat → Nat} {aC : Nat → ClassId} {H0 : Heap} {G : jx_Gv} : (jz_m (jZ l dC dI aC H0 G) 89).1 = ({ cls := "PartTextModel", name := "signed", desc := "()I" } : Jvm.MethodName) := rfl
theorem hl_89 {l : Launch} {dC : Nat → ClassId} {dI : Nat → Nat → Nat} {aC : Nat → ClassId} {H0 : Heap} {G : jx_Gv} : (jz_m (jZ l dC dI aC H0 G) 89).2.2.1 = 5 := rfl
theorem hnl_89 {l : Launch} {dC : Nat → ClassId} {dI : Nat → Nat → Nat} {aC : Nat → ClassId} {H0 : Heap} {G : jx_Gv} : jNl 89 = (jz_m (jZ l dC dI aC H0 G) 89).2.2.1 := rfl
theorem hr_89 {l : Launch} {dC : Nat → ClassId} {dI : Nat → Nat → Nat} {aC : Nat → ClassId} {H0 : Heap} {G : jx_Gv} : (jz_m (jZ l dC dI aC H0 G) 89).2.2.2 = (some .int) := rfl
theorem hd_90 {l : Launch} {dC : Nat → ClassId} {dI : Nat → Nat → Nat} {aC : Nat → ClassId} {H0 : Heap} {G : jx_Gv} : jz_d (jZ l dC dI aC H0 G) 90 = (5, 114) := rfl
theorem hy_90 {l : Launch} {dC : Nat → ClassId} {dI : Nat → Nat → Nat} {aC : Nat → ClassId} {H0 : Heap} {G : jx_Gv} : (jz_m (jZ l dC dI aC H0 G) 90).1 = ({ cls := "PartTextModel", name := "word", desc := "(I)Z" } : Jvm.MethodName) := rfl
theorem hl_90 {l : Launch} {dC : Nat → ClassId} {dI : Nat → Nat → Nat} {aC : Nat → ClassId} {H0 : Heap} {G : jx_Gv} : (jz_m (jZ l dC dI aC H0 G) 90).2.2.1 = 2 := rfl
theorem hnl_90 {l : Launch} {dC : Nat → ClassId} {dI : Nat → Nat → Nat} {aC : Nat → ClassId} {H0 : Heap} {G : jx_Gv} : jNl 90 = (jz_m (jZ l dC dI aC H0 G) 90).2.2.1 := rfl
theorem hr_90 {l : Launch} {dC : Nat → ClassId} {dI : Nat → Nat → Nat} {aC : Nat → ClassId} {H0 : Heap} {G : jx_Gv} : (jz_m (jZ l dC dI aC H0 G) 90).2.2.2 = (some .boolean) := rfl
theorem hd_91 {l : Launch} {dC : Nat → ClassId} {dI : Nat → Nat → Nat} {aC : Nat → ClassId} {H0 : Heap} {G : jx_Gv} : jz_d (jZ l dC dI aC H0 G) 91 = (6, 135) := rfl
theorem hy_91 {l : Launch} {dC : Nat → ClassId} {dI : Nat → Nat → Nat} {aC : Nat → ClassId} {H0 : Heap} {G : jx_Gv} : (jz_m (jZ l dC dI aC H0 G) 91).1 = ({ cls := "PartTextModel", name := "pair", desc := "()V" } : Jvm.MethodName) := rfl
theorem hl_91 {l : Launch} {dC : Nat → ClassId} {dI : Nat → Nat → Nat} {aC : Nat → ClassId} {H0 : Heap} {G : jx_Gv} : (jz_m (jZ l dC dI aC H0 G) 91).2.2.1 = 2 := rfl
theorem hnl_91 {l : Launch} {dC : Nat → ClassId} {dI : Nat → Nat → Nat} {aC : Nat → ClassId} {H0 : Heap} {G : jx_Gv} : jNl 91 = (jz_m (jZ l dC dI aC H0 G) 91).2.2.1 := rfl
theorem hr_91 {l : Launch} {dC : Nat → ClassId} {dI : Nat → Nat → Nat} {aC : Nat → ClassId} {H0 : Heap} {G : jx_Gv} : (jz_m (jZ l dC dI aC H0 G) 91).2.2.2 = none := rfl
theorem hd_92 {l : Launch} {dC : Nat → ClassId} {dI : Nat → Nat → Nat} {aC : Nat → ClassId} {H0 : Heap} {G : jx_Gv} : jz_d (jZ l dC dI aC H0 G) 92 = (6, 135) := rfl
theorem hy_92 {l : Launch} {dC : Nat → ClassId} {dI : Nat → Nat → Nat} {aC : Nat → ClassId} {H0 : Heap} {G : jx_Gv} : (jz_m (jZ l dC dI aC H0 G) 92).1 = ({ cls := "PartTextModel", name := "access", desc := "(I)V" } : Jvm.MethodName) := rfl
theorem hl_92 {l : Launch} {dC : Nat → ClassId} {dI : Nat → Nat → Nat} {aC : Nat → ClassId} {H0 : Heap} {G : jx_Gv} : (jz_m (jZ l dC dI aC H0 G) 92).2.2.1 = 4 := rfl
theorem hnl_92 {l : Launch} {dC : Nat → ClassId} {dI : Nat → Nat → Nat} {aC : Nat → ClassId} {H0 : Heap} {G : jx_Gv} : jNl 92 = (jz_m (jZ l dC dI aC H0 G) 92).2.2.1 := rfl
theorem hr_92 {l : Launch} {dC : Nat → ClassId} {dI : Nat → Nat → Nat} {aC : Nat → ClassId} {H0 : Heap} {G : jx_Gv} : (jz_m (jZ l dC dI aC H0 G) 92).2.2.2 = none := rfl
theorem hd_93 {l : Launch} {dC : Nat → ClassId} {dI : Nat → Nat → Nat} {aC : Nat → ClassId} {H0 : Heap} {G : jx_Gv} : jz_d (jZ l dC dI aC H0 G) 93 = (7, 158) := rfl
theorem hy_93 {l : Launch} {dC : Nat → ClassId} {dI : Nat → Nat → Nat} {aC : Nat → ClassId} {H0 : Heap} {G : jx_Gv} : (jz_m (jZ l dC dI aC H0 G) 93).1 = ({ cls := "PartTextModel", name := "runRow", desc := "()V" } : Jvm.MethodName) := rfl
theorem hl_93 {l : Launch} {dC : Nat → ClassId} {dI : Nat → Nat → Nat} {aC : Nat → ClassId} {H0 : Heap} {G : jx_Gv} : (jz_m (jZ l dC dI aC H0 G) 93).2.2.1 = 3 := rfl
theorem hnl_93 {l : Launch} {dC : Nat → ClassId} {dI : Nat → Nat → Nat} {aC : Nat → ClassId} {H0 : Heap} {G : jx_Gv} : jNl 93 = (jz_m (jZ l dC dI aC H0 G) 93).2.2.1 := rfl
theorem hr_93 {l : Launch} {dC : Nat → ClassId} {dI : Nat → Nat → Nat} {aC : Nat → ClassId} {H0 : Heap} {G : jx_Gv} : (jz_m (jZ l dC dI aC H0 G) 93).2.2.2 = none := rfl
theorem hd_94 {l : Launch} {dC : Nat → ClassId} {dI : Nat → Nat → Nat} {aC : Nat → ClassId} {H0 : Heap} {G : jx_Gv} : jz_d (jZ l dC dI aC H0 G) 94 = (6, 135) := rfl
theorem hy_94 {l : Launch} {dC : Nat → ClassId} {dI : Nat → Nat → Nat} {aC : Nat → ClassId} {H0 : Heap} {G : jx_Gv} : (jz_m (jZ l dC dI aC H0 G) 94).1 = ({ cls := "PartTextModel", name := "connectRow", desc := "()V" } : Jvm.MethodName) := rfl
theorem hl_94 {l : Launch} {dC : Nat → ClassId} {dI : Nat → Nat → Nat} {aC : Nat → ClassId} {H0 : Heap} {G : jx_Gv} : (jz_m (jZ l dC dI aC H0 G) 94).2.2.1 = 2 := rfl
theorem hnl_94 {l : Launch} {dC : Nat → ClassId} {dI : Nat → Nat → Nat} {aC : Nat → ClassId} {H0 : Heap} {G : jx_Gv} : jNl 94 = (jz_m (jZ l dC dI aC H0 G) 94).2.2.1 := rfl
theorem hr_94 {l : Launch} {dC : Nat → ClassId} {dI : Nat → Nat → Nat} {aC : Nat → ClassId} {H0 : Heap} {G : jx_Gv} : (jz_m (jZ l dC dI aC H0 G) 94).2.2.2 = none := rfl
theorem hd_95 {l : Launch} {dC : Nat → ClassId} {dI : Nat → Nat → Nat} {aC : Nat → ClassId} {H0 : Heap} {G : jx_Gv} : jz_d (jZ l dC dI aC H0 G) 95 = (8, 180) := rfl
theorem hy_95 {l : Launch} {dC : Nat → ClassId} {dI : Nat → Nat → Nat} {aC : Nat → ClassId} {H0 : Heap} {G : jx_Gv} : (jz_m (jZ l dC dI aC H0 G) 95).1 = ({ cls := "PartTextModel", name := "member", desc := "(I)V" } : Jvm.MethodName) := rfl
theorem hl_95 {l : Launch} {dC : Nat → ClassId} {dI : Nat → Nat → Nat} {aC : Nat → ClassId} {H0 : Heap} {G : jx_Gv} : (jz_m (jZ l dC dI aC H0 G) 95).2.2.1 = 3 := rfl
theorem hnl_95 {l : Launch} {dC : Nat → ClassId} {dI : Nat → Nat → Nat} {aC : Nat → ClassId} {H0 : Heap} {G : jx_Gv} : jNl 95 = (jz_m (jZ l dC dI aC H0 G) 95).2.2.1 := rfl
theorem hr_95 {l : Launch} {dC : Nat → ClassId} {dI : Nat → Nat → Nat} {aC : Nat → ClassId} {H0 : Heap} {G : jx_Gv} : (jz_m (jZ l dC dI aC H0 G) 95).2.2.2 = none := rfl
theorem hd_96 {l : Launch} {dC : Nat → ClassId} {dI : Nat → Nat → Nat} {aC : Nat → ClassId} {H0 : Heap} {G : jx_Gv} : jz_d (jZ l dC dI aC H0 G) 96 = (9, 202) := rfl
theorem hy_96 {l : Launch} {dC : Nat → ClassId} {dI : Nat → Nat → Nat} {aC : Nat → ClassId} {H0 : Heap} {G : jx_Gv} : (jz_m (jZ l dC dI aC H0 G) 96).1 = ({ cls := "PartTextModel", name := "members", desc := "(I)V" } : Jvm.MethodName) := rfl
theorem hl_96 {l : Launch} {dC : Nat → ClassId} {dI : Nat → Nat → Nat} {aC : Nat → ClassId} {H0 : Heap} {G : jx_Gv} : (jz_m (jZ l dC dI aC H0 G) 96).2.2.1 = 2 := rfl
theorem hnl_96 {l : Launch} {dC : Nat → ClassId} {dI : Nat → Nat → Nat} {aC : Nat → ClassId} {H0 : Heap} {G : jx_Gv} : jNl 96 = (jz_m (jZ l dC dI aC H0 G) 96).2.2.1 := rfl
theorem hr_96 {l : Launch} {dC : Nat → ClassId} {dI : Nat → Nat → Nat} {aC : Nat → ClassId} {H0 : Heap} {G : jx_Gv} : (jz_m (jZ l dC dI aC H0 G) 96).2.2.2 = none := rfl
theorem hd_97 {l : Launch} {dC : Nat → ClassId} {dI : Nat → Nat → Nat} {aC : Nat → ClassId} {H0 : Heap} {G : jx_Gv} : jz_d (jZ l dC dI aC H0 G) 97 = (10, 223) := rfl
theorem hy_97 {l : Launch} {dC : Nat → ClassId} {dI : Nat → Nat → Nat} {aC : Nat → ClassId} {H0 : Heap} {G : jx_Gv} : (jz_m (jZ l dC dI aC H0 G) 97).1 = ({ cls := "PartTextModel", name := "statement", desc := "()V" } : Jvm.MethodName) := rfl
theorem hl_97 {l : Launch} {dC : Nat → ClassId} {dI : Nat → Nat → Nat} {aC : Nat → ClassId} {H0 : Heap} {G : jx_Gv} : (jz_m (jZ l dC dI aC H0 G) 97).2.2.1 = 7 := rfl
theorem hnl_97 {l : Launch} {dC : Nat → ClassId} {dI : Nat → Nat → Nat} {aC : Nat → ClassId} {H0 : Heap} {G : jx_Gv} : jNl 97 = (jz_m (jZ l dC dI aC H0 G) 97).2.2.1 := rfl
theorem hr_97 {l : Launch} {dC : Nat → ClassId} {dI : Nat → Nat → Nat} {aC : Nat → ClassId} {H0 : Heap} {G : jx_Gv} : (jz_m (jZ l dC dI aC H0 G) 97).2.2.2 = none := rfl
theorem hd_98 {l : Launch} {dC : Nat → ClassId} {dI : Nat → Nat → Nat} {aC : Nat → ClassId} {H0 : Heap} {G : jx_Gv} : jz_d (jZ l dC dI aC H0 G) 98 = (0, 0) := rfl
theorem hy_98 {l : Launch} {dC : Nat → ClassId} {dI : Nat → Nat → Nat} {aC : Nat → ClassId} {H0 : Heap} {G : jx_Gv} : (jz_m (jZ l dC dI aC H0 G) 98).1 = ({ cls := "PartTextModel", name := "comeInHand", desc := "()V" } : Jvm.MethodName) := rfl
theorem hl_98 {l : Launch} {dC : Nat → ClassId} {dI : Nat → Nat → Nat} {aC : Nat → ClassId} {H0 : Heap} {G : jx_Gv} : (jz_m (jZ l dC dI aC H0 G) 98).2.2.1 = 2 := rfl
theorem hnl_98 {l : Launch} {dC : Nat → ClassId} {dI : Nat → Nat → Nat} {aC : Nat → ClassId} {H0 : Heap} {G : jx_Gv} : jNl 98 = (jz_m (jZ l dC dI aC H0 G) 98).2.2.1 := rfl
theorem hr_98 {l : Launch} {dC : Nat → ClassId} {dI : Nat → Nat → Nat} {aC : Nat → ClassId} {H0 : Heap} {G : jx_Gv} : (jz_m (jZ l dC dI aC H0 G) 98).2.2.2 = none := rfl
theorem hd_99 {l : Launch} {dC : Nat → ClassId} {dI : Nat → Nat → Nat} {aC : Nat → ClassId} {H0 : Heap} {G : jx_Gv} : jz_d (jZ l dC dI aC H0 G) 99 = (0, 0) := rfl
theorem hy_99 {l : Launch} {dC : Nat → ClassId} {dI : Nat → Nat → Nat} {aC : Nat → ClassId} {H0 : Heap} {G : jx_Gv} : (jz_m (jZ l dC dI aC H0 G) 99).1 = ({ cls := "PartTextModel", name := "keep", desc := "(I)V" } : Jvm.MethodName) := rfl
theorem hl_99 {l : Launch} {dC : Nat → ClassId} {dI : Nat → Nat → Nat} {aC : Nat → ClassId} {H0 : Heap} {G : jx_Gv} : (jz_m (jZ l dC dI aC H0 G) 99).2.2.1 = 3 := rfl
theorem hnl_99 {l : Launch} {dC : Nat → ClassId} {dI : Nat → Nat → Nat} {aC : Nat → ClassId} {H0 : Heap} {G : jx_Gv} : jNl 99 = (jz_m (jZ l dC dI aC H0 G) 99).2.2.1 := rfl
theorem hr_99 {l : Launch} {dC : Nat → ClassId} {dI : Nat → Nat → Nat} {aC : Nat → ClassId} {H0 : Heap} {G : jx_Gv} : (jz_m (jZ l dC dI aC H0 G) 99).2.2.2 = none := rfl
theorem hd_100 {l : Launch} {dC : Nat → ClassId} {dI : Nat → Nat → Nat} {aC : Nat → ClassId} {H0 : Heap} {G : jx_Gv} : jz_d (jZ l dC dI aC H0 G) 100 = (0, 0) := rfl
theorem hy_100 {l : Launch} {dC : Nat → ClassId} {dI : Nat → Nat → Nat} {aC : Nat → ClassId} {H0 : Heap} {G : jx_Gv} : (jz_m (jZ l dC dI aC H0 G) 100).1 = ({ cls := "PartTextModel", name := "isParts", desc := "(I)Z" } : Jvm.MethodName) := rfl
theorem hl_100 {l : Launch} {dC : Nat → ClassId} {dI : Nat → Nat → Nat} {aC : Nat → ClassId} {H0 : Heap} {G : jx_Gv} : (jz_m (jZ l dC dI aC H0 G) 100).2.2.1 = 2 := rfl
theorem hnl_100 {l : Launch} {dC : Nat → ClassId} {dI : Nat → Nat → Nat} {aC : Nat → ClassId} {H0 : Heap} {G : jx_Gv} : jNl 100 = (jz_m (jZ l dC dI aC H0 G) 100).2.2.1 := rfl
theorem hr_100 {l : Launch} {dC : Nat → ClassId} {dI : Nat → Nat → Nat} {aC : Nat → ClassId} {H0 : Heap} {G : jx_Gv} : (jz_m (jZ l dC dI aC H0 G) 100).2.2.2 = (some .boolean) := rfl
theorem hd_101 {l : Launch} {dC : Nat → ClassId} {dI : Nat → Nat → Nat} {aC : Nat → ClassId} {H0 : Heap} {G : jx_Gv} : jz_d (jZ l dC dI aC H0 G) 101 = (0, 0) := rfl
theorem hy_101 {l : Launch} {dC : Nat → ClassId} {dI : Nat → Nat → Nat} {aC : Nat → ClassId} {H0 : Heap} {G : jx_Gv} : (jz_m (jZ l dC dI aC H0 G) 101).1 = ({ cls := "PartTextModel", name := "isPort", desc := "(I)Z" } : Jvm.MethodName) := rfl
theorem hl_101 {l : Launch} {dC : Nat → ClassId} {dI : Nat → Nat → Nat} {aC : Nat → ClassId} {H0 : Heap} {G : jx_Gv} : (jz_m (jZ l dC dI aC H0 G) 101).2.2.1 = 2 := rfl
theorem hnl_101 {l : Launch} {dC : Nat → ClassId} {dI : Nat → Nat → Nat} {aC : Nat → ClassId} {H0 : Heap} {G : jx_Gv} : jNl 101 = (jz_m (jZ l dC dI aC H0 G) 101).2.2.1 := rfl
theorem hr_101 {l : Launch} {dC : Nat → ClassId} {dI : Nat → Nat → Nat} {aC : Nat → ClassId} {H0 : Heap} {G : jx_Gv} : (jz_m (jZ l dC dI aC H0 G) 101).2.2.2 = (some .boolean) := rfl
theorem hd_102 {l : Launch} {dC : Nat → ClassId} {dI : Nat → Nat → Nat} {aC : Nat → ClassId} {H0 : Heap} {G : jx_Gv} : jz_d (jZ l dC dI aC H0 G) 102 = (1, 21) := rfl
theorem hy_102 {l : Launch} {dC : Nat → ClassId} {dI : Nat → Nat → Nat} {aC : Nat → ClassId} {H0 : Heap} {G : jx_Gv} : (jz_m (jZ l dC dI aC H0 G) 102).1 = ({ cls := "PartTextModel", name := "isSort", desc := "(II)Z" } : Jvm.MethodName) := rfl
theorem hl_102 {l : Launch} {dC : Nat → ClassId} {dI : Nat → Nat → Nat} {aC : Nat → ClassId} {H0 : Heap} {G : jx_Gv} : (jz_m (jZ l dC dI aC H0 G) 102).2.2.1 = 3 := rfl
theorem hnl_102 {l : Launch} {dC : Nat → ClassId} {dI : Nat → Nat → Nat} {aC : Nat → ClassId} {H0 : Heap} {G : jx_Gv} : jNl 102 = (jz_m (jZ l dC dI aC H0 G) 102).2.2.1 := rfl
theorem hr_102 {l : Launch} {dC : Nat → ClassId} {dI : Nat → Nat → Nat} {aC : Nat → ClassId} {H0 : Heap} {G : jx_Gv} : (jz_m (jZ l dC dI aC H0 G) 102).2.2.2 = (some .boolean) := rfl
theorem hd_103 {l : Launch} {dC : Nat → ClassId} {dI : Nat → Nat → Nat} {aC : Nat → ClassId} {H0 : Heap} {G : jx_Gv} : jz_d (jZ l dC dI aC H0 G) 103 = (2, 43) := rfl
theorem hy_103 {l : Launch} {dC : Nat → ClassId} {dI : Nat → Nat → Nat} {aC : Nat → ClassId} {H0 : Heap} {G : jx_Gv} : (jz_m (jZ l dC dI aC H0 G) 103).1 = ({ cls := "PartTextModel", name := "many", desc := "(II)I" } : Jvm.MethodName) := rfl
theorem hl_103 {l : Launch} {dC : Nat → ClassId} {dI : Nat → Nat → Nat} {aC : Nat → ClassId} {H0 : Heap} {G : jx_Gv} : (jz_m (jZ l dC dI aC H0 G) 103).2.2.1 = 5 := rfl
theorem hnl_103 {l : Launch} {dC : Nat → ClassId} {dI : Nat → Nat → Nat} {aC : Nat → ClassId} {H0 : Heap} {G : jx_Gv} : jNl 103 = (jz_m (jZ l dC dI aC H0 G) 103).2.2.1 := rfl
theorem hr_103 {l : Launch} {dC : Nat → ClassId} {dI : Nat → Nat → Nat} {aC : Nat → ClassId} {H0 : Heap} {G : jx_Gv} : (jz_m (jZ l dC dI aC H0 G) 103).2.2.2 = (some .int) := rfl
theorem hd_104 {l : Launch} {dC : Nat → ClassId} {dI : Nat → Nat → Nat} {aC : Nat → ClassId} {H0 : Heap} {G : jx_Gv} : jz_d (jZ l dC dI aC H0 G) 104 = (3, 67) := rfl
theorem hy_104 {l : Launch} {dC : Nat → ClassId} {dI : Nat → Nat → Nat} {aC : Nat → ClassId} {H0 : Heap} {G : jx_Gv} : (jz_m (jZ l dC dI aC H0 G) 104).1 = ({ cls := "PartTextModel", name := "parts", desc := "()I" } : Jvm.MethodName) := rfl
theorem hl_104 {l : Launch} {dC : Nat → ClassId} {dI : Nat → Nat → Nat} {aC : Nat → ClassId} {H0 : Heap} {G : jx_Gv} : (jz_m (jZ l dC dI aC H0 G) 104).2.2.1 = 1 := rfl
theorem hnl_104 {l : Launch} {dC : Nat → ClassId} {dI : Nat → Nat → Nat} {aC : Nat → ClassId} {H0 : Heap} {G : jx_Gv} : jNl 104 = (jz_m (jZ l dC dI aC H0 G) 104).2.2.1 := rfl
theorem hr_104 {l : Launch} {dC : Nat → ClassId} {dI : Nat → Nat → Nat} {aC : Nat → ClassId} {H0 : Heap} {G : jx_Gv} : (jz_m (jZ l dC dI aC H0 G) 104).2.2.2 = (some .int) := rfl
theorem hd_105 {l : Launch} {dC : Nat → ClassId} {dI : Nat → Nat → Nat} {aC : Nat → ClassId} {H0 : Heap} {G : jx_Gv} : jz_d (jZ l dC dI aC H0 G) 105 = (11, 249) := rfl
theorem hy_105 {l : Launch} {dC : Nat → ClassId} {dI : Nat → Nat → Nat} {aC : Nat → ClassId} {H0 : Heap} {G : jx_Gv} : (jz_m (jZ l dC dI aC H0 G) 105).1 = ({ cls := "PartTextModel", name := "read", desc := "()I" } : Jvm.MethodName) := rfl
theorem hl_105 {l : Launch} {dC : Nat → ClassId} {dI : Nat → Nat → Nat} {aC : Nat → ClassId} {H0 : Heap} {G : jx_Gv} : (jz_m (jZ l dC dI aC H0 G) 105).2.2.1 = 2 := rfl
theorem hnl_105 {l : Launch} {dC : Nat → ClassId} {dI : Nat → Nat → Nat} {aC : Nat → ClassId} {H0 : Heap} {G : jx_Gv} : jNl 105 = (jz_m (jZ l dC dI aC H0 G) 105).2.2.1 := rfl
theorem hr_105 {l : Launch} {dC : Nat → ClassId} {dI : Nat → Nat → Nat} {aC : Nat → ClassId} {H0 : Heap} {G : jx_Gv} : (jz_m (jZ l dC dI aC H0 G) 105).2.2.2 = (some .int) := rfl
theorem hd_106 {l : Launch} {dC : Nat → ClassId} {dI : Nat → Nat → Nat} {aC : Nat → ClassId} {H0 : Heap} {G : jx_Gv} : jz_d (jZ l dC dI aC H0 G) 106 = (0, 0) := rfl
theorem hy_106 {l : Launch} {dC : Nat → ClassId} {dI : Nat → Nat → Nat} {aC : Nat → ClassId} {H0 : Heap} {G : jx_Gv} : (jz_m (jZ l dC dI aC H0 G) 106).1 = ({ cls := "PartText", name := "inHand", desc := "()LPartText$Edition;" } : Jvm.MethodName) := rfl
theorem hl_106 {l : Launch} {dC : Nat → ClassId} {dI : Nat → Nat → Nat} {aC : Nat → ClassId} {H0 : Heap} {G : jx_Gv} : (jz_m (jZ l dC dI aC H0 G) 106).2.2.1 = 1 := rfl
theorem hnl_106 {l : Launch} {dC : Nat → ClassId} {dI : Nat → Nat → Nat} {aC : Nat → ClassId} {H0 : Heap} {G : jx_Gv} : jNl 106 = (jz_m (jZ l dC dI aC H0 G) 106).2.2.1 := rfl
theorem hr_106 {l : Launch} {dC : Nat → ClassId} {dI : Nat → Nat → Nat} {aC : Nat → ClassId} {H0 : Heap} {G : jx_Gv} : (jz_m (jZ l dC dI aC H0 G) 106).2.2.2 = (some (Jvm.ClassFile.FieldType.object "PartText$Edition")) := rfl
theorem hd_107 {l : Launch} {dC : Nat → ClassId} {dI : Nat → Nat → Nat} {aC : Nat → ClassId} {H0 : Heap} {G : jx_Gv} : jz_d (jZ l dC dI aC H0 G) 107 = (1, 23) := rfl
theorem hy_107 {l : Launch} {dC : Nat → ClassId} {dI : Nat → Nat → Nat} {aC : Nat → ClassId} {H0 : Heap} {G : jx_Gv} : (jz_m (jZ l dC dI aC H0 G) 107).1 = ({ cls := "PartText$Edition", name := "nth", desc := "(III)I" } : Jvm.MethodName) := rfl
theorem hl_107 {l : Launch} {dC : Nat → ClassId} {dI : Nat → Nat → Nat} {aC : Nat → ClassId} {H0 : Heap} {G : jx_Gv} : (jz_m (jZ l dC dI aC H0 G) 107).2.2.1 = 6 := rfl
theorem hnl_107 {l : Launch} {dC : Nat → ClassId} {dI : Nat → Nat → Nat} {aC : Nat → ClassId} {H0 : Heap} {G : jx_Gv} : jNl 107 = (jz_m (jZ l dC dI aC H0 G) 107).2.2.1 := rfl
theorem hr_107 {l : Launch} {dC : Nat → ClassId} {dI : Nat → Nat → Nat} {aC : Nat → ClassId} {H0 : Heap} {G : jx_Gv} : (jz_m (jZ l dC dI aC H0 G) 107).2.2.2 = (some .int) := rfl
theorem hd_108 {l : Launch} {dC : Nat → ClassId} {dI : Nat → Nat → Nat} {aC : Nat → ClassId} {H0 : Heap} {G : jx_Gv} : jz_d (jZ l dC dI aC H0 G) 108 = (2, 48) := rfl
theorem hy_108 {l : Launch} {dC : Nat → ClassId} {dI : Nat → Nat → Nat} {aC : Nat → ClassId} {H0 : Heap} {G : jx_Gv} : (jz_m (jZ l dC dI aC H0 G) 108).1 = ({ cls := "PartText", name := "partRow", desc := "(LPartText$Edition;I)I" } : Jvm.MethodName) := rfl
theorem hl_108 {l : Launch} {dC : Nat → ClassId} {dI : Nat → Nat → Nat} {aC : Nat → ClassId} {H0 : Heap} {G : jx_Gv} : (jz_m (jZ l dC dI aC H0 G) 108).2.2.1 = 2 := rfl
theorem hnl_108 {l : Launch} {dC : Nat → ClassId} {dI : Nat → Nat → Nat} {aC : Nat → ClassId} {H0 : Heap} {G : jx_Gv} : jNl 108 = (jz_m (jZ l dC dI aC H0 G) 108).2.2.1 := rfl
theorem hr_108 {l : Launch} {dC : Nat → ClassId} {dI : Nat → Nat → Nat} {aC : Nat → ClassId} {H0 : Heap} {G : jx_Gv} : (jz_m (jZ l dC dI aC H0 G) 108).2.2.2 = (some .int) := rfl
theorem hd_109 {l : Launch} {dC : Nat → ClassId} {dI : Nat → Nat → Nat} {aC : Nat → ClassId} {H0 : Heap} {G : jx_Gv} : jz_d (jZ l dC dI aC H0 G) 109 = (3, 70) := rfl
theorem hy_109 {l : Launch} {dC : Nat → ClassId} {dI : Nat → Nat → Nat} {aC : Nat → ClassId} {H0 : Heap} {G : jx_Gv} : (jz_m (jZ l dC dI aC H0 G) 109).1 = ({ cls := "PartText", name := "part", desc := "(II)I" } : Jvm.MethodName) := rfl
theorem hl_109 {l : Launch} {dC : Nat → ClassId} {dI : Nat → Nat → Nat} {aC : Nat → ClassId} {H0 : Heap} {G : jx_Gv} : (jz_m (jZ l dC dI aC H0 G) 109).2.2.1 = 5 := rfl
theorem hnl_109 {l : Launch} {dC : Nat → ClassId} {dI : Nat → Nat → Nat} {aC : Nat → ClassId} {H0 : Heap} {G : jx_Gv} : jNl 109 = (jz_m (jZ l dC dI aC H0 G) 109).2.2.1 := rfl
theorem hr_109 {l : Launch} {dC : Nat → ClassId} {dI : Nat → Nat → Nat} {aC : Nat → ClassId} {H0 : Heap} {G : jx_Gv} : (jz_m (jZ l dC dI aC H0 G) 109).2.2.2 = (some .int) := rfl
theorem hd_110 {l : Launch} {dC : Nat → ClassId} {dI : Nat → Nat → Nat} {aC : Nat → ClassId} {H0 : Heap} {G : jx_Gv} : jz_d (jZ l dC dI aC H0 G) 110 = (2, 43) := rfl
theorem hy_110 {l : Launch} {dC : Nat → ClassId} {dI : Nat → Nat → Nat} {aC : Nat → ClassId} {H0 : Heap} {G : jx_Gv} : (jz_m (jZ l dC dI aC H0 G) 110).1 = ({ cls := "PartTextModel", name := "nth", desc := "(III)I" } : Jvm.MethodName) := rfl
theorem hl_110 {l : Launch} {dC : Nat → ClassId} {dI : Nat → Nat → Nat} {aC : Nat → ClassId} {H0 : Heap} {G : jx_Gv} : (jz_m (jZ l dC dI aC H0 G) 110).2.2.1 = 6 := rfl
theorem hnl_110 {l : Launch} {dC : Nat → ClassId} {dI : Nat → Nat → Nat} {aC : Nat → ClassId} {H0 : Heap} {G : jx_Gv} : jNl 110 = (jz_m (jZ l dC dI aC H0 G) 110).2.2.1 := rfl
theorem hr_110 {l : Launch} {dC : Nat → ClassId} {dI : Nat → Nat → Nat} {aC : Nat → ClassId} {H0 : Heap} {G : jx_Gv} : (jz_m (jZ l dC dI aC H0 G) 110).2.2.2 = (some .int) := rfl
theorem hd_111 {l : Launch} {dC : Nat → ClassId} {dI : Nat → Nat → Nat} {aC : Nat → ClassId} {H0 : Heap} {G : jx_Gv} : jz_d (jZ l dC dI aC H0 G) 111 = (3, 68) := rfl
theorem hy_111 {l : Launch} {dC : Nat → ClassId} {dI : Nat → Nat → Nat} {aC : Nat → ClassId} {H0 : Heap} {G : jx_Gv} : (jz_m (jZ l dC dI aC H0 G) 111).1 = ({ cls := "PartTextModel", name := "part", desc := "(II)I" } : Jvm.MethodName) := rfl
theorem hl_111 {l : Launch} {dC : Nat → ClassId} {dI : Nat → Nat → Nat} {aC : Nat → ClassId} {H0 : Heap} {G : jx_Gv} : (jz_m (jZ l dC dI aC H0 G) 111).2.2.1 = 4 := rfl
theorem hnl_111 {l : Launch} {dC : Nat → ClassId} {dI : Nat → Nat → Nat} {aC : Nat → ClassId} {H0 : Heap} {G : jx_Gv} : jNl 111 = (jz_m (jZ l dC dI aC H0 G) 111).2.2.1 := rfl
theorem hr_111 {l : Launch} {dC : Nat → ClassId} {dI : Nat → Nat → Nat} {aC : Nat → ClassId} {H0 : Heap} {G : jx_Gv} : (jz_m (jZ l dC dI aC H0 G) 111).2.2.2 = (some .int) := rfl
theorem hd_112 {l : Launch} {dC : Nat → ClassId} {dI : Nat → Nat → Nat} {aC : Nat → ClassId} {H0 : Heap} {G : jx_Gv} : jz_d (jZ l dC dI aC H0 G) 112 = (3, 69) := rfl
theorem hy_112 {l : Launch} {dC : Nat → ClassId} {dI : Nat → Nat → Nat} {aC : Nat → ClassId} {H0 : Heap} {G : jx_Gv} : (jz_m (jZ l dC dI aC H0 G) 112).1 = ({ cls := "PartText", name := "memberRow", desc := "(LPartText$Edition;III)I" } : Jvm.MethodName) := rfl
theorem hl_112 {l : Launch} {dC : Nat → ClassId} {dI : Nat → Nat → Nat} {aC : Nat → ClassId} {H0 : Heap} {G : jx_Gv} : (jz_m (jZ l dC dI aC H0 G) 112).2.2.1 = 5 := rfl
theorem hnl_112 {l : Launch} {dC : Nat → ClassId} {dI : Nat → Nat → Nat} {aC : Nat → ClassId} {H0 : Heap} {G : jx_Gv} : jNl 112 = (jz_m (jZ l dC dI aC H0 G) 112).2.2.1 := rfl
theorem hr_112 {l : Launch} {dC : Nat → ClassId} {dI : Nat → Nat → Nat} {aC : Nat → ClassId} {H0 : Heap} {G : jx_Gv} : (jz_m (jZ l dC dI aC H0 G) 112).2.2.2 = (some .int) := rfl
theorem hd_113 {l : Launch} {dC : Nat → ClassId} {dI : Nat → Nat → Nat} {aC : Nat → ClassId} {H0 : Heap} {G : jx_Gv} : jz_d (jZ l dC dI aC H0 G) 113 = (0, 0) := rfl
theorem hy_113 {l : Launch} {dC : Nat → ClassId} {dI : Nat → Nat → Nat} {aC : Nat → ClassId} {H0 : Heap} {G : jx_Gv} : (jz_m (jZ l dC dI aC H0 G) 113).1 = ({ cls := "PartText$Edition", name := "target", desc := "(I)I" } : Jvm.MethodName) := rfl
theorem hl_113 {l : Launch} {dC : Nat → ClassId} {dI : Nat → Nat → Nat} {aC : Nat → ClassId} {H0 : Heap} {G : jx_Gv} : (jz_m (jZ l dC dI aC H0 G) 113).2.2.1 = 2 := rfl
theorem hnl_113 {l : Launch} {dC : Nat → ClassId} {dI : Nat → Nat → Nat} {aC : Nat → ClassId} {H0 : Heap} {G : jx_Gv} : jNl 113 = (jz_m (jZ l dC dI aC H0 G) 113).2.2.1 := rfl
theorem hr_113 {l : Launch} {dC : Nat → ClassId} {dI : Nat → Nat → Nat} {aC : Nat → ClassId} {H0 : Heap} {G : jx_Gv} : (jz_m (jZ l dC dI aC H0 G) 113).2.2.2 = (some .int) := rfl
theorem hd_114 {l : Launch} {dC : Nat → ClassId} {dI : Nat → Nat → Nat} {aC : Nat → ClassId} {H0 : Heap} {G : jx_Gv} : jz_d (jZ l dC dI aC H0 G) 114 = (2, 48) := rfl
theorem hy_114 {l : Launch} {dC : Nat → ClassId} {dI : Nat → Nat → Nat} {aC : Nat → ClassId} {H0 : Heap} {G : jx_Gv} : (jz_m (jZ l dC dI aC H0 G) 114).1 = ({ cls := "PartText$Edition", name := "numberOf", desc := "(III)I" } : Jvm.MethodName) := rfl
theorem hl_114 {l : Launch} {dC : Nat → ClassId} {dI : Nat → Nat → Nat} {aC : Nat → ClassId} {H0 : Heap} {G : jx_Gv} : (jz_m (jZ l dC dI aC H0 G) 114).2.2.1 = 4 := rfl
theorem hnl_114 {l : Launch} {dC : Nat → ClassId} {dI : Nat → Nat → Nat} {aC : Nat → ClassId} {H0 : Heap} {G : jx_Gv} : jNl 114 = (jz_m (jZ l dC dI aC H0 G) 114).2.2.1 := rfl
theorem hr_114 {l : Launch} {dC : Nat → ClassId} {dI : Nat → Nat → Nat} {aC : Nat → ClassId} {H0 : Heap} {G : jx_Gv} : (jz_m (jZ l dC dI aC H0 G) 114).2.2.2 = (some .int) := rfl
theorem hd_115 {l : Launch} {dC : Nat → ClassId} {dI : Nat → Nat → Nat} {aC : Nat → ClassId} {H0 : Heap} {G : jx_Gv} : jz_d (jZ l dC dI aC H0 G) 115 = (4, 93) := rfl
theorem hy_115 {l : Launch} {dC : Nat → ClassId} {dI : Nat → Nat → Nat} {aC : Nat → ClassId} {H0 : Heap} {G : jx_Gv} : (jz_m (jZ l dC dI aC H0 G) 115).1 = ({ cls := "PartText", name := "port", desc := "(III)I" } : Jvm.MethodName) := rfl
theorem hl_115 {l : Launch} {dC : Nat → ClassId} {dI : Nat → Nat → Nat} {aC : Nat → ClassId} {H0 : Heap} {G : jx_Gv} : (jz_m (jZ l dC dI aC H0 G) 115).2.2.1 = 6 := rfl
theorem hnl_115 {l : Launch} {dC : Nat → ClassId} {dI : Nat → Nat → Nat} {aC : Nat → ClassId} {H0 : Heap} {G : jx_Gv} : jNl 115 = (jz_m (jZ l dC dI aC H0 G) 115).2.2.1 := rfl
theorem hr_115 {l : Launch} {dC : Nat → ClassId} {dI : Nat → Nat → Nat} {aC : Nat → ClassId} {H0 : Heap} {G : jx_Gv} : (jz_m (jZ l dC dI aC H0 G) 115).2.2.2 = (some .int) := rfl
theorem hd_116 {l : Launch} {dC : Nat → ClassId} {dI : Nat → Nat → Nat} {aC : Nat → ClassId} {H0 : Heap} {G : jx_Gv} : jz_d (jZ l dC dI aC H0 G) 116 = (2, 43) := rfl
theorem hy_116 {l : Launch} {dC : Nat → ClassId} {dI : Nat → Nat → Nat} {aC : Nat → ClassId} {H0 : Heap} {G : jx_Gv} : (jz_m (jZ l dC dI aC H0 G) 116).1 = ({ cls := "PartTextModel", name := "means", desc := "(III)I" } : Jvm.MethodName) := rfl
theorem hl_116 {l : Launch} {dC : Nat → ClassId} {dI : Nat → Nat → Nat} {aC : Nat → ClassId} {H0 : Heap} {G : jx_Gv} : (jz_m (jZ l dC dI aC H0 G) 116).2.2.1 = 5 := rfl
theorem hnl_116 {l : Launch} {dC : Nat → ClassId} {dI : Nat → Nat → Nat} {aC : Nat → ClassId} {H0 : Heap} {G : jx_Gv} : jNl 116 = (jz_m (jZ l dC dI aC H0 G) 116).2.2.1 := rfl
theorem hr_116 {l : Launch} {dC : Nat → ClassId} {dI : Nat → Nat → Nat} {aC : Nat → ClassId} {H0 : Heap} {G : jx_Gv} : (jz_m (jZ l dC dI aC H0 G) 116).2.2.2 = (some .int) := rfl
theorem hd_117 {l : Launch} {dC : Nat → ClassId} {dI : Nat → Nat → Nat} {aC : Nat → ClassId} {H0 : Heap} {G : jx_Gv} : jz_d (jZ l dC dI aC H0 G) 117 = (3, 67) := rfl
theorem hy_117 {l : Launch} {dC : Nat → ClassId} {dI : Nat → Nat → Nat} {aC : Nat → ClassId} {H0 : Heap} {G : jx_Gv} : (jz_m (jZ l dC dI aC H0 G) 117).1 = ({ cls := "PartTextModel", name := "interfaceOf", desc := "(I)I" } : Jvm.MethodName) := rfl
theorem hl_117 {l : Launch} {dC : Nat → ClassId} {dI : Nat → Nat → Nat} {aC : Nat → ClassId} {H0 : Heap} {G : jx_Gv} : (jz_m (jZ l dC dI aC H0 G) 117).2.2.1 = 2 := rfl
theorem hnl_117 {l : Launch} {dC : Nat → ClassId} {dI : Nat → Nat → Nat} {aC : Nat → ClassId} {H0 : Heap} {G : jx_Gv} : jNl 117 = (jz_m (jZ l dC dI aC H0 G) 117).2.2.1 := rfl
theorem hr_117 {l : Launch} {dC : Nat → ClassId} {dI : Nat → Nat → Nat} {aC : Nat → ClassId} {H0 : Heap} {G : jx_Gv} : (jz_m (jZ l dC dI aC H0 G) 117).2.2.2 = (some .int) := rfl
theorem hd_118 {l : Launch} {dC : Nat → ClassId} {dI : Nat → Nat → Nat} {aC : Nat → ClassId} {H0 : Heap} {G : jx_Gv} : jz_d (jZ l dC dI aC H0 G) 118 = (2, 43) := rfl
theorem hy_118 {l : Launch} {dC : Nat → ClassId} {dI : Nat → Nat → Nat} {aC : Nat → ClassId} {H0 : Heap} {G : jx_Gv} : (jz_m (jZ l dC dI aC H0 G) 118).1 = ({ cls := "PartTextModel", name := "index", desc := "(II)I" } : Jvm.MethodName) := rfl
theorem hl_118 {l : Launch} {dC : Nat → ClassId} {dI : Nat → Nat → Nat} {aC : Nat → ClassId} {H0 : Heap} {G : jx_Gv} : (jz_m (jZ l dC dI aC H0 G) 118).2.2.1 = 5 := rfl
theorem hnl_118 {l : Launch} {dC : Nat → ClassId} {dI : Nat → Nat → Nat} {aC : Nat → ClassId} {H0 : Heap} {G : jx_Gv} : jNl 118 = (jz_m (jZ l dC dI aC H0 G) 118).2.2.1 := rfl
theorem hr_118 {l : Launch} {dC : Nat → ClassId} {dI : Nat → Nat → Nat} {aC : Nat → ClassId} {H0 : Heap} {G : jx_Gv} : (jz_m (jZ l dC dI aC H0 G) 118).2.2.2 = (some .int) := rfl
theorem hd_119 {l : Launch} {dC : Nat → ClassId} {dI : Nat → Nat → Nat} {aC : Nat → ClassId} {H0 : Heap} {G : jx_Gv} : jz_d (jZ l dC dI aC H0 G) 119 = (4, 88) := rfl
theorem hy_119 {l : Launch} {dC : Nat → ClassId} {dI : Nat → Nat → Nat} {aC : Nat → ClassId} {H0 : Heap} {G : jx_Gv} : (jz_m (jZ l dC dI aC H0 G) 119).1 = ({ cls := "PartTextModel", name := "port", desc := "(III)I" } : Jvm.MethodName) := rfl
theorem hl_119 {l : Launch} {dC : Nat → ClassId} {dI : Nat → Nat → Nat} {aC : Nat → ClassId} {H0 : Heap} {G : jx_Gv} : (jz_m (jZ l dC dI aC H0 G) 119).2.2.1 = 6 := rfl
theorem hnl_119 {l : Launch} {dC : Nat → ClassId} {dI : Nat → Nat → Nat} {aC : Nat → ClassId} {H0 : Heap} {G : jx_Gv} : jNl 119 = (jz_m (jZ l dC dI aC H0 G) 119).2.2.1 := rfl
theorem hr_119 {l : Launch} {dC : Nat → ClassId} {dI : Nat → Nat → Nat} {aC : Nat → ClassId} {H0 : Heap} {G : jx_Gv} : (jz_m (jZ l dC dI aC H0 G) 119).2.2.2 = (some .int) := rfl
theorem hd_120 {l : Launch} {dC : Nat → ClassId} {dI : Nat → Nat → Nat} {aC : Nat → ClassId} {H0 : Heap} {G : jx_Gv} : jz_d (jZ l dC dI aC H0 G) 120 = (0, 0) := rfl
theorem hy_120 {l : Launch} {dC : Nat → ClassId} {dI : Nat → Nat → Nat} {aC : Nat → ClassId} {H0 : Heap} {G : jx_Gv} : (jz_m (jZ l dC dI aC H0 G) 120).1 = ({ cls := "PartText$Edition", name := "sort", desc := "(II)I" } : Jvm.MethodName) := rfl
theorem hl_120 {l : Launch} {dC : Nat → ClassId} {dI : Nat → Nat → Nat} {aC : Nat → ClassId} {H0 : Heap} {G : jx_Gv} : (jz_m (jZ l dC dI aC H0 G) 120).2.2.1 = 3 := rfl
theorem hnl_120 {l : Launch} {dC : Nat → ClassId} {dI : Nat → Nat → Nat} {aC : Nat → ClassId} {H0 : Heap} {G : jx_Gv} : jNl 120 = (jz_m (jZ l dC dI aC H0 G) 120).2.2.1 := rfl
theorem hr_120 {l : Launch} {dC : Nat → ClassId} {dI : Nat → Nat → Nat} {aC : Nat → ClassId} {H0 : Heap} {G : jx_Gv} : (jz_m (jZ l dC dI aC H0 G) 120).2.2.2 = (some .int) := rfl
theorem hd_121 {l : Launch} {dC : Nat → ClassId} {dI : Nat → Nat → Nat} {aC : Nat → ClassId} {H0 : Heap} {G : jx_Gv} : jz_d (jZ l dC dI aC H0 G) 121 = (1, 22) := rfl
theorem hy_121 {l : Launch} {dC : Nat → ClassId} {dI : Nat → Nat → Nat} {aC : Nat → ClassId} {H0 : Heap} {G : jx_Gv} : (jz_m (jZ l dC dI aC H0 G) 121).1 = ({ cls := "PartText$Edition", name := "word", desc := "(II)I" } : Jvm.MethodName) := rfl
theorem hl_121 {l : Launch} {dC : Nat → ClassId} {dI : Nat → Nat → Nat} {aC : Nat → ClassId} {H0 : Heap} {G : jx_Gv} : (jz_m (jZ l dC dI aC H0 G) 121).2.2.1 = 3 := rfl
theorem hnl_121 {l : Launch} {dC : Nat → ClassId} {dI : Nat → Nat → Nat} {aC : Nat → ClassId} {H0 : Heap} {G : jx_Gv} : jNl 121 = (jz_m (jZ l dC dI aC H0 G) 121).2.2.1 := rfl
theorem hr_121 {l : Launch} {dC : Nat → ClassId} {dI : Nat → Nat → Nat} {aC : Nat → ClassId} {H0 : Heap} {G : jx_Gv} : (jz_m (jZ l dC dI aC H0 G) 121).2.2.2 = (some .int) := rfl
theorem hd_122 {l : Launch} {dC : Nat → ClassId} {dI : Nat → Nat → Nat} {aC : Nat → ClassId} {H0 : Heap} {G : jx_Gv} : jz_d (jZ l dC dI aC H0 G) 122 = (0, 0) := rfl
theorem hy_122 {l : Launch} {dC : Nat → ClassId} {dI : Nat → Nat → Nat} {aC : Nat → ClassId} {H0 : Heap} {G : jx_Gv} : (jz_m (jZ l dC dI aC H0 G) 122).1 = ({ cls := "PartText$Edition", name := "block", desc := "(I)I" } : Jvm.MethodName) := rfl
theorem hl_122 {l : Launch} {dC : Nat → ClassId} {dI : Nat → Nat → Nat} {aC : Nat → ClassId} {H0 : Heap} {G : jx_Gv} : (jz_m (jZ l dC dI aC H0 G) 122).2.2.1 = 2 := rfl
theorem hnl_122 {l : Launch} {dC : Nat → ClassId} {dI : Nat → Nat → Nat} {aC : Nat → ClassId} {H0 : Heap} {G : jx_Gv} : jNl 122 = (jz_m (jZ l dC dI aC H0 G) 122).2.2.1 := rfl
theorem hr_122 {l : Launch} {dC : Nat → ClassId} {dI : Nat → Nat → Nat} {aC : Nat → ClassId} {H0 : Heap} {G : jx_Gv} : (jz_m (jZ l dC dI aC H0 G) 122).2.2.2 = (some .int) := rfl
theorem hd_123 {l : Launch} {dC : Nat → ClassId} {dI : Nat → Nat → Nat} {aC : Nat → ClassId} {H0 : Heap} {G : jx_Gv} : jz_d (jZ l dC dI aC H0 G) 123 = (2, 47) := rfl
theorem hy_123 {l : Launch} {dC : Nat → ClassId} {dI : Nat → Nat → Nat} {aC : Nat → ClassId} {H0 : Heap} {G : jx_Gv} : (jz_m (jZ l dC dI aC H0 G) 123).1 = ({ cls := "PartText$Edition", name := "usedPort", desc := "(II)I" } : Jvm.MethodName) := rfl
theorem hl_123 {l : Launch} {dC : Nat → ClassId} {dI : Nat → Nat → Nat} {aC : Nat → ClassId} {H0 : Heap} {G : jx_Gv} : (jz_m (jZ l dC dI aC H0 G) 123).2.2.1 = 3 := rfl
theorem hnl_123 {l : Launch} {dC : Nat → ClassId} {dI : Nat → Nat → Nat} {aC : Nat → ClassId} {H0 : Heap} {G : jx_Gv} : jNl 123 = (jz_m (jZ l dC dI aC H0 G) 123).2.2.1 := rfl
theorem hr_123 {l : Launch} {dC : Nat → ClassId} {dI : Nat → Nat → Nat} {aC : Nat → ClassId} {H0 : Heap} {G : jx_Gv} : (jz_m (jZ l dC dI aC H0 G) 123).2.2.2 = (some .int) := rfl
theorem hd_124 {l : Launch} {dC : Nat → ClassId} {dI : Nat → Nat → Nat} {aC : Nat → ClassId} {H0 : Heap} {G : jx_Gv} : jz_d (jZ l dC dI aC H0 G) 124 = (3, 71) := rfl
theorem hy_124 {l : Launch} {dC : Nat → ClassId} {dI : Nat → Nat → Nat} {aC : Nat → ClassId} {H0 : Heap} {G : jx_Gv} : (jz_m (jZ l dC dI aC H0 G) 124).1 = ({ cls := "PartText", name := "triggerPort", desc := "(LPartText$Edition;I)I" } : Jvm.MethodName) := rfl
theorem hl_124 {l : Launch} {dC : Nat → ClassId} {dI : Nat → Nat → Nat} {aC : Nat → ClassId} {H0 : Heap} {G : jx_Gv} : (jz_m (jZ l dC dI aC H0 G) 124).2.2.1 = 2 := rfl
theorem hnl_124 {l : Launch} {dC : Nat → ClassId} {dI : Nat → Nat → Nat} {aC : Nat → ClassId} {H0 : Heap} {G : jx_Gv} : jNl 124 = (jz_m (jZ l dC dI aC H0 G) 124).2.2.1 := rfl
theorem hr_124 {l : Launch} {dC : Nat → ClassId} {dI : Nat → Nat → Nat} {aC : Nat → ClassId} {H0 : Heap} {G : jx_Gv} : (jz_m (jZ l dC dI aC H0 G) 124).2.2.2 = (some .int) := rfl
theorem hd_125 {l : Launch} {dC : Nat → ClassId} {dI : Nat → Nat → Nat} {aC : Nat → ClassId} {H0 : Heap} {G : jx_Gv} : jz_d (jZ l dC dI aC H0 G) 125 = (0, 0) := rfl
theorem hy_125 {l : Launch} {dC : Nat → ClassId} {dI : Nat → Nat → Nat} {aC : Nat → ClassId} {H0 : Heap} {G : jx_Gv} : (jz_m (jZ l dC dI aC H0 G) 125).1 = ({ cls := "PartText$Edition", name := "length", desc := "(I)I" } : Jvm.MethodName) := rfl
theorem hl_125 {l : Launch} {dC : Nat → ClassId} {dI : Nat → Nat → Nat} {aC : Nat → ClassId} {H0 : Heap} {G : jx_Gv} : (jz_m (jZ l dC dI aC H0 G) 125).2.2.1 = 2 := rfl
theorem hnl_125 {l : Launch} {dC : Nat → ClassId} {dI : Nat → Nat → Nat} {aC : Nat → ClassId} {H0 : Heap} {G : jx_Gv} : jNl 125 = (jz_m (jZ l dC dI aC H0 G) 125).2.2.1 := rfl
theorem hr_125 {l : Launch} {dC : Nat → ClassId} {dI : Nat → Nat → Nat} {aC : Nat → ClassId} {H0 : Heap} {G : jx_Gv} : (jz_m (jZ l dC dI aC H0 G) 125).2.2.2 = (some .int) := rfl
theorem hd_126 {l : Launch} {dC : Nat → ClassId} {dI : Nat → Nat → Nat} {aC : Nat → ClassId} {H0 : Heap} {G : jx_Gv} : jz_d (jZ l dC dI aC H0 G) 126 = (2, 44) := rfl
theorem hy_126 {l : Launch} {dC : Nat → ClassId} {dI : Nat → Nat → Nat} {aC : Nat → ClassId} {H0 : Heap} {G : jx_Gv} : (jz_m (jZ l dC dI aC H0 G) 126).1 = ({ cls := "PartText$Edition", name := "countWord", desc := "(II)I" } : Jvm.MethodName) := rfl
theorem hl_126 {l : Launch} {dC : Nat → ClassId} {dI : Nat → Nat → Nat} {aC : Nat → ClassId} {H0 : Heap} {G : jx_Gv} : (jz_m (jZ l dC dI aC H0 G) 126).2.2.1 = 5 := rfl
theorem hnl_126 {l : Launch} {dC : Nat → ClassId} {dI : Nat → Nat → Nat} {aC : Nat → ClassId} {H0 : Heap} {G : jx_Gv} : jNl 126 = (jz_m (jZ l dC dI aC H0 G) 126).2.2.1 := rfl
theorem hr_126 {l : Launch} {dC : Nat → ClassId} {dI : Nat → Nat → Nat} {aC : Nat → ClassId} {H0 : Heap} {G : jx_Gv} : (jz_m (jZ l dC dI aC H0 G) 126).2.2.2 = (some .int) := rfl
theorem hd_127 {l : Launch} {dC : Nat → ClassId} {dI : Nat → Nat → Nat} {aC : Nat → ClassId} {H0 : Heap} {G : jx_Gv} : jz_d (jZ l dC dI aC H0 G) 127 = (4, 93) := rfl
theorem hy_127 {l : Launch} {dC : Nat → ClassId} {dI : Nat → Nat → Nat} {aC : Nat → ClassId} {H0 : Heap} {G : jx_Gv} : (jz_m (jZ l dC dI aC H0 G) 127).1 = ({ cls := "PartText", name := "runnable", desc := "(III)I" } : Jvm.MethodName) := rfl
theorem hl_127 {l : Launch} {dC : Nat → ClassId} {dI : Nat → Nat → Nat} {aC : Nat → ClassId} {H0 : Heap} {G : jx_Gv} : (jz_m (jZ l dC dI aC H0 G) 127).2.2.1 = 6 := rfl
theorem hnl_127 {l : Launch} {dC : Nat → ClassId} {dI : Nat → Nat → Nat} {aC : Nat → ClassId} {H0 : Heap} {G : jx_Gv} : jNl 127 = (jz_m (jZ l dC dI aC H0 G) 127).2.2.1 := rfl
theorem hr_127 {l : Launch} {dC : Nat → ClassId} {dI : Nat → Nat → Nat} {aC : Nat → ClassId} {H0 : Heap} {G : jx_Gv} : (jz_m (jZ l dC dI aC H0 G) 127).2.2.2 = (some .int) := rfl
theorem hd_128 {l : Launch} {dC : Nat → ClassId} {dI : Nat → Nat → Nat} {aC : Nat → ClassId} {H0 : Heap} {G : jx_Gv} : jz_d (jZ l dC dI aC H0 G) 128 = (3, 67) := rfl
theorem hy_128 {l : Launch} {dC : Nat → ClassId} {dI : Nat → Nat → Nat} {aC : Nat → ClassId} {H0 : Heap} {G : jx_Gv} : (jz_m (jZ l dC dI aC H0 G) 128).1 = ({ cls := "PartTextModel", name := "portIn", desc := "(II)I" } : Jvm.MethodName) := rfl
theorem hl_128 {l : Launch} {dC : Nat → ClassId} {dI : Nat → Nat → Nat} {aC : Nat → ClassId} {H0 : Heap} {G : jx_Gv} : (jz_m (jZ l dC dI aC H0 G) 128).2.2.1 = 3 := rfl
theorem hnl_128 {l : Launch} {dC : Nat → ClassId} {dI : Nat → Nat → Nat} {aC : Nat → ClassId} {H0 : Heap} {G : jx_Gv} : jNl 128 = (jz_m (jZ l dC dI aC H0 G) 128).2.2.1 := rfl
theorem hr_128 {l : Launch} {dC : Nat → ClassId} {dI : Nat → Nat → Nat} {aC : Nat → ClassId} {H0 : Heap} {G : jx_Gv} : (jz_m (jZ l dC dI aC H0 G) 128).2.2.2 = (some .int) := rfl
theorem hd_129 {l : Launch} {dC : Nat → ClassId} {dI : Nat → Nat → Nat} {aC : Nat → ClassId} {H0 : Heap} {G : jx_Gv} : jz_d (jZ l dC dI aC H0 G) 129 = (0, 0) := rfl
theorem hy_129 {l : Launch} {dC : Nat → ClassId} {dI : Nat → Nat → Nat} {aC : Nat → ClassId} {H0 : Heap} {G : jx_Gv} : (jz_m (jZ l dC dI aC H0 G) 129).1 = ({ cls := "PartTextModel", name := "accessesOf", desc := "(II)I" } : Jvm.MethodName) := rfl
theorem hl_129 {l : Launch} {dC : Nat → ClassId} {dI : Nat → Nat → Nat} {aC : Nat → ClassId} {H0 : Heap} {G : jx_Gv} : (jz_m (jZ l dC dI aC H0 G) 129).2.2.1 = 5 := rfl
theorem hnl_129 {l : Launch} {dC : Nat → ClassId} {dI : Nat → Nat → Nat} {aC : Nat → ClassId} {H0 : Heap} {G : jx_Gv} : jNl 129 = (jz_m (jZ l dC dI aC H0 G) 129).2.2.1 := rfl
theorem hr_129 {l : Launch} {dC : Nat → ClassId} {dI : Nat → Nat → Nat} {aC : Nat → ClassId} {H0 : Heap} {G : jx_Gv} : (jz_m (jZ l dC dI aC H0 G) 129).2.2.2 = (some .int) := rfl
theorem hd_130 {l : Launch} {dC : Nat → ClassId} {dI : Nat → Nat → Nat} {aC : Nat → ClassId} {H0 : Heap} {G : jx_Gv} : jz_d (jZ l dC dI aC H0 G) 130 = (4, 89) := rfl
theorem hy_130 {l : Launch} {dC : Nat → ClassId} {dI : Nat → Nat → Nat} {aC : Nat → ClassId} {H0 : Heap} {G : jx_Gv} : (jz_m (jZ l dC dI aC H0 G) 130).1 = ({ cls := "PartTextModel", name := "runnable", desc := "(III)I" } : Jvm.MethodName) := rfl
theorem hl_130 {l : Launch} {dC : Nat → ClassId} {dI : Nat → Nat → Nat} {aC : Nat → ClassId} {H0 : Heap} {G : jx_Gv} : (jz_m (jZ l dC dI aC H0 G) 130).2.2.1 = 6 := rfl
theorem hnl_130 {l : Launch} {dC : Nat → ClassId} {dI : Nat → Nat → Nat} {aC : Nat → ClassId} {H0 : Heap} {G : jx_Gv} : jNl 130 = (jz_m (jZ l dC dI aC H0 G) 130).2.2.1 := rfl
theorem hr_130 {l : Launch} {dC : Nat → ClassId} {dI : Nat → Nat → Nat} {aC : Nat → ClassId} {H0 : Heap} {G : jx_Gv} : (jz_m (jZ l dC dI aC H0 G) 130).2.2.2 = (some .int) := rfl
theorem hd_131 {l : Launch} {dC : Nat → ClassId} {dI : Nat → Nat → Nat} {aC : Nat → ClassId} {H0 : Heap} {G : jx_Gv} : jz_d (jZ l dC dI aC H0 G) 131 = (2, 47) := rfl
theorem hy_131 {l : Launch} {dC : Nat → ClassId} {dI : Nat → Nat → Nat} {aC : Nat → ClassId} {H0 : Heap} {G : jx_Gv} : (jz_m (jZ l dC dI aC H0 G) 131).1 = ({ cls := "PartText$Edition", name := "inner", desc := "(II)I" } : Jvm.MethodName) := rfl
theorem hl_131 {l : Launch} {dC : Nat → ClassId} {dI : Nat → Nat → Nat} {aC : Nat → ClassId} {H0 : Heap} {G : jx_Gv} : (jz_m (jZ l dC dI aC H0 G) 131).2.2.1 = 3 := rfl
theorem hnl_131 {l : Launch} {dC : Nat → ClassId} {dI : Nat → Nat → Nat} {aC : Nat → ClassId} {H0 : Heap} {G : jx_Gv} : jNl 131 = (jz_m (jZ l dC dI aC H0 G) 131).2.2.1 := rfl
theorem hr_131 {l : Launch} {dC : Nat → ClassId} {dI : Nat → Nat → Nat} {aC : Nat → ClassId} {H0 : Heap} {G : jx_Gv} : (jz_m (jZ l dC dI aC H0 G) 131).2.2.2 = (some .int) := rfl
theorem hd_132 {l : Launch} {dC : Nat → ClassId} {dI : Nat → Nat → Nat} {aC : Nat → ClassId} {H0 : Heap} {G : jx_Gv} : jz_d (jZ l dC dI aC H0 G) 132 = (3, 71) := rfl
theorem hy_132 {l : Launch} {dC : Nat → ClassId} {dI : Nat → Nat → Nat} {aC : Nat → ClassId} {H0 : Heap} {G : jx_Gv} : (jz_m (jZ l dC dI aC H0 G) 132).1 = ({ cls := "PartText", name := "innerNumber", desc := "(LPartText$Edition;II)I" } : Jvm.MethodName) := rfl
theorem hl_132 {l : Launch} {dC : Nat → ClassId} {dI : Nat → Nat → Nat} {aC : Nat → ClassId} {H0 : Heap} {G : jx_Gv} : (jz_m (jZ l dC dI aC H0 G) 132).2.2.1 = 3 := rfl
theorem hnl_132 {l : Launch} {dC : Nat → ClassId} {dI : Nat → Nat → Nat} {aC : Nat → ClassId} {H0 : Heap} {G : jx_Gv} : jNl 132 = (jz_m (jZ l dC dI aC H0 G) 132).2.2.1 := rfl
theorem hr_132 {l : Launch} {dC : Nat → ClassId} {dI : Nat → Nat → Nat} {aC : Nat → ClassId} {H0 : Heap} {G : jx_Gv} : (jz_m (jZ l dC dI aC H0 G) 132).2.2.2 = (some .int) := rfl
theorem hd_133 {l : Launch} {dC : Nat → ClassId} {dI : Nat → Nat → Nat} {aC : Nat → ClassId} {H0 : Heap} {G : jx_Gv} : jz_d (jZ l dC dI aC H0 G) 133 = (2, 47) := rfl
theorem hy_133 {l : Launch} {dC : Nat → ClassId} {dI : Nat → Nat → Nat} {aC : Nat → ClassId} {H0 : Heap} {G : jx_Gv} : (jz_m (jZ l dC dI aC H0 G) 133).1 = ({ cls := "PartText$Edition", name := "innerPort", desc := "(III)I" } : Jvm.MethodName) := rfl
theorem hl_133 {l : Launch} {dC : Nat → ClassId} {dI : Nat → Nat → Nat} {aC : Nat → ClassId} {H0 : Heap} {G : jx_Gv} : (jz_m (jZ l dC dI aC H0 G) 133).2.2.1 = 4 := rfl
theorem hnl_133 {l : Launch} {dC : Nat → ClassId} {dI : Nat → Nat → Nat} {aC : Nat → ClassId} {H0 : Heap} {G : jx_Gv} : jNl 133 = (jz_m (jZ l dC dI aC H0 G) 133).2.2.1 := rfl
theorem hr_133 {l : Launch} {dC : Nat → ClassId} {dI : Nat → Nat → Nat} {aC : Nat → ClassId} {H0 : Heap} {G : jx_Gv} : (jz_m (jZ l dC dI aC H0 G) 133).2.2.2 = (some .int) := rfl
theorem hd_134 {l : Launch} {dC : Nat → ClassId} {dI : Nat → Nat → Nat} {aC : Nat → ClassId} {H0 : Heap} {G : jx_Gv} : jz_d (jZ l dC dI aC H0 G) 134 = (3, 71) := rfl
theorem hy_134 {l : Launch} {dC : Nat → ClassId} {dI : Nat → Nat → Nat} {aC : Nat → ClassId} {H0 : Heap} {G : jx_Gv} : (jz_m (jZ l dC dI aC H0 G) 134).1 = ({ cls := "PartText", name := "innerPortNumber", desc := "(LPartText$Edition;II)I" } : Jvm.MethodName) := rfl
theorem hl_134 {l : Launch} {dC : Nat → ClassId} {dI : Nat → Nat → Nat} {aC : Nat → ClassId} {H0 : Heap} {G : jx_Gv} : (jz_m (jZ l dC dI aC H0 G) 134).2.2.1 = 4 := rfl
theorem hnl_134 {l : Launch} {dC : Nat → ClassId} {dI : Nat → Nat → Nat} {aC : Nat → ClassId} {H0 : Heap} {G : jx_Gv} : jNl 134 = (jz_m (jZ l dC dI aC H0 G) 134).2.2.1 := rfl
theorem hr_134 {l : Launch} {dC : Nat → ClassId} {dI : Nat → Nat → Nat} {aC : Nat → ClassId} {H0 : Heap} {G : jx_Gv} : (jz_m (jZ l dC dI aC H0 G) 134).2.2.2 = (some .int) := rfl
theorem hd_135 {l : Launch} {dC : Nat → ClassId} {dI : Nat → Nat → Nat} {aC : Nat → ClassId} {H0 : Heap} {G : jx_Gv} : jz_d (jZ l dC dI aC H0 G) 135 = (4, 94) := rfl
theorem hy_135 {l : Launch} {dC : Nat → ClassId} {dI : Nat → Nat → Nat} {aC : Nat → ClassId} {H0 : Heap} {G : jx_Gv} : (jz_m (jZ l dC dI aC H0 G) 135).1 = ({ cls := "PartText", name := "connector", desc := "(II)I" } : Jvm.MethodName) := rfl
theorem hl_135 {l : Launch} {dC : Nat → ClassId} {dI : Nat → Nat → Nat} {aC : Nat → ClassId} {H0 : Heap} {G : jx_Gv} : (jz_m (jZ l dC dI aC H0 G) 135).2.2.1 = 5 := rfl
theorem hnl_135 {l : Launch} {dC : Nat → ClassId} {dI : Nat → Nat → Nat} {aC : Nat → ClassId} {H0 : Heap} {G : jx_Gv} : jNl 135 = (jz_m (jZ l dC dI aC H0 G) 135).2.2.1 := rfl
theorem hr_135 {l : Launch} {dC : Nat → ClassId} {dI : Nat → Nat → Nat} {aC : Nat → ClassId} {H0 : Heap} {G : jx_Gv} : (jz_m (jZ l dC dI aC H0 G) 135).2.2.2 = (some .int) := rfl
theorem hd_136 {l : Launch} {dC : Nat → ClassId} {dI : Nat → Nat → Nat} {aC : Nat → ClassId} {H0 : Heap} {G : jx_Gv} : jz_d (jZ l dC dI aC H0 G) 136 = (3, 67) := rfl
theorem hy_136 {l : Launch} {dC : Nat → ClassId} {dI : Nat → Nat → Nat} {aC : Nat → ClassId} {H0 : Heap} {G : jx_Gv} : (jz_m (jZ l dC dI aC H0 G) 136).1 = ({ cls := "PartTextModel", name := "partsOf", desc := "(I)I" } : Jvm.MethodName) := rfl
theorem hl_136 {l : Launch} {dC : Nat → ClassId} {dI : Nat → Nat → Nat} {aC : Nat → ClassId} {H0 : Heap} {G : jx_Gv} : (jz_m (jZ l dC dI aC H0 G) 136).2.2.1 = 2 := rfl
theorem hnl_136 {l : Launch} {dC : Nat → ClassId} {dI : Nat → Nat → Nat} {aC : Nat → ClassId} {H0 : Heap} {G : jx_Gv} : jNl 136 = (jz_m (jZ l dC dI aC H0 G) 136).2.2.1 := rfl
theorem hr_136 {l : Launch} {dC : Nat → ClassId} {dI : Nat → Nat → Nat} {aC : Nat → ClassId} {H0 : Heap} {G : jx_Gv} : (jz_m (jZ l dC dI aC H0 G) 136).2.2.2 = (some .int) := rfl
theorem hd_137 {l : Launch} {dC : Nat → ClassId} {dI : Nat → Nat → Nat} {aC : Nat → ClassId} {H0 : Heap} {G : jx_Gv} : jz_d (jZ l dC dI aC H0 G) 137 = (4, 89) := rfl
theorem hy_137 {l : Launch} {dC : Nat → ClassId} {dI : Nat → Nat → Nat} {aC : Nat → ClassId} {H0 : Heap} {G : jx_Gv} : (jz_m (jZ l dC dI aC H0 G) 137).1 = ({ cls := "PartTextModel", name := "connector", desc := "(II)I" } : Jvm.MethodName) := rfl
theorem hl_137 {l : Launch} {dC : Nat → ClassId} {dI : Nat → Nat → Nat} {aC : Nat → ClassId} {H0 : Heap} {G : jx_Gv} : (jz_m (jZ l dC dI aC H0 G) 137).2.2.1 = 6 := rfl
theorem hnl_137 {l : Launch} {dC : Nat → ClassId} {dI : Nat → Nat → Nat} {aC : Nat → ClassId} {H0 : Heap} {G : jx_Gv} : jNl 137 = (jz_m (jZ l dC dI aC H0 G) 137).2.2.1 := rfl
theorem hr_137 {l : Launch} {dC : Nat → ClassId} {dI : Nat → Nat → Nat} {aC : Nat → ClassId} {H0 : Heap} {G : jx_Gv} : (jz_m (jZ l dC dI aC H0 G) 137).2.2.2 = (some .int) := rfl
theorem hd_138 {l : Launch} {dC : Nat → ClassId} {dI : Nat → Nat → Nat} {aC : Nat → ClassId} {H0 : Heap} {G : jx_Gv} : jz_d (jZ l dC dI aC H0 G) 138 = (2, 47) := rfl
theorem hy_138 {l : Launch} {dC : Nat → ClassId} {dI : Nat → Nat → Nat} {aC : Nat → ClassId} {H0 : Heap} {G : jx_Gv} : (jz_m (jZ l dC dI aC H0 G) 138).1 = ({ cls := "PartText$Rules", name := "isGivenBefore", desc := "(LPartText$Edition;I)Z" } : Jvm.MethodName) := rfl
theorem hl_138 {l : Launch} {dC : Nat → ClassId} {dI : Nat → Nat → Nat} {aC : Nat → ClassId} {H0 : Heap} {G : jx_Gv} : (jz_m (jZ l dC dI aC H0 G) 138).2.2.1 = 4 := rfl
theorem hnl_138 {l : Launch} {dC : Nat → ClassId} {dI : Nat → Nat → Nat} {aC : Nat → ClassId} {H0 : Heap} {G : jx_Gv} : jNl 138 = (jz_m (jZ l dC dI aC H0 G) 138).2.2.1 := rfl
theorem hr_138 {l : Launch} {dC : Nat → ClassId} {dI : Nat → Nat → Nat} {aC : Nat → ClassId} {H0 : Heap} {G : jx_Gv} : (jz_m (jZ l dC dI aC H0 G) 138).2.2.2 = (some .boolean) := rfl
theorem hd_139 {l : Launch} {dC : Nat → ClassId} {dI : Nat → Nat → Nat} {aC : Nat → ClassId} {H0 : Heap} {G : jx_Gv} : jz_d (jZ l dC dI aC H0 G) 139 = (1, 22) := rfl
theorem hy_139 {l : Launch} {dC : Nat → ClassId} {dI : Nat → Nat → Nat} {aC : Nat → ClassId} {H0 : Heap} {G : jx_Gv} : (jz_m (jZ l dC dI aC H0 G) 139).1 = ({ cls := "PartText$Rules", name := "ruleOfType", desc := "(LPartText$Edition;I)I" } : Jvm.MethodName) := rfl
theorem hl_139 {l : Launch} {dC : Nat → ClassId} {dI : Nat → Nat → Nat} {aC : Nat → ClassId} {H0 : Heap} {G : jx_Gv} : (jz_m (jZ l dC dI aC H0 G) 139).2.2.1 = 2 := rfl
theorem hnl_139 {l : Launch} {dC : Nat → ClassId} {dI : Nat → Nat → Nat} {aC : Nat → ClassId} {H0 : Heap} {G : jx_Gv} : jNl 139 = (jz_m (jZ l dC dI aC H0 G) 139).2.2.1 := rfl
theorem hr_139 {l : Launch} {dC : Nat → ClassId} {dI : Nat → Nat → Nat} {aC : Nat → ClassId} {H0 : Heap} {G : jx_Gv} : (jz_m (jZ l dC dI aC H0 G) 139).2.2.2 = (some .int) := rfl
theorem hd_140 {l : Launch} {dC : Nat → ClassId} {dI : Nat → Nat → Nat} {aC : Nat → ClassId} {H0 : Heap} {G : jx_Gv} : jz_d (jZ l dC dI aC H0 G) 140 = (2, 47) := rfl
theorem hy_140 {l : Launch} {dC : Nat → ClassId} {dI : Nat → Nat → Nat} {aC : Nat → ClassId} {H0 : Heap} {G : jx_Gv} : (jz_m (jZ l dC dI aC H0 G) 140).1 = ({ cls := "PartText$Rules", name := "isMissingDatum", desc := "(LPartText$Edition;II)Z" } : Jvm.MethodName) := rfl
theorem hl_140 {l : Launch} {dC : Nat → ClassId} {dI : Nat → Nat → Nat} {aC : Nat → ClassId} {H0 : Heap} {G : jx_Gv} : (jz_m (jZ l dC dI aC H0 G) 140).2.2.1 = 4 := rfl
theorem hnl_140 {l : Launch} {dC : Nat → ClassId} {dI : Nat → Nat → Nat} {aC : Nat → ClassId} {H0 : Heap} {G : jx_Gv} : jNl 140 = (jz_m (jZ l dC dI aC H0 G) 140).2.2.1 := rfl
theorem hr_140 {l : Launch} {dC : Nat → ClassId} {dI : Nat → Nat → Nat} {aC : Nat → ClassId} {H0 : Heap} {G : jx_Gv} : (jz_m (jZ l dC dI aC H0 G) 140).2.2.2 = (some .boolean) := rfl
theorem hd_141 {l : Launch} {dC : Nat → ClassId} {dI : Nat → Nat → Nat} {aC : Nat → ClassId} {H0 : Heap} {G : jx_Gv} : jz_d (jZ l dC dI aC H0 G) 141 = (3, 70) := rfl
theorem hy_141 {l : Launch} {dC : Nat → ClassId} {dI : Nat → Nat → Nat} {aC : Nat → ClassId} {H0 : Heap} {G : jx_Gv} : (jz_m (jZ l dC dI aC H0 G) 141).1 = ({ cls := "PartText$Rules", name := "ruleOfRun", desc := "(LPartText$Edition;I)I" } : Jvm.MethodName) := rfl
theorem hl_141 {l : Launch} {dC : Nat → ClassId} {dI : Nat → Nat → Nat} {aC : Nat → ClassId} {H0 : Heap} {G : jx_Gv} : (jz_m (jZ l dC dI aC H0 G) 141).2.2.1 = 6 := rfl
theorem hnl_141 {l : Launch} {dC : Nat → ClassId} {dI : Nat → Nat → Nat} {aC : Nat → ClassId} {H0 : Heap} {G : jx_Gv} : jNl 141 = (jz_m (jZ l dC dI aC H0 G) 141).2.2.1 := rfl
theorem hr_141 {l : Launch} {dC : Nat → ClassId} {dI : Nat → Nat → Nat} {aC : Nat → ClassId} {H0 : Heap} {G : jx_Gv} : (jz_m (jZ l dC dI aC H0 G) 141).2.2.2 = (some .int) := rfl
theorem hd_142 {l : Launch} {dC : Nat → ClassId} {dI : Nat → Nat → Nat} {aC : Nat → ClassId} {H0 : Heap} {G : jx_Gv} : jz_d (jZ l dC dI aC H0 G) 142 = (0, 0) := rfl
theorem hy_142 {l : Launch} {dC : Nat → ClassId} {dI : Nat → Nat → Nat} {aC : Nat → ClassId} {H0 : Heap} {G : jx_Gv} : (jz_m (jZ l dC dI aC H0 G) 142).1 = ({ cls := "PartText$Rules", name := "reach", desc := "(II)I" } : Jvm.MethodName) := rfl
theorem hl_142 {l : Launch} {dC : Nat → ClassId} {dI : Nat → Nat → Nat} {aC : Nat → ClassId} {H0 : Heap} {G : jx_Gv} : (jz_m (jZ l dC dI aC H0 G) 142).2.2.1 = 4 := rfl
theorem hnl_142 {l : Launch} {dC : Nat → ClassId} {dI : Nat → Nat → Nat} {aC : Nat → ClassId} {H0 : Heap} {G : jx_Gv} : jNl 142 = (jz_m (jZ l dC dI aC H0 G) 142).2.2.1 := rfl
theorem hr_142 {l : Launch} {dC : Nat → ClassId} {dI : Nat → Nat → Nat} {aC : Nat → ClassId} {H0 : Heap} {G : jx_Gv} : (jz_m (jZ l dC dI aC H0 G) 142).2.2.2 = (some .int) := rfl
theorem hd_143 {l : Launch} {dC : Nat → ClassId} {dI : Nat → Nat → Nat} {aC : Nat → ClassId} {H0 : Heap} {G : jx_Gv} : jz_d (jZ l dC dI aC H0 G) 143 = (1, 23) := rfl
theorem hy_143 {l : Launch} {dC : Nat → ClassId} {dI : Nat → Nat → Nat} {aC : Nat → ClassId} {H0 : Heap} {G : jx_Gv} : (jz_m (jZ l dC dI aC H0 G) 143).1 = ({ cls := "PartText$Rules", name := "isWithinItself", desc := "(LPartText$Edition;I)Z" } : Jvm.MethodName) := rfl
theorem hl_143 {l : Launch} {dC : Nat → ClassId} {dI : Nat → Nat → Nat} {aC : Nat → ClassId} {H0 : Heap} {G : jx_Gv} : (jz_m (jZ l dC dI aC H0 G) 143).2.2.1 = 6 := rfl
theorem hnl_143 {l : Launch} {dC : Nat → ClassId} {dI : Nat → Nat → Nat} {aC : Nat → ClassId} {H0 : Heap} {G : jx_Gv} : jNl 143 = (jz_m (jZ l dC dI aC H0 G) 143).2.2.1 := rfl
theorem hr_143 {l : Launch} {dC : Nat → ClassId} {dI : Nat → Nat → Nat} {aC : Nat → ClassId} {H0 : Heap} {G : jx_Gv} : (jz_m (jZ l dC dI aC H0 G) 143).2.2.2 = (some .boolean) := rfl
theorem hd_144 {l : Launch} {dC : Nat → ClassId} {dI : Nat → Nat → Nat} {aC : Nat → ClassId} {H0 : Heap} {G : jx_Gv} : jz_d (jZ l dC dI aC H0 G) 144 = (2, 48) := rfl
theorem hy_144 {l : Launch} {dC : Nat → ClassId} {dI : Nat → Nat → Nat} {aC : Nat → ClassId} {H0 : Heap} {G : jx_Gv} : (jz_m (jZ l dC dI aC H0 G) 144).1 = ({ cls := "PartText$Rules", name := "ruleOfInner", desc := "(LPartText$Edition;I)I" } : Jvm.MethodName) := rfl
theorem hl_144 {l : Launch} {dC : Nat → ClassId} {dI : Nat → Nat → Nat} {aC : Nat → ClassId} {H0 : Heap} {G : jx_Gv} : (jz_m (jZ l dC dI aC H0 G) 144).2.2.1 = 3 := rfl
theorem hnl_144 {l : Launch} {dC : Nat → ClassId} {dI : Nat → Nat → Nat} {aC : Nat → ClassId} {H0 : Heap} {G : jx_Gv} : jNl 144 = (jz_m (jZ l dC dI aC H0 G) 144).2.2.1 := rfl
theorem hr_144 {l : Launch} {dC : Nat → ClassId} {dI : Nat → Nat → Nat} {aC : Nat → ClassId} {H0 : Heap} {G : jx_Gv} : (jz_m (jZ l dC dI aC H0 G) 144).2.2.2 = (some .int) := rfl
theorem hd_145 {l : Launch} {dC : Nat → ClassId} {dI : Nat → Nat → Nat} {aC : Nat → ClassId} {H0 : Heap} {G : jx_Gv} : jz_d (jZ l dC dI aC H0 G) 145 = (1, 21) := rfl
theorem hy_145 {l : Launch} {dC : Nat → ClassId} {dI : Nat → Nat → Nat} {aC : Nat → ClassId} {H0 : Heap} {G : jx_Gv} : (jz_m (jZ l dC dI aC H0 G) 145).1 = ({ cls := "PartText$Rules", name := "isMissingEnd", desc := "(LPartText$Edition;II)Z" } : Jvm.MethodName) := rfl
theorem hl_145 {l : Launch} {dC : Nat → ClassId} {dI : Nat → Nat → Nat} {aC : Nat → ClassId} {H0 : Heap} {G : jx_Gv} : (jz_m (jZ l dC dI aC H0 G) 145).2.2.1 = 3 := rfl
theorem hnl_145 {l : Launch} {dC : Nat → ClassId} {dI : Nat → Nat → Nat} {aC : Nat → ClassId} {H0 : Heap} {G : jx_Gv} : jNl 145 = (jz_m (jZ l dC dI aC H0 G) 145).2.2.1 := rfl
theorem hr_145 {l : Launch} {dC : Nat → ClassId} {dI : Nat → Nat → Nat} {aC : Nat → ClassId} {H0 : Heap} {G : jx_Gv} : (jz_m (jZ l dC dI aC H0 G) 145).2.2.2 = (some .boolean) := rfl
theorem hd_146 {l : Launch} {dC : Nat → ClassId} {dI : Nat → Nat → Nat} {aC : Nat → ClassId} {H0 : Heap} {G : jx_Gv} : jz_d (jZ l dC dI aC H0 G) 146 = (1, 22) := rfl
theorem hy_146 {l : Launch} {dC : Nat → ClassId} {dI : Nat → Nat → Nat} {aC : Nat → ClassId} {H0 : Heap} {G : jx_Gv} : (jz_m (jZ l dC dI aC H0 G) 146).1 = ({ cls := "PartText$Rules", name := "isAtMost", desc := "(LPartText$Edition;III)Z" } : Jvm.MethodName) := rfl
theorem hl_146 {l : Launch} {dC : Nat → ClassId} {dI : Nat → Nat → Nat} {aC : Nat → ClassId} {H0 : Heap} {G : jx_Gv} : (jz_m (jZ l dC dI aC H0 G) 146).2.2.1 = 10 := rfl
theorem hnl_146 {l : Launch} {dC : Nat → ClassId} {dI : Nat → Nat → Nat} {aC : Nat → ClassId} {H0 : Heap} {G : jx_Gv} : jNl 146 = (jz_m (jZ l dC dI aC H0 G) 146).2.2.1 := rfl
theorem hr_146 {l : Launch} {dC : Nat → ClassId} {dI : Nat → Nat → Nat} {aC : Nat → ClassId} {H0 : Heap} {G : jx_Gv} : (jz_m (jZ l dC dI aC H0 G) 146).2.2.2 = (some .boolean) := rfl
theorem hd_147 {l : Launch} {dC : Nat → ClassId} {dI : Nat → Nat → Nat} {aC : Nat → ClassId} {H0 : Heap} {G : jx_Gv} : jz_d (jZ l dC dI aC H0 G) 147 = (2, 51) := rfl
theorem hy_147 {l : Launch} {dC : Nat → ClassId} {dI : Nat → Nat → Nat} {aC : Nat → ClassId} {H0 : Heap} {G : jx_Gv} : (jz_m (jZ l dC dI aC H0 G) 147).1 = ({ cls := "PartText$Rules", name := "ruleOfDatum", desc := "(LPartText$Edition;II)I" } : Jvm.MethodName) := rfl
theorem hl_147 {l : Launch} {dC : Nat → ClassId} {dI : Nat → Nat → Nat} {aC : Nat → ClassId} {H0 : Heap} {G : jx_Gv} : (jz_m (jZ l dC dI aC H0 G) 147).2.2.1 = 8 := rfl
theorem hnl_147 {l : Launch} {dC : Nat → ClassId} {dI : Nat → Nat → Nat} {aC : Nat → ClassId} {H0 : Heap} {G : jx_Gv} : jNl 147 = (jz_m (jZ l dC dI aC H0 G) 147).2.2.1 := rfl
theorem hr_147 {l : Launch} {dC : Nat → ClassId} {dI : Nat → Nat → Nat} {aC : Nat → ClassId} {H0 : Heap} {G : jx_Gv} : (jz_m (jZ l dC dI aC H0 G) 147).2.2.2 = (some .int) := rfl
theorem hd_148 {l : Launch} {dC : Nat → ClassId} {dI : Nat → Nat → Nat} {aC : Nat → ClassId} {H0 : Heap} {G : jx_Gv} : jz_d (jZ l dC dI aC H0 G) 148 = (3, 78) := rfl
theorem hy_148 {l : Launch} {dC : Nat → ClassId} {dI : Nat → Nat → Nat} {aC : Nat → ClassId} {H0 : Heap} {G : jx_Gv} : (jz_m (jZ l dC dI aC H0 G) 148).1 = ({ cls := "PartText$Rules", name := "ruleOfInterfaces", desc := "(LPartText$Edition;II)I" } : Jvm.MethodName) := rfl
theorem hl_148 {l : Launch} {dC : Nat → ClassId} {dI : Nat → Nat → Nat} {aC : Nat → ClassId} {H0 : Heap} {G : jx_Gv} : (jz_m (jZ l dC dI aC H0 G) 148).2.2.1 = 7 := rfl
theorem hnl_148 {l : Launch} {dC : Nat → ClassId} {dI : Nat → Nat → Nat} {aC : Nat → ClassId} {H0 : Heap} {G : jx_Gv} : jNl 148 = (jz_m (jZ l dC dI aC H0 G) 148).2.2.1 := rfl
theorem hr_148 {l : Launch} {dC : Nat → ClassId} {dI : Nat → Nat → Nat} {aC : Nat → ClassId} {H0 : Heap} {G : jx_Gv} : (jz_m (jZ l dC dI aC H0 G) 148).2.2.2 = (some .int) := rfl
theorem hd_149 {l : Launch} {dC : Nat → ClassId} {dI : Nat → Nat → Nat} {aC : Nat → ClassId} {H0 : Heap} {G : jx_Gv} : jz_d (jZ l dC dI aC H0 G) 149 = (1, 22) := rfl
theorem hy_149 {l : Launch} {dC : Nat → ClassId} {dI : Nat → Nat → Nat} {aC : Nat → ClassId} {H0 : Heap} {G : jx_Gv} : (jz_m (jZ l dC dI aC H0 G) 149).1 = ({ cls := "PartText$Rules", name := "isConnectedBefore", desc := "(LPartText$Edition;I)Z" } : Jvm.MethodName) := rfl
theorem hl_149 {l : Launch} {dC : Nat → ClassId} {dI : Nat → Nat → Nat} {aC : Nat → ClassId} {H0 : Heap} {G : jx_Gv} : (jz_m (jZ l dC dI aC H0 G) 149).2.2.1 = 5 := rfl
theorem hnl_149 {l : Launch} {dC : Nat → ClassId} {dI : Nat → Nat → Nat} {aC : Nat → ClassId} {H0 : Heap} {G : jx_Gv} : jNl 149 = (jz_m (jZ l dC dI aC H0 G) 149).2.2.1 := rfl
theorem hr_149 {l : Launch} {dC : Nat → ClassId} {dI : Nat → Nat → Nat} {aC : Nat → ClassId} {H0 : Heap} {G : jx_Gv} : (jz_m (jZ l dC dI aC H0 G) 149).2.2.2 = (some .boolean) := rfl
theorem hd_150 {l : Launch} {dC : Nat → ClassId} {dI : Nat → Nat → Nat} {aC : Nat → ClassId} {H0 : Heap} {G : jx_Gv} : jz_d (jZ l dC dI aC H0 G) 150 = (4, 104) := rfl
theorem hy_150 {l : Launch} {dC : Nat → ClassId} {dI : Nat → Nat → Nat} {aC : Nat → ClassId} {H0 : Heap} {G : jx_Gv} : (jz_m (jZ l dC dI aC H0 G) 150).1 = ({ cls := "PartText$Rules", name := "ruleOfConnect", desc := "(LPartText$Edition;I)I" } : Jvm.MethodName) := rfl
theorem hl_150 {l : Launch} {dC : Nat → ClassId} {dI : Nat → Nat → Nat} {aC : Nat → ClassId} {H0 : Heap} {G : jx_Gv} : (jz_m (jZ l dC dI aC H0 G) 150).2.2.1 = 7 := rfl
theorem hnl_150 {l : Launch} {dC : Nat → ClassId} {dI : Nat → Nat → Nat} {aC : Nat → ClassId} {H0 : Heap} {G : jx_Gv} : jNl 150 = (jz_m (jZ l dC dI aC H0 G) 150).2.2.1 := rfl
theorem hr_150 {l : Launch} {dC : Nat → ClassId} {dI : Nat → Nat → Nat} {aC : Nat → ClassId} {H0 : Heap} {G : jx_Gv} : (jz_m (jZ l dC dI aC H0 G) 150).2.2.2 = (some .int) := rfl
theorem hd_151 {l : Launch} {dC : Nat → ClassId} {dI : Nat → Nat → Nat} {aC : Nat → ClassId} {H0 : Heap} {G : jx_Gv} : jz_d (jZ l dC dI aC H0 G) 151 = (5, 130) := rfl
theorem hy_151 {l : Launch} {dC : Nat → ClassId} {dI : Nat → Nat → Nat} {aC : Nat → ClassId} {H0 : Heap} {G : jx_Gv} : (jz_m (jZ l dC dI aC H0 G) 151).1 = ({ cls := "PartText$Rules", name := "leastBroken", desc := "(LPartText$Edition;I)I" } : Jvm.MethodName) := rfl
theorem hl_151 {l : Launch} {dC : Nat → ClassId} {dI : Nat → Nat → Nat} {aC : Nat → ClassId} {H0 : Heap} {G : jx_Gv} : (jz_m (jZ l dC dI aC H0 G) 151).2.2.1 = 3 := rfl
theorem hnl_151 {l : Launch} {dC : Nat → ClassId} {dI : Nat → Nat → Nat} {aC : Nat → ClassId} {H0 : Heap} {G : jx_Gv} : jNl 151 = (jz_m (jZ l dC dI aC H0 G) 151).2.2.1 := rfl
theorem hr_151 {l : Launch} {dC : Nat → ClassId} {dI : Nat → Nat → Nat} {aC : Nat → ClassId} {H0 : Heap} {G : jx_Gv} : (jz_m (jZ l dC dI aC H0 G) 151).2.2.2 = (some .int) := rfl
theorem hd_152 {l : Launch} {dC : Nat → ClassId} {dI : Nat → Nat → Nat} {aC : Nat → ClassId} {H0 : Heap} {G : jx_Gv} : jz_d (jZ l dC dI aC H0 G) 152 = (6, 152) := rfl
theorem hy_152 {l : Launch} {dC : Nat → ClassId} {dI : Nat → Nat → Nat} {aC : Nat → ClassId} {H0 : Heap} {G : jx_Gv} : (jz_m (jZ l dC dI aC H0 G) 152).1 = ({ cls := "PartText$Rules", name := "firstBroken", desc := "(LPartText$Edition;)I" } : Jvm.MethodName) := rfl
theorem hl_152 {l : Launch} {dC : Nat → ClassId} {dI : Nat → Nat → Nat} {aC : Nat → ClassId} {H0 : Heap} {G : jx_Gv} : (jz_m (jZ l dC dI aC H0 G) 152).2.2.1 = 4 := rfl
theorem hnl_152 {l : Launch} {dC : Nat → ClassId} {dI : Nat → Nat → Nat} {aC : Nat → ClassId} {H0 : Heap} {G : jx_Gv} : jNl 152 = (jz_m (jZ l dC dI aC H0 G) 152).2.2.1 := rfl
theorem hr_152 {l : Launch} {dC : Nat → ClassId} {dI : Nat → Nat → Nat} {aC : Nat → ClassId} {H0 : Heap} {G : jx_Gv} : (jz_m (jZ l dC dI aC H0 G) 152).2.2.2 = (some .int) := rfl
theorem hd_153 {l : Launch} {dC : Nat → ClassId} {dI : Nat → Nat → Nat} {aC : Nat → ClassId} {H0 : Heap} {G : jx_Gv} : jz_d (jZ l dC dI aC H0 G) 153 = (7, 175) := rfl
theorem hy_153 {l : Launch} {dC : Nat → ClassId} {dI : Nat → Nat → Nat} {aC : Nat → ClassId} {H0 : Heap} {G : jx_Gv} : (jz_m (jZ l dC dI aC H0 G) 153).1 = ({ cls := "PartText", name := "check", desc := "()I" } : Jvm.MethodName) := rfl
theorem hl_153 {l : Launch} {dC : Nat → ClassId} {dI : Nat → Nat → Nat} {aC : Nat → ClassId} {H0 : Heap} {G : jx_Gv} : (jz_m (jZ l dC dI aC H0 G) 153).2.2.1 = 2 := rfl
theorem hnl_153 {l : Launch} {dC : Nat → ClassId} {dI : Nat → Nat → Nat} {aC : Nat → ClassId} {H0 : Heap} {G : jx_Gv} : jNl 153 = (jz_m (jZ l dC dI aC H0 G) 153).2.2.1 := rfl
theorem hr_153 {l : Launch} {dC : Nat → ClassId} {dI : Nat → Nat → Nat} {aC : Nat → ClassId} {H0 : Heap} {G : jx_Gv} : (jz_m (jZ l dC dI aC H0 G) 153).2.2.2 = (some .int) := rfl
theorem hd_154 {l : Launch} {dC : Nat → ClassId} {dI : Nat → Nat → Nat} {aC : Nat → ClassId} {H0 : Heap} {G : jx_Gv} : jz_d (jZ l dC dI aC H0 G) 154 = (0, 0) := rfl
theorem hy_154 {l : Launch} {dC : Nat → ClassId} {dI : Nat → Nat → Nat} {aC : Nat → ClassId} {H0 : Heap} {G : jx_Gv} : (jz_m (jZ l dC dI aC H0 G) 154).1 = ({ cls := "PartTextModel", name := "breaksGiven", desc := "(I)Z" } : Jvm.MethodName) := rfl
theorem hl_154 {l : Launch} {dC : Nat → ClassId} {dI : Nat → Nat → Nat} {aC : Nat → ClassId} {H0 : Heap} {G : jx_Gv} : (jz_m (jZ l dC dI aC H0 G) 154).2.2.1 = 3 := rfl
theorem hnl_154 {l : Launch} {dC : Nat → ClassId} {dI : Nat → Nat → Nat} {aC : Nat → ClassId} {H0 : Heap} {G : jx_Gv} : jNl 154 = (jz_m (jZ l dC dI aC H0 G) 154).2.2.1 := rfl
theorem hr_154 {l : Launch} {dC : Nat → ClassId} {dI : Nat → Nat → Nat} {aC : Nat → ClassId} {H0 : Heap} {G : jx_Gv} : (jz_m (jZ l dC dI aC H0 G) 154).2.2.2 = (some .boolean) := rfl
theorem hd_155 {l : Launch} {dC : Nat → ClassId} {dI : Nat → Nat → Nat} {aC : Nat → ClassId} {H0 : Heap} {G : jx_Gv} : jz_d (jZ l dC dI aC H0 G) 155 = (4, 89) := rfl
theorem hy_155 {l : Launch} {dC : Nat → ClassId} {dI : Nat → Nat → Nat} {aC : Nat → ClassId} {H0 : Heap} {G : jx_Gv} : (jz_m (jZ l dC dI aC H0 G) 155).1 = ({ cls := "PartTextModel", name := "breaksAccess", desc := "(II)Z" } : Jvm.MethodName) := rfl
theorem hl_155 {l : Launch} {dC : Nat → ClassId} {dI : Nat → Nat → Nat} {aC : Nat → ClassId} {H0 : Heap} {G : jx_Gv} : (jz_m (jZ l dC dI aC H0 G) 155).2.2.1 = 5 := rfl
theorem hnl_155 {l : Launch} {dC : Nat → ClassId} {dI : Nat → Nat → Nat} {aC : Nat → ClassId} {H0 : Heap} {G : jx_Gv} : jNl 155 = (jz_m (jZ l dC dI aC H0 G) 155).2.2.1 := rfl
theorem hr_155 {l : Launch} {dC : Nat → ClassId} {dI : Nat → Nat → Nat} {aC : Nat → ClassId} {H0 : Heap} {G : jx_Gv} : (jz_m (jZ l dC dI aC H0 G) 155).2.2.2 = (some .boolean) := rfl
theorem hd_156 {l : Launch} {dC : Nat → ClassId} {dI : Nat → Nat → Nat} {aC : Nat → ClassId} {H0 : Heap} {G : jx_Gv} : jz_d (jZ l dC dI aC H0 G) 156 = (4, 89) := rfl
theorem hy_156 {l : Launch} {dC : Nat → ClassId} {dI : Nat → Nat → Nat} {aC : Nat → ClassId} {H0 : Heap} {G : jx_Gv} : (jz_m (jZ l dC dI aC H0 G) 156).1 = ({ cls := "PartTextModel", name := "breaksEnd", desc := "(III)Z" } : Jvm.MethodName) := rfl
theorem hl_156 {l : Launch} {dC : Nat → ClassId} {dI : Nat → Nat → Nat} {aC : Nat → ClassId} {H0 : Heap} {G : jx_Gv} : (jz_m (jZ l dC dI aC H0 G) 156).2.2.1 = 6 := rfl
theorem hnl_156 {l : Launch} {dC : Nat → ClassId} {dI : Nat → Nat → Nat} {aC : Nat → ClassId} {H0 : Heap} {G : jx_Gv} : jNl 156 = (jz_m (jZ l dC dI aC H0 G) 156).2.2.1 := rfl
theorem hr_156 {l : Launch} {dC : Nat → ClassId} {dI : Nat → Nat → Nat} {aC : Nat → ClassId} {H0 : Heap} {G : jx_Gv} : (jz_m (jZ l dC dI aC H0 G) 156).2.2.2 = (some .boolean) := rfl
theorem hd_157 {l : Launch} {dC : Nat → ClassId} {dI : Nat → Nat → Nat} {aC : Nat → ClassId} {H0 : Heap} {G : jx_Gv} : jz_d (jZ l dC dI aC H0 G) 157 = (5, 114) := rfl
theorem hy_157 {l : Launch} {dC : Nat → ClassId} {dI : Nat → Nat → Nat} {aC : Nat → ClassId} {H0 : Heap} {G : jx_Gv} : (jz_m (jZ l dC dI aC H0 G) 157).1 = ({ cls := "PartTextModel", name := "breaksNames", desc := "(I)Z" } : Jvm.MethodName) := rfl
theorem hl_157 {l : Launch} {dC : Nat → ClassId} {dI : Nat → Nat → Nat} {aC : Nat → ClassId} {H0 : Heap} {G : jx_Gv} : (jz_m (jZ l dC dI aC H0 G) 157).2.2.1 = 4 := rfl
theorem hnl_157 {l : Launch} {dC : Nat → ClassId} {dI : Nat → Nat → Nat} {aC : Nat → ClassId} {H0 : Heap} {G : jx_Gv} : jNl 157 = (jz_m (jZ l dC dI aC H0 G) 157).2.2.1 := rfl
theorem hr_157 {l : Launch} {dC : Nat → ClassId} {dI : Nat → Nat → Nat} {aC : Nat → ClassId} {H0 : Heap} {G : jx_Gv} : (jz_m (jZ l dC dI aC H0 G) 157).2.2.2 = (some .boolean) := rfl
theorem hd_158 {l : Launch} {dC : Nat → ClassId} {dI : Nat → Nat → Nat} {aC : Nat → ClassId} {H0 : Heap} {G : jx_Gv} : jz_d (jZ l dC dI aC H0 G) 158 = (4, 89) := rfl
theorem hy_158 {l : Launch} {dC : Nat → ClassId} {dI : Nat → Nat → Nat} {aC : Nat → ClassId} {H0 : Heap} {G : jx_Gv} : (jz_m (jZ l dC dI aC H0 G) 158).1 = ({ cls := "PartTextModel", name := "firstPort", desc := "(I)I" } : Jvm.MethodName) := rfl
theorem hl_158 {l : Launch} {dC : Nat → ClassId} {dI : Nat → Nat → Nat} {aC : Nat → ClassId} {H0 : Heap} {G : jx_Gv} : (jz_m (jZ l dC dI aC H0 G) 158).2.2.1 = 2 := rfl
theorem hnl_158 {l : Launch} {dC : Nat → ClassId} {dI : Nat → Nat → Nat} {aC : Nat → ClassId} {H0 : Heap} {G : jx_Gv} : jNl 158 = (jz_m (jZ l dC dI aC H0 G) 158).2.2.1 := rfl
theorem hr_158 {l : Launch} {dC : Nat → ClassId} {dI : Nat → Nat → Nat} {aC : Nat → ClassId} {H0 : Heap} {G : jx_Gv} : (jz_m (jZ l dC dI aC H0 G) 158).2.2.2 = (some .int) := rfl
theorem hd_159 {l : Launch} {dC : Nat → ClassId} {dI : Nat → Nat → Nat} {aC : Nat → ClassId} {H0 : Heap} {G : jx_Gv} : jz_d (jZ l dC dI aC H0 G) 159 = (4, 89) := rfl
theorem hy_159 {l : Launch} {dC : Nat → ClassId} {dI : Nat → Nat → Nat} {aC : Nat → ClassId} {H0 : Heap} {G : jx_Gv} : (jz_m (jZ l dC dI aC H0 G) 159).1 = ({ cls := "PartTextModel", name := "secondPort", desc := "(I)I" } : Jvm.MethodName) := rfl
theorem hl_159 {l : Launch} {dC : Nat → ClassId} {dI : Nat → Nat → Nat} {aC : Nat → ClassId} {H0 : Heap} {G : jx_Gv} : (jz_m (jZ l dC dI aC H0 G) 159).2.2.1 = 2 := rfl
theorem hnl_159 {l : Launch} {dC : Nat → ClassId} {dI : Nat → Nat → Nat} {aC : Nat → ClassId} {H0 : Heap} {G : jx_Gv} : jNl 159 = (jz_m (jZ l dC dI aC H0 G) 159).2.2.1 := rfl
theorem hr_159 {l : Launch} {dC : Nat → ClassId} {dI : Nat → Nat → Nat} {aC : Nat → ClassId} {H0 : Heap} {G : jx_Gv} : (jz_m (jZ l dC dI aC H0 G) 159).2.2.2 = (some .int) := rfl
theorem hd_160 {l : Launch} {dC : Nat → ClassId} {dI : Nat → Nat → Nat} {aC : Nat → ClassId} {H0 : Heap} {G : jx_Gv} : jz_d (jZ l dC dI aC H0 G) 160 = (5, 110) := rfl
theorem hy_160 {l : Launch} {dC : Nat → ClassId} {dI : Nat → Nat → Nat} {aC : Nat → ClassId} {H0 : Heap} {G : jx_Gv} : (jz_m (jZ l dC dI aC H0 G) 160).1 = ({ cls := "PartTextModel", name := "breaksWays", desc := "(I)Z" } : Jvm.MethodName) := rfl
theorem hl_160 {l : Launch} {dC : Nat → ClassId} {dI : Nat → Nat → Nat} {aC : Nat → ClassId} {H0 : Heap} {G : jx_Gv} : (jz_m (jZ l dC dI aC H0 G) 160).2.2.1 = 5 := rfl
theorem hnl_160 {l : Launch} {dC : Nat → ClassId} {dI : Nat → Nat → Nat} {aC : Nat → ClassId} {H0 : Heap} {G : jx_Gv} : jNl 160 = (jz_m (jZ l dC dI aC H0 G) 160).2.2.1 := rfl
theorem hr_160 {l : Launch} {dC : Nat → ClassId} {dI : Nat → Nat → Nat} {aC : Nat → ClassId} {H0 : Heap} {G : jx_Gv} : (jz_m (jZ l dC dI aC H0 G) 160).2.2.2 = (some .boolean) := rfl
theorem hd_161 {l : Launch} {dC : Nat → ClassId} {dI : Nat → Nat → Nat} {aC : Nat → ClassId} {H0 : Heap} {G : jx_Gv} : jz_d (jZ l dC dI aC H0 G) 161 = (3, 67) := rfl
theorem hy_161 {l : Launch} {dC : Nat → ClassId} {dI : Nat → Nat → Nat} {aC : Nat → ClassId} {H0 : Heap} {G : jx_Gv} : (jz_m (jZ l dC dI aC H0 G) 161).1 = ({ cls := "PartTextModel", name := "breaksTypes", desc := "(III)Z" } : Jvm.MethodName) := rfl
theorem hl_161 {l : Launch} {dC : Nat → ClassId} {dI : Nat → Nat → Nat} {aC : Nat → ClassId} {H0 : Heap} {G : jx_Gv} : (jz_m (jZ l dC dI aC H0 G) 161).2.2.1 = 10 := rfl
theorem hnl_161 {l : Launch} {dC : Nat → ClassId} {dI : Nat → Nat → Nat} {aC : Nat → ClassId} {H0 : Heap} {G : jx_Gv} : jNl 161 = (jz_m (jZ l dC dI aC H0 G) 161).2.2.1 := rfl
theorem hr_161 {l : Launch} {dC : Nat → ClassId} {dI : Nat → Nat → Nat} {aC : Nat → ClassId} {H0 : Heap} {G : jx_Gv} : (jz_m (jZ l dC dI aC H0 G) 161).2.2.2 = (some .boolean) := rfl
theorem hd_162 {l : Launch} {dC : Nat → ClassId} {dI : Nat → Nat → Nat} {aC : Nat → ClassId} {H0 : Heap} {G : jx_Gv} : jz_d (jZ l dC dI aC H0 G) 162 = (5, 110) := rfl
theorem hy_162 {l : Launch} {dC : Nat → ClassId} {dI : Nat → Nat → Nat} {aC : Nat → ClassId} {H0 : Heap} {G : jx_Gv} : (jz_m (jZ l dC dI aC H0 G) 162).1 = ({ cls := "PartTextModel", name := "breaksData", desc := "(II)Z" } : Jvm.MethodName) := rfl
theorem hl_162 {l : Launch} {dC : Nat → ClassId} {dI : Nat → Nat → Nat} {aC : Nat → ClassId} {H0 : Heap} {G : jx_Gv} : (jz_m (jZ l dC dI aC H0 G) 162).2.2.1 = 8 := rfl
theorem hnl_162 {l : Launch} {dC : Nat → ClassId} {dI : Nat → Nat → Nat} {aC : Nat → ClassId} {H0 : Heap} {G : jx_Gv} : jNl 162 = (jz_m (jZ l dC dI aC H0 G) 162).2.2.1 := rfl
theorem hr_162 {l : Launch} {dC : Nat → ClassId} {dI : Nat → Nat → Nat} {aC : Nat → ClassId} {H0 : Heap} {G : jx_Gv} : (jz_m (jZ l dC dI aC H0 G) 162).2.2.2 = (some .boolean) := rfl
theorem hd_163 {l : Launch} {dC : Nat → ClassId} {dI : Nat → Nat → Nat} {aC : Nat → ClassId} {H0 : Heap} {G : jx_Gv} : jz_d (jZ l dC dI aC H0 G) 163 = (5, 110) := rfl
theorem hy_163 {l : Launch} {dC : Nat → ClassId} {dI : Nat → Nat → Nat} {aC : Nat → ClassId} {H0 : Heap} {G : jx_Gv} : (jz_m (jZ l dC dI aC H0 G) 163).1 = ({ cls := "PartTextModel", name := "breaksTwice", desc := "(I)Z" } : Jvm.MethodName) := rfl
theorem hl_163 {l : Launch} {dC : Nat → ClassId} {dI : Nat → Nat → Nat} {aC : Nat → ClassId} {H0 : Heap} {G : jx_Gv} : (jz_m (jZ l dC dI aC H0 G) 163).2.2.1 = 5 := rfl
theorem hnl_163 {l : Launch} {dC : Nat → ClassId} {dI : Nat → Nat → Nat} {aC : Nat → ClassId} {H0 : Heap} {G : jx_Gv} : jNl 163 = (jz_m (jZ l dC dI aC H0 G) 163).2.2.1 := rfl
theorem hr_163 {l : Launch} {dC : Nat → ClassId} {dI : Nat → Nat → Nat} {aC : Nat → ClassId} {H0 : Heap} {G : jx_Gv} : (jz_m (jZ l dC dI aC H0 G) 163).2.2.2 = (some .boolean) := rfl
theorem hd_164 {l : Launch} {dC : Nat → ClassId} {dI : Nat → Nat → Nat} {aC : Nat → ClassId} {H0 : Heap} {G : jx_Gv} : jz_d (jZ l dC dI aC H0 G) 164 = (4, 88) := rfl
theorem hy_164 {l : Launch} {dC : Nat → ClassId} {dI : Nat → Nat → Nat} {aC : Nat → ClassId} {H0 : Heap} {G : jx_Gv} : (jz_m (jZ l dC dI aC H0 G) 164).1 = ({ cls := "PartTextModel", name := "breaksRing", desc := "(I)Z" } : Jvm.MethodName) := rfl
theorem hl_164 {l : Launch} {dC : Nat → ClassId} {dI : Nat → Nat → Nat} {aC : Nat → ClassId} {H0 : Heap} {G : jx_Gv} : (jz_m (jZ l dC dI aC H0 G) 164).2.2.1 = 6 := rfl
theorem hnl_164 {l : Launch} {dC : Nat → ClassId} {dI : Nat → Nat → Nat} {aC : Nat → ClassId} {H0 : Heap} {G : jx_Gv} : jNl 164 = (jz_m (jZ l dC dI aC H0 G) 164).2.2.1 := rfl
theorem hr_164 {l : Launch} {dC : Nat → ClassId} {dI : Nat → Nat → Nat} {aC : Nat → ClassId} {H0 : Heap} {G : jx_Gv} : (jz_m (jZ l dC dI aC H0 G) 164).2.2.2 = (some .boolean) := rfl
theorem hd_165 {l : Launch} {dC : Nat → ClassId} {dI : Nat → Nat → Nat} {aC : Nat → ClassId} {H0 : Heap} {G : jx_Gv} : jz_d (jZ l dC dI aC H0 G) 165 = (6, 137) := rfl
theorem hy_165 {l : Launch} {dC : Nat → ClassId} {dI : Nat → Nat → Nat} {aC : Nat → ClassId} {H0 : Heap} {G : jx_Gv} : (jz_m (jZ l dC dI aC H0 G) 165).1 = ({ cls := "PartTextModel", name := "breaks", desc := "(II)Z" } : Jvm.MethodName) := rfl
theorem hl_165 {l : Launch} {dC : Nat → ClassId} {dI : Nat → Nat → Nat} {aC : Nat → ClassId} {H0 : Heap} {G : jx_Gv} : (jz_m (jZ l dC dI aC H0 G) 165).2.2.1 = 4 := rfl
theorem hnl_165 {l : Launch} {dC : Nat → ClassId} {dI : Nat → Nat → Nat} {aC : Nat → ClassId} {H0 : Heap} {G : jx_Gv} : jNl 165 = (jz_m (jZ l dC dI aC H0 G) 165).2.2.1 := rfl
theorem hr_165 {l : Launch} {dC : Nat → ClassId} {dI : Nat → Nat → Nat} {aC : Nat → ClassId} {H0 : Heap} {G : jx_Gv} : (jz_m (jZ l dC dI aC H0 G) 165).2.2.2 = (some .boolean) := rfl
theorem hd_166 {l : Launch} {dC : Nat → ClassId} {dI : Nat → Nat → Nat} {aC : Nat → ClassId} {H0 : Heap} {G : jx_Gv} : jz_d (jZ l dC dI aC H0 G) 166 = (7, 160) := rfl
theorem hy_166 {l : Launch} {dC : Nat → ClassId} {dI : Nat → Nat → Nat} {aC : Nat → ClassId} {H0 : Heap} {G : jx_Gv} : (jz_m (jZ l dC dI aC H0 G) 166).1 = ({ cls := "PartTextModel", name := "check", desc := "()I" } : Jvm.MethodName) := rfl
theorem hl_166 {l : Launch} {dC : Nat → ClassId} {dI : Nat → Nat → Nat} {aC : Nat → ClassId} {H0 : Heap} {G : jx_Gv} : (jz_m (jZ l dC dI aC H0 G) 166).2.2.1 = 3 := rfl
theorem hnl_166 {l : Launch} {dC : Nat → ClassId} {dI : Nat → Nat → Nat} {aC : Nat → ClassId} {H0 : Heap} {G : jx_Gv} : jNl 166 = (jz_m (jZ l dC dI aC H0 G) 166).2.2.1 := rfl
theorem hr_166 {l : Launch} {dC : Nat → ClassId} {dI : Nat → Nat → Nat} {aC : Nat → ClassId} {H0 : Heap} {G : jx_Gv} : (jz_m (jZ l dC dI aC H0 G) 166).2.2.2 = (some .int) := rfl
theorem hd_167 {l : Launch} {dC : Nat → ClassId} {dI : Nat → Nat → Nat} {aC : Nat → ClassId} {H0 : Heap} {G : jx_Gv} : jz_d (jZ l dC dI aC H0 G) 167 = (0, 0) := rfl
theorem hy_167 {l : Launch} {dC : Nat → ClassId} {dI : Nat → Nat → Nat} {aC : Nat → ClassId} {H0 : Heap} {G : jx_Gv} : (jz_m (jZ l dC dI aC H0 G) 167).1 = ({ cls := "PartText", name := "commonDivisor", desc := "(II)I" } : Jvm.MethodName) := rfl
theorem hl_167 {l : Launch} {dC : Nat → ClassId} {dI : Nat → Nat → Nat} {aC : Nat → ClassId} {H0 : Heap} {G : jx_Gv} : (jz_m (jZ l dC dI aC H0 G) 167).2.2.1 = 6 := rfl
theorem hnl_167 {l : Launch} {dC : Nat → ClassId} {dI : Nat → Nat → Nat} {aC : Nat → ClassId} {H0 : Heap} {G : jx_Gv} : jNl 167 = (jz_m (jZ l dC dI aC H0 G) 167).2.2.1 := rfl
theorem hr_167 {l : Launch} {dC : Nat → ClassId} {dI : Nat → Nat → Nat} {aC : Nat → ClassId} {H0 : Heap} {G : jx_Gv} : (jz_m (jZ l dC dI aC H0 G) 167).2.2.2 = (some .int) := rfl
theorem hd_168 {l : Launch} {dC : Nat → ClassId} {dI : Nat → Nat → Nat} {aC : Nat → ClassId} {H0 : Heap} {G : jx_Gv} : jz_d (jZ l dC dI aC H0 G) 168 = (2, 48) := rfl
theorem hy_168 {l : Launch} {dC : Nat → ClassId} {dI : Nat → Nat → Nat} {aC : Nat → ClassId} {H0 : Heap} {G : jx_Gv} : (jz_m (jZ l dC dI aC H0 G) 168).1 = ({ cls := "PartText", name := "unit", desc := "(III)I" } : Jvm.MethodName) := rfl
theorem hl_168 {l : Launch} {dC : Nat → ClassId} {dI : Nat → Nat → Nat} {aC : Nat → ClassId} {H0 : Heap} {G : jx_Gv} : (jz_m (jZ l dC dI aC H0 G) 168).2.2.1 = 10 := rfl
theorem hnl_168 {l : Launch} {dC : Nat → ClassId} {dI : Nat → Nat → Nat} {aC : Nat → ClassId} {H0 : Heap} {G : jx_Gv} : jNl 168 = (jz_m (jZ l dC dI aC H0 G) 168).2.2.1 := rfl
theorem hr_168 {l : Launch} {dC : Nat → ClassId} {dI : Nat → Nat → Nat} {aC : Nat → ClassId} {H0 : Heap} {G : jx_Gv} : (jz_m (jZ l dC dI aC H0 G) 168).2.2.2 = (some .int) := rfl
theorem hd_169 {l : Launch} {dC : Nat → ClassId} {dI : Nat → Nat → Nat} {aC : Nat → ClassId} {H0 : Heap} {G : jx_Gv} : jz_d (jZ l dC dI aC H0 G) 169 = (0, 0) := rfl
theorem hy_169 {l : Launch} {dC : Nat → ClassId} {dI : Nat → Nat → Nat} {aC : Nat → ClassId} {H0 : Heap} {G : jx_Gv} : (jz_m (jZ l dC dI aC H0 G) 169).1 = ({ cls := "PartTextModel", name := "divisor", desc := "(JJ)J" } : Jvm.MethodName) := rfl
theorem hl_169 {l : Launch} {dC : Nat → ClassId} {dI : Nat → Nat → Nat} {aC : Nat → ClassId} {H0 : Heap} {G : jx_Gv} : (jz_m (jZ l dC dI aC H0 G) 169).2.2.1 = 10 := rfl
theorem hnl_169 {l : Launch} {dC : Nat → ClassId} {dI : Nat → Nat → Nat} {aC : Nat → ClassId} {H0 : Heap} {G : jx_Gv} : jNl 169 = (jz_m (jZ l dC dI aC H0 G) 169).2.2.1 := rfl
theorem hr_169 {l : Launch} {dC : Nat → ClassId} {dI : Nat → Nat → Nat} {aC : Nat → ClassId} {H0 : Heap} {G : jx_Gv} : (jz_m (jZ l dC dI aC H0 G) 169).2.2.2 = (some .long) := rfl
theorem hd_170 {l : Launch} {dC : Nat → ClassId} {dI : Nat → Nat → Nat} {aC : Nat → ClassId} {H0 : Heap} {G : jx_Gv} : jz_d (jZ l dC dI aC H0 G) 170 = (3, 68) := rfl
theorem hy_170 {l : Launch} {dC : Nat → ClassId} {dI : Nat → Nat → Nat} {aC : Nat → ClassId} {H0 : Heap} {G : jx_Gv} : (jz_m (jZ l dC dI aC H0 G) 170).1 = ({ cls := "PartTextModel", name := "unit", desc := "(III)I" } : Jvm.MethodName) := rfl
theorem hl_170 {l : Launch} {dC : Nat → ClassId} {dI : Nat → Nat → Nat} {aC : Nat → ClassId} {H0 : Heap} {G : jx_Gv} : (jz_m (jZ l dC dI aC H0 G) 170).2.2.1 = 12 := rfl
theorem hnl_170 {l : Launch} {dC : Nat → ClassId} {dI : Nat → Nat → Nat} {aC : Nat → ClassId} {H0 : Heap} {G : jx_Gv} : jNl 170 = (jz_m (jZ l dC dI aC H0 G) 170).2.2.1 := rfl
theorem hr_170 {l : Launch} {dC : Nat → ClassId} {dI : Nat → Nat → Nat} {aC : Nat → ClassId} {H0 : Heap} {G : jx_Gv} : (jz_m (jZ l dC dI aC H0 G) 170).2.2.2 = (some .int) := rfl
theorem hd_171 {l : Launch} {dC : Nat → ClassId} {dI : Nat → Nat → Nat} {aC : Nat → ClassId} {H0 : Heap} {G : jx_Gv} : jz_d (jZ l dC dI aC H0 G) 171 = (0, 0) := rfl
theorem hy_171 {l : Launch} {dC : Nat → ClassId} {dI : Nat → Nat → Nat} {aC : Nat → ClassId} {H0 : Heap} {G : jx_Gv} : (jz_m (jZ l dC dI aC H0 G) 171).1 = ({ cls := "PartText$Words", name := "nameOf", desc := "(I)J" } : Jvm.MethodName) := rfl
theorem hl_171 {l : Launch} {dC : Nat → ClassId} {dI : Nat → Nat → Nat} {aC : Nat → ClassId} {H0 : Heap} {G : jx_Gv} : (jz_m (jZ l dC dI aC H0 G) 171).2.2.1 = 3 := rfl
theorem hnl_171 {l : Launch} {dC : Nat → ClassId} {dI : Nat → Nat → Nat} {aC : Nat → ClassId} {H0 : Heap} {G : jx_Gv} : jNl 171 = (jz_m (jZ l dC dI aC H0 G) 171).2.2.1 := rfl
theorem hr_171 {l : Launch} {dC : Nat → ClassId} {dI : Nat → Nat → Nat} {aC : Nat → ClassId} {H0 : Heap} {G : jx_Gv} : (jz_m (jZ l dC dI aC H0 G) 171).2.2.2 = (some .long) := rfl
theorem hd_172 {l : Launch} {dC : Nat → ClassId} {dI : Nat → Nat → Nat} {aC : Nat → ClassId} {H0 : Heap} {G : jx_Gv} : jz_d (jZ l dC dI aC H0 G) 172 = (0, 0) := rfl
theorem hy_172 {l : Launch} {dC : Nat → ClassId} {dI : Nat → Nat → Nat} {aC : Nat → ClassId} {H0 : Heap} {G : jx_Gv} : (jz_m (jZ l dC dI aC H0 G) 172).1 = ({ cls := "PartText$Words", name := "octetOf", desc := "(I)I" } : Jvm.MethodName) := rfl
theorem hl_172 {l : Launch} {dC : Nat → ClassId} {dI : Nat → Nat → Nat} {aC : Nat → ClassId} {H0 : Heap} {G : jx_Gv} : (jz_m (jZ l dC dI aC H0 G) 172).2.2.1 = 1 := rfl
theorem hnl_172 {l : Launch} {dC : Nat → ClassId} {dI : Nat → Nat → Nat} {aC : Nat → ClassId} {H0 : Heap} {G : jx_Gv} : jNl 172 = (jz_m (jZ l dC dI aC H0 G) 172).2.2.1 := rfl
theorem hr_172 {l : Launch} {dC : Nat → ClassId} {dI : Nat → Nat → Nat} {aC : Nat → ClassId} {H0 : Heap} {G : jx_Gv} : (jz_m (jZ l dC dI aC H0 G) 172).2.2.2 = (some .int) := rfl
theorem hd_173 {l : Launch} {dC : Nat → ClassId} {dI : Nat → Nat → Nat} {aC : Nat → ClassId} {H0 : Heap} {G : jx_Gv} : jz_d (jZ l dC dI aC H0 G) 173 = (1, 21) := rfl
theorem hy_173 {l : Launch} {dC : Nat → ClassId} {dI : Nat → Nat → Nat} {aC : Nat → ClassId} {H0 : Heap} {G : jx_Gv} : (jz_m (jZ l dC dI aC H0 G) 173).1 = ({ cls := "PartText$Writer", name := "writeName", desc := "(J)V" } : Jvm.MethodName) := rfl
theorem hl_173 {l : Launch} {dC : Nat → ClassId} {dI : Nat → Nat → Nat} {aC : Nat → ClassId} {H0 : Heap} {G : jx_Gv} : (jz_m (jZ l dC dI aC H0 G) 173).2.2.1 = 6 := rfl
theorem hnl_173 {l : Launch} {dC : Nat → ClassId} {dI : Nat → Nat → Nat} {aC : Nat → ClassId} {H0 : Heap} {G : jx_Gv} : jNl 173 = (jz_m (jZ l dC dI aC H0 G) 173).2.2.1 := rfl
theorem hr_173 {l : Launch} {dC : Nat → ClassId} {dI : Nat → Nat → Nat} {aC : Nat → ClassId} {H0 : Heap} {G : jx_Gv} : (jz_m (jZ l dC dI aC H0 G) 173).2.2.2 = none := rfl
theorem hd_174 {l : Launch} {dC : Nat → ClassId} {dI : Nat → Nat → Nat} {aC : Nat → ClassId} {H0 : Heap} {G : jx_Gv} : jz_d (jZ l dC dI aC H0 G) 174 = (0, 0) := rfl
theorem hy_174 {l : Launch} {dC : Nat → ClassId} {dI : Nat → Nat → Nat} {aC : Nat → ClassId} {H0 : Heap} {G : jx_Gv} : (jz_m (jZ l dC dI aC H0 G) 174).1 = ({ cls := "PartText$Edition", name := "nameOf", desc := "(I)J" } : Jvm.MethodName) := rfl
theorem hl_174 {l : Launch} {dC : Nat → ClassId} {dI : Nat → Nat → Nat} {aC : Nat → ClassId} {H0 : Heap} {G : jx_Gv} : (jz_m (jZ l dC dI aC H0 G) 174).2.2.1 = 2 := rfl
theorem hnl_174 {l : Launch} {dC : Nat → ClassId} {dI : Nat → Nat → Nat} {aC : Nat → ClassId} {H0 : Heap} {G : jx_Gv} : jNl 174 = (jz_m (jZ l dC dI aC H0 G) 174).2.2.1 := rfl
theorem hr_174 {l : Launch} {dC : Nat → ClassId} {dI : Nat → Nat → Nat} {aC : Nat → ClassId} {H0 : Heap} {G : jx_Gv} : (jz_m (jZ l dC dI aC H0 G) 174).2.2.2 = (some .long) := rfl
theorem hd_175 {l : Launch} {dC : Nat → ClassId} {dI : Nat → Nat → Nat} {aC : Nat → ClassId} {H0 : Heap} {G : jx_Gv} : jz_d (jZ l dC dI aC H0 G) 175 = (1, 21) := rfl
theorem hy_175 {l : Launch} {dC : Nat → ClassId} {dI : Nat → Nat → Nat} {aC : Nat → ClassId} {H0 : Heap} {G : jx_Gv} : (jz_m (jZ l dC dI aC H0 G) 175).1 = ({ cls := "PartText$Writer", name := "writeNumber", desc := "(I)V" } : Jvm.MethodName) := rfl
theorem hl_175 {l : Launch} {dC : Nat → ClassId} {dI : Nat → Nat → Nat} {aC : Nat → ClassId} {H0 : Heap} {G : jx_Gv} : (jz_m (jZ l dC dI aC H0 G) 175).2.2.1 = 4 := rfl
theorem hnl_175 {l : Launch} {dC : Nat → ClassId} {dI : Nat → Nat → Nat} {aC : Nat → ClassId} {H0 : Heap} {G : jx_Gv} : jNl 175 = (jz_m (jZ l dC dI aC H0 G) 175).2.2.1 := rfl
theorem hr_175 {l : Launch} {dC : Nat → ClassId} {dI : Nat → Nat → Nat} {aC : Nat → ClassId} {H0 : Heap} {G : jx_Gv} : (jz_m (jZ l dC dI aC H0 G) 175).2.2.2 = none := rfl
theorem hd_176 {l : Launch} {dC : Nat → ClassId} {dI : Nat → Nat → Nat} {aC : Nat → ClassId} {H0 : Heap} {G : jx_Gv} : jz_d (jZ l dC dI aC H0 G) 176 = (2, 46) := rfl
theorem hy_176 {l : Launch} {dC : Nat → ClassId} {dI : Nat → Nat → Nat} {aC : Nat → ClassId} {H0 : Heap} {G : jx_Gv} : (jz_m (jZ l dC dI aC H0 G) 176).1 = ({ cls := "PartText$Writer", name := "writeToken", desc := "(LPartText$Edition;II)V" } : Jvm.MethodName) := rfl
theorem hl_176 {l : Launch} {dC : Nat → ClassId} {dI : Nat → Nat → Nat} {aC : Nat → ClassId} {H0 : Heap} {G : jx_Gv} : (jz_m (jZ l dC dI aC H0 G) 176).2.2.1 = 5 := rfl
theorem hnl_176 {l : Launch} {dC : Nat → ClassId} {dI : Nat → Nat → Nat} {aC : Nat → ClassId} {H0 : Heap} {G : jx_Gv} : jNl 176 = (jz_m (jZ l dC dI aC H0 G) 176).2.2.1 := rfl
theorem hr_176 {l : Launch} {dC : Nat → ClassId} {dI : Nat → Nat → Nat} {aC : Nat → ClassId} {H0 : Heap} {G : jx_Gv} : (jz_m (jZ l dC dI aC H0 G) 176).2.2.2 = none := rfl
theorem hd_177 {l : Launch} {dC : Nat → ClassId} {dI : Nat → Nat → Nat} {aC : Nat → ClassId} {H0 : Heap} {G : jx_Gv} : jz_d (jZ l dC dI aC H0 G) 177 = (3, 70) := rfl
theorem hy_177 {l : Launch} {dC : Nat → ClassId} {dI : Nat → Nat → Nat} {aC : Nat → ClassId} {H0 : Heap} {G : jx_Gv} : (jz_m (jZ l dC dI aC H0 G) 177).1 = ({ cls := "PartText$Writer", name := "writeRow", desc := "(LPartText$Edition;I)V" } : Jvm.MethodName) := rfl
theorem hl_177 {l : Launch} {dC : Nat → ClassId} {dI : Nat → Nat → Nat} {aC : Nat → ClassId} {H0 : Heap} {G : jx_Gv} : (jz_m (jZ l dC dI aC H0 G) 177).2.2.1 = 4 := rfl
theorem hnl_177 {l : Launch} {dC : Nat → ClassId} {dI : Nat → Nat → Nat} {aC : Nat → ClassId} {H0 : Heap} {G : jx_Gv} : jNl 177 = (jz_m (jZ l dC dI aC H0 G) 177).2.2.1 := rfl
theorem hr_177 {l : Launch} {dC : Nat → ClassId} {dI : Nat → Nat → Nat} {aC : Nat → ClassId} {H0 : Heap} {G : jx_Gv} : (jz_m (jZ l dC dI aC H0 G) 177).2.2.2 = none := rfl
theorem hd_178 {l : Launch} {dC : Nat → ClassId} {dI : Nat → Nat → Nat} {aC : Nat → ClassId} {H0 : Heap} {G : jx_Gv} : jz_d (jZ l dC dI aC H0 G) 178 = (4, 93) := rfl
theorem hy_178 {l : Launch} {dC : Nat → ClassId} {dI : Nat → Nat → Nat} {aC : Nat → ClassId} {H0 : Heap} {G : jx_Gv} : (jz_m (jZ l dC dI aC H0 G) 178).1 = ({ cls := "PartText$Writer", name := "write", desc := "(LPartText$Edition;)V" } : Jvm.MethodName) := rfl
theorem hl_178 {l : Launch} {dC : Nat → ClassId} {dI : Nat → Nat → Nat} {aC : Nat → ClassId} {H0 : Heap} {G : jx_Gv} : (jz_m (jZ l dC dI aC H0 G) 178).2.2.1 = 3 := rfl
theorem hnl_178 {l : Launch} {dC : Nat → ClassId} {dI : Nat → Nat → Nat} {aC : Nat → ClassId} {H0 : Heap} {G : jx_Gv} : jNl 178 = (jz_m (jZ l dC dI aC H0 G) 178).2.2.1 := rfl
theorem hr_178 {l : Launch} {dC : Nat → ClassId} {dI : Nat → Nat → Nat} {aC : Nat → ClassId} {H0 : Heap} {G : jx_Gv} : (jz_m (jZ l dC dI aC H0 G) 178).2.2.2 = none := rfl
theorem hd_179 {l : Launch} {dC : Nat → ClassId} {dI : Nat → Nat → Nat} {aC : Nat → ClassId} {H0 : Heap} {G : jx_Gv} : jz_d (jZ l dC dI aC H0 G) 179 = (0, 0) := rfl
theorem hy_179 {l : Launch} {dC : Nat → ClassId} {dI : Nat → Nat → Nat} {aC : Nat → ClassId} {H0 : Heap} {G : jx_Gv} : (jz_m (jZ l dC dI aC H0 G) 179).1 = ({ cls := "PartText$Octets", name := "isOverfull", desc := "()Z" } : Jvm.MethodName) := rfl
theorem hl_179 {l : Launch} {dC : Nat → ClassId} {dI : Nat → Nat → Nat} {aC : Nat → ClassId} {H0 : Heap} {G : jx_Gv} : (jz_m (jZ l dC dI aC H0 G) 179).2.2.1 = 1 := rfl
theorem hnl_179 {l : Launch} {dC : Nat → ClassId} {dI : Nat → Nat → Nat} {aC : Nat → ClassId} {H0 : Heap} {G : jx_Gv} : jNl 179 = (jz_m (jZ l dC dI aC H0 G) 179).2.2.1 := rfl
theorem hr_179 {l : Launch} {dC : Nat → ClassId} {dI : Nat → Nat → Nat} {aC : Nat → ClassId} {H0 : Heap} {G : jx_Gv} : (jz_m (jZ l dC dI aC H0 G) 179).2.2.2 = (some .boolean) := rfl
theorem hd_180 {l : Launch} {dC : Nat → ClassId} {dI : Nat → Nat → Nat} {aC : Nat → ClassId} {H0 : Heap} {G : jx_Gv} : jz_d (jZ l dC dI aC H0 G) 180 = (5, 115) := rfl
theorem hy_180 {l : Launch} {dC : Nat → ClassId} {dI : Nat → Nat → Nat} {aC : Nat → ClassId} {H0 : Heap} {G : jx_Gv} : (jz_m (jZ l dC dI aC H0 G) 180).1 = ({ cls := "PartText", name := "print", desc := "()I" } : Jvm.MethodName) := rfl
theorem hl_180 {l : Launch} {dC : Nat → ClassId} {dI : Nat → Nat → Nat} {aC : Nat → ClassId} {H0 : Heap} {G : jx_Gv} : (jz_m (jZ l dC dI aC H0 G) 180).2.2.1 = 2 := rfl
theorem hnl_180 {l : Launch} {dC : Nat → ClassId} {dI : Nat → Nat → Nat} {aC : Nat → ClassId} {H0 : Heap} {G : jx_Gv} : jNl 180 = (jz_m (jZ l dC dI aC H0 G) 180).2.2.1 := rfl
theorem hr_180 {l : Launch} {dC : Nat → ClassId} {dI : Nat → Nat → Nat} {aC : Nat → ClassId} {H0 : Heap} {G : jx_Gv} : (jz_m (jZ l dC dI aC H0 G) 180).2.2.2 = (some .int) := rfl
theorem hd_181 {l : Launch} {dC : Nat → ClassId} {dI : Nat → Nat → Nat} {aC : Nat → ClassId} {H0 : Heap} {G : jx_Gv} : jz_d (jZ l dC dI aC H0 G) 181 = (0, 0) := rfl
theorem hy_181 {l : Launch} {dC : Nat → ClassId} {dI : Nat → Nat → Nat} {aC : Nat → ClassId} {H0 : Heap} {G : jx_Gv} : (jz_m (jZ l dC dI aC H0 G) 181).1 = ({ cls := "PartTextModel", name := "print", desc := "()I" } : Jvm.MethodName) := rfl
theorem hl_181 {l : Launch} {dC : Nat → ClassId} {dI : Nat → Nat → Nat} {aC : Nat → ClassId} {H0 : Heap} {G : jx_Gv} : (jz_m (jZ l dC dI aC H0 G) 181).2.2.1 = 3 := rfl
theorem hnl_181 {l : Launch} {dC : Nat → ClassId} {dI : Nat → Nat → Nat} {aC : Nat → ClassId} {H0 : Heap} {G : jx_Gv} : jNl 181 = (jz_m (jZ l dC dI aC H0 G) 181).2.2.1 := rfl
theorem hr_181 {l : Launch} {dC : Nat → ClassId} {dI : Nat → Nat → Nat} {aC : Nat → ClassId} {H0 : Heap} {G : jx_Gv} : (jz_m (jZ l dC dI aC H0 G) 181).2.2.2 = (some .int) := rfl
theorem hd_182 {l : Launch} {dC : Nat → ClassId} {dI : Nat → Nat → Nat} {aC : Nat → ClassId} {H0 : Heap} {G : jx_Gv} : jz_d (jZ l dC dI aC H0 G) 182 = (1, 21) := rfl
theorem hy_182 {l : Launch} {dC : Nat → ClassId} {dI : Nat → Nat → Nat} {aC : Nat → ClassId} {H0 : Heap} {G : jx_Gv} : (jz_m (jZ l dC dI aC H0 G) 182).1 = ({ cls := "PartText", name := "at", desc := "(I)I" } : Jvm.MethodName) := rfl
theorem hl_182 {l : Launch} {dC : Nat → ClassId} {dI : Nat → Nat → Nat} {aC : Nat → ClassId} {H0 : Heap} {G : jx_Gv} : (jz_m (jZ l dC dI aC H0 G) 182).2.2.1 = 2 := rfl
theorem hnl_182 {l : Launch} {dC : Nat → ClassId} {dI : Nat → Nat → Nat} {aC : Nat → ClassId} {H0 : Heap} {G : jx_Gv} : jNl 182 = (jz_m (jZ l dC dI aC H0 G) 182).2.2.1 := rfl
theorem hr_182 {l : Launch} {dC : Nat → ClassId} {dI : Nat → Nat → Nat} {aC : Nat → ClassId} {H0 : Heap} {G : jx_Gv} : (jz_m (jZ l dC dI aC H0 G) 182).2.2.2 = (some .int) := rfl
theorem hd_183 {l : Launch} {dC : Nat → ClassId} {dI : Nat → Nat → Nat} {aC : Nat → ClassId} {H0 : Heap} {G : jx_Gv} : jz_d (jZ l dC dI aC H0 G) 183 = (0, 0) := rfl
theorem hy_183 {l : Launch} {dC : Nat → ClassId} {dI : Nat → Nat → Nat} {aC : Nat → ClassId} {H0 : Heap} {G : jx_Gv} : (jz_m (jZ l dC dI aC H0 G) 183).1 = ({ cls := "PartTextModel", name := "at", desc := "(I)I" } : Jvm.MethodName) := rfl
theorem hl_183 {l : Launch} {dC : Nat → ClassId} {dI : Nat → Nat → Nat} {aC : Nat → ClassId} {H0 : Heap} {G : jx_Gv} : (jz_m (jZ l dC dI aC H0 G) 183).2.2.1 = 2 := rfl
theorem hnl_183 {l : Launch} {dC : Nat → ClassId} {dI : Nat → Nat → Nat} {aC : Nat → ClassId} {H0 : Heap} {G : jx_Gv} : jNl 183 = (jz_m (jZ l dC dI aC H0 G) 183).2.2.1 := rfl
theorem hr_183 {l : Launch} {dC : Nat → ClassId} {dI : Nat → Nat → Nat} {aC : Nat → ClassId} {H0 : Heap} {G : jx_Gv} : (jz_m (jZ l dC dI aC H0 G) 183).2.2.2 = (some .int) := rfl
theorem hd_184 {l : Launch} {dC : Nat → ClassId} {dI : Nat → Nat → Nat} {aC : Nat → ClassId} {H0 : Heap} {G : jx_Gv} : jz_d (jZ l dC dI aC H0 G) 184 = (1, 22) := rfl
theorem hy_184 {l : Launch} {dC : Nat → ClassId} {dI : Nat → Nat → Nat} {aC : Nat → ClassId} {H0 : Heap} {G : jx_Gv} : (jz_m (jZ l dC dI aC H0 G) 184).1 = ({ cls := "PartText$Edition", name := "isSameToken", desc := "(IILPartText$Edition;I)Z" } : Jvm.MethodName) := rfl
theorem hl_184 {l : Launch} {dC : Nat → ClassId} {dI : Nat → Nat → Nat} {aC : Nat → ClassId} {H0 : Heap} {G : jx_Gv} : (jz_m (jZ l dC dI aC H0 G) 184).2.2.1 = 8 := rfl
theorem hnl_184 {l : Launch} {dC : Nat → ClassId} {dI : Nat → Nat → Nat} {aC : Nat → ClassId} {H0 : Heap} {G : jx_Gv} : jNl 184 = (jz_m (jZ l dC dI aC H0 G) 184).2.2.1 := rfl
theorem hr_184 {l : Launch} {dC : Nat → ClassId} {dI : Nat → Nat → Nat} {aC : Nat → ClassId} {H0 : Heap} {G : jx_Gv} : (jz_m (jZ l dC dI aC H0 G) 184).2.2.2 = (some .boolean) := rfl
theorem hd_185 {l : Launch} {dC : Nat → ClassId} {dI : Nat → Nat → Nat} {aC : Nat → ClassId} {H0 : Heap} {G : jx_Gv} : jz_d (jZ l dC dI aC H0 G) 185 = (2, 49) := rfl
theorem hy_185 {l : Launch} {dC : Nat → ClassId} {dI : Nat → Nat → Nat} {aC : Nat → ClassId} {H0 : Heap} {G : jx_Gv} : (jz_m (jZ l dC dI aC H0 G) 185).1 = ({ cls := "PartText$Edition", name := "isAlike", desc := "(ILPartText$Edition;I)Z" } : Jvm.MethodName) := rfl
theorem hl_185 {l : Launch} {dC : Nat → ClassId} {dI : Nat → Nat → Nat} {aC : Nat → ClassId} {H0 : Heap} {G : jx_Gv} : (jz_m (jZ l dC dI aC H0 G) 185).2.2.1 = 5 := rfl
theorem hnl_185 {l : Launch} {dC : Nat → ClassId} {dI : Nat → Nat → Nat} {aC : Nat → ClassId} {H0 : Heap} {G : jx_Gv} : jNl 185 = (jz_m (jZ l dC dI aC H0 G) 185).2.2.1 := rfl
theorem hr_185 {l : Launch} {dC : Nat → ClassId} {dI : Nat → Nat → Nat} {aC : Nat → ClassId} {H0 : Heap} {G : jx_Gv} : (jz_m (jZ l dC dI aC H0 G) 185).2.2.2 = (some .boolean) := rfl
theorem hd_186 {l : Launch} {dC : Nat → ClassId} {dI : Nat → Nat → Nat} {aC : Nat → ClassId} {H0 : Heap} {G : jx_Gv} : jz_d (jZ l dC dI aC H0 G) 186 = (3, 73) := rfl
theorem hy_186 {l : Launch} {dC : Nat → ClassId} {dI : Nat → Nat → Nat} {aC : Nat → ClassId} {H0 : Heap} {G : jx_Gv} : (jz_m (jZ l dC dI aC H0 G) 186).1 = ({ cls := "PartText$Edition", name := "isIn", desc := "(LPartText$Edition;I)Z" } : Jvm.MethodName) := rfl
theorem hl_186 {l : Launch} {dC : Nat → ClassId} {dI : Nat → Nat → Nat} {aC : Nat → ClassId} {H0 : Heap} {G : jx_Gv} : (jz_m (jZ l dC dI aC H0 G) 186).2.2.1 = 4 := rfl
theorem hnl_186 {l : Launch} {dC : Nat → ClassId} {dI : Nat → Nat → Nat} {aC : Nat → ClassId} {H0 : Heap} {G : jx_Gv} : jNl 186 = (jz_m (jZ l dC dI aC H0 G) 186).2.2.1 := rfl
theorem hr_186 {l : Launch} {dC : Nat → ClassId} {dI : Nat → Nat → Nat} {aC : Nat → ClassId} {H0 : Heap} {G : jx_Gv} : (jz_m (jZ l dC dI aC H0 G) 186).2.2.2 = (some .boolean) := rfl
theorem hd_187 {l : Launch} {dC : Nat → ClassId} {dI : Nat → Nat → Nat} {aC : Nat → ClassId} {H0 : Heap} {G : jx_Gv} : jz_d (jZ l dC dI aC H0 G) 187 = (4, 96) := rfl
theorem hy_187 {l : Launch} {dC : Nat → ClassId} {dI : Nat → Nat → Nat} {aC : Nat → ClassId} {H0 : Heap} {G : jx_Gv} : (jz_m (jZ l dC dI aC H0 G) 187).1 = ({ cls := "PartText$Edition", name := "countMissingIn", desc := "(LPartText$Edition;)I" } : Jvm.MethodName) := rfl
theorem hl_187 {l : Launch} {dC : Nat → ClassId} {dI : Nat → Nat → Nat} {aC : Nat → ClassId} {H0 : Heap} {G : jx_Gv} : (jz_m (jZ l dC dI aC H0 G) 187).2.2.1 = 4 := rfl
theorem hnl_187 {l : Launch} {dC : Nat → ClassId} {dI : Nat → Nat → Nat} {aC : Nat → ClassId} {H0 : Heap} {G : jx_Gv} : jNl 187 = (jz_m (jZ l dC dI aC H0 G) 187).2.2.1 := rfl
theorem hr_187 {l : Launch} {dC : Nat → ClassId} {dI : Nat → Nat → Nat} {aC : Nat → ClassId} {H0 : Heap} {G : jx_Gv} : (jz_m (jZ l dC dI aC H0 G) 187).2.2.2 = (some .int) := rfl
theorem hd_188 {l : Launch} {dC : Nat → ClassId} {dI : Nat → Nat → Nat} {aC : Nat → ClassId} {H0 : Heap} {G : jx_Gv} : jz_d (jZ l dC dI aC H0 G) 188 = (5, 119) := rfl
theorem hy_188 {l : Launch} {dC : Nat → ClassId} {dI : Nat → Nat → Nat} {aC : Nat → ClassId} {H0 : Heap} {G : jx_Gv} : (jz_m (jZ l dC dI aC H0 G) 188).1 = ({ cls := "PartText", name := "compare", desc := "(I)I" } : Jvm.MethodName) := rfl
theorem hl_188 {l : Launch} {dC : Nat → ClassId} {dI : Nat → Nat → Nat} {aC : Nat → ClassId} {H0 : Heap} {G : jx_Gv} : (jz_m (jZ l dC dI aC H0 G) 188).2.2.1 = 4 := rfl
theorem hnl_188 {l : Launch} {dC : Nat → ClassId} {dI : Nat → Nat → Nat} {aC : Nat → ClassId} {H0 : Heap} {G : jx_Gv} : jNl 188 = (jz_m (jZ l dC dI aC H0 G) 188).2.2.1 := rfl
theorem hr_188 {l : Launch} {dC : Nat → ClassId} {dI : Nat → Nat → Nat} {aC : Nat → ClassId} {H0 : Heap} {G : jx_Gv} : (jz_m (jZ l dC dI aC H0 G) 188).2.2.2 = (some .int) := rfl
theorem hd_189 {l : Launch} {dC : Nat → ClassId} {dI : Nat → Nat → Nat} {aC : Nat → ClassId} {H0 : Heap} {G : jx_Gv} : jz_d (jZ l dC dI aC H0 G) 189 = (0, 0) := rfl
theorem hy_189 {l : Launch} {dC : Nat → ClassId} {dI : Nat → Nat → Nat} {aC : Nat → ClassId} {H0 : Heap} {G : jx_Gv} : (jz_m (jZ l dC dI aC H0 G) 189).1 = ({ cls := "PartTextModel", name := "isAlike", desc := "(III)Z" } : Jvm.MethodName) := rfl
theorem hl_189 {l : Launch} {dC : Nat → ClassId} {dI : Nat → Nat → Nat} {aC : Nat → ClassId} {H0 : Heap} {G : jx_Gv} : (jz_m (jZ l dC dI aC H0 G) 189).2.2.1 = 7 := rfl
theorem hnl_189 {l : Launch} {dC : Nat → ClassId} {dI : Nat → Nat → Nat} {aC : Nat → ClassId} {H0 : Heap} {G : jx_Gv} : jNl 189 = (jz_m (jZ l dC dI aC H0 G) 189).2.2.1 := rfl
theorem hr_189 {l : Launch} {dC : Nat → ClassId} {dI : Nat → Nat → Nat} {aC : Nat → ClassId} {H0 : Heap} {G : jx_Gv} : (jz_m (jZ l dC dI aC H0 G) 189).2.2.2 = (some .boolean) := rfl
theorem hd_190 {l : Launch} {dC : Nat → ClassId} {dI : Nat → Nat → Nat} {aC : Nat → ClassId} {H0 : Heap} {G : jx_Gv} : jz_d (jZ l dC dI aC H0 G) 190 = (1, 26) := rfl
theorem hy_190 {l : Launch} {dC : Nat → ClassId} {dI : Nat → Nat → Nat} {aC : Nat → ClassId} {H0 : Heap} {G : jx_Gv} : (jz_m (jZ l dC dI aC H0 G) 190).1 = ({ cls := "PartTextModel", name := "compare", desc := "(I)I" } : Jvm.MethodName) := rfl
theorem hl_190 {l : Launch} {dC : Nat → ClassId} {dI : Nat → Nat → Nat} {aC : Nat → ClassId} {H0 : Heap} {G : jx_Gv} : (jz_m (jZ l dC dI aC H0 G) 190).2.2.1 = 8 := rfl
theorem hnl_190 {l : Launch} {dC : Nat → ClassId} {dI : Nat → Nat → Nat} {aC : Nat → ClassId} {H0 : Heap} {G : jx_Gv} : jNl 190 = (jz_m (jZ l dC dI aC H0 G) 190).2.2.1 := rfl
theorem hr_190 {l : Launch} {dC : Nat → ClassId} {dI : Nat → Nat → Nat} {aC : Nat → ClassId} {H0 : Heap} {G : jx_Gv} : (jz_m (jZ l dC dI aC H0 G) 190).2.2.2 = (some .int) := rfl
theorem hd_191 {l : Launch} {dC : Nat → ClassId} {dI : Nat → Nat → Nat} {aC : Nat → ClassId} {H0 : Heap} {G : jx_Gv} : jz_d (jZ l dC dI aC H0 G) 191 = (12, 270) := rfl
theorem hy_191 {l : Launch} {dC : Nat → ClassId} {dI : Nat → Nat → Nat} {aC : Nat → ClassId} {H0 : Heap} {G : jx_Gv} : (jz_m (jZ l dC dI aC H0 G) 191).1 = ({ cls := "PartTextLaw", name := "law", desc := "([I)Z" } : Jvm.MethodName) := rfl
theorem hl_191 {l : Launch} {dC : Nat → ClassId} {dI : Nat → Nat → Nat} {aC : Nat → ClassId} {H0 : Heap} {G : jx_Gv} : (jz_m (jZ l dC dI aC H0 G) 191).2.2.1 = 4 := rfl
theorem hnl_191 {l : Launch} {dC : Nat → ClassId} {dI : Nat → Nat → Nat} {aC : Nat → ClassId} {H0 : Heap} {G : jx_Gv} : jNl 191 = (jz_m (jZ l dC dI aC H0 G) 191).2.2.1 := rfl
theorem hr_191 {l : Launch} {dC : Nat → ClassId} {dI : Nat → Nat → Nat} {aC : Nat → ClassId} {H0 : Heap} {G : jx_Gv} : (jz_m (jZ l dC dI aC H0 G) 191).2.2.2 = (some .boolean) := rfl
