def M_H_putReady : ip_M := (⟨"ShareHouse", "putReady", "(II)V"⟩, prog_1_method_22_code, 4, none)
theorem oM_H_putReady : ip_okM lg_tbl M_H_putReady := ⟨by decide +kernel, ⟨by decide +kernel, by decide +kernel⟩, by decide, tt_3 _ (List.mem_of_getElem? (i := 135) rfl) rfl, tt_1 _ (List.mem_of_getElem? (i := 1) rfl) rfl⟩
def M_H_isText : ip_M := (⟨"ShareHouse", "isText", "(I)Z"⟩, prog_1_method_27_code, 1, (some .boolean))
theorem oM_H_isText : ip_okM lg_tbl M_H_isText := ⟨by decide +kernel, ⟨by decide +kernel, by decide +kernel⟩, by decide, tt_3 _ (List.mem_of_getElem? (i := 142) rfl) rfl, tt_1 _ (List.mem_of_getElem? (i := 1) rfl) rfl⟩
def M_Arrays_fill_52d : ip_M := (⟨"java/util/Arrays", "fill", "([BB)V"⟩, prog_21_method_109_code, 4, none)
theorem oM_Arrays_fill_52d : ip_okM lg_tbl M_Arrays_fill_52d := ⟨by decide +kernel, ⟨by decide +kernel, by decide +kernel⟩, by decide, tt_3 _ (List.mem_of_getElem? (i := 148) rfl) rfl, tt_1 _ (List.mem_of_getElem? (i := 16) rfl) rfl⟩
def M_Code_clear : ip_M := (⟨"ShareHouse$Code", "clear", "()V"⟩, prog_4_method_2_code, 1, none)
theorem oM_Code_clear : ip_okM lg_tbl M_Code_clear := ⟨by decide +kernel, ⟨by decide +kernel, by decide +kernel⟩, by decide, tt_3 _ (List.mem_of_getElem? (i := 156) rfl) rfl, tt_1 _ (List.mem_of_getElem? (i := 3) rfl) rfl⟩
def M_Names_clear : ip_M := (⟨"ShareHouse$Names", "clear", "(I)V"⟩, prog_8_method_2_code, 2, none)
theorem oM_Names_clear : ip_okM lg_tbl M_Names_clear := ⟨by decide +kernel, ⟨by decide +kernel, by decide +kernel⟩, by decide, tt_3 _ (List.mem_of_getElem? (i := 160) rfl) rfl, tt_1 _ (List.mem_of_getElem? (i := 4) rfl) rfl⟩
def M_Inputs_clear : ip_M := (⟨"ShareHouse$Inputs", "clear", "()V"⟩, prog_6_method_2_code, 1, none)
theorem oM_Inputs_clear : ip_okM lg_tbl M_Inputs_clear := ⟨by decide +kernel, ⟨by decide +kernel, by decide +kernel⟩, by decide, tt_3 _ (List.mem_of_getElem? (i := 164) rfl) rfl, tt_1 _ (List.mem_of_getElem? (i := 5) rfl) rfl⟩
def M_Arrays_fill_78e : ip_M := (⟨"java/util/Arrays", "fill", "([II)V"⟩, prog_21_method_103_code, 4, none)
theorem oM_Arrays_fill_78e : ip_okM lg_tbl M_Arrays_fill_78e := ⟨by decide +kernel, ⟨by decide +kernel, by decide +kernel⟩, by decide, tt_3 _ (List.mem_of_getElem? (i := 167) rfl) rfl, tt_1 _ (List.mem_of_getElem? (i := 16) rfl) rfl⟩
def M_Reader_readProgram : ip_M := (⟨"ShareHouse$Reader", "readProgram", "(I)V"⟩, prog_10_method_2_code, 3, none)
theorem oM_Reader_readProgram : ip_okM lg_tbl M_Reader_readProgram := ⟨by decide +kernel, ⟨by decide +kernel, by decide +kernel⟩, by decide, tt_3 _ (List.mem_of_getElem? (i := 171) rfl) rfl, tt_1 _ (List.mem_of_getElem? (i := 7) rfl) rfl⟩
def M_Words_begin : ip_M := (⟨"ShareHouse$Words", "begin", "(I)V"⟩, prog_12_method_2_code, 2, none)
theorem oM_Words_begin : ip_okM lg_tbl M_Words_begin := ⟨by decide +kernel, ⟨by decide +kernel, by decide +kernel⟩, by decide, tt_3 _ (List.mem_of_getElem? (i := 175) rfl) rfl, tt_1 _ (List.mem_of_getElem? (i := 8) rfl) rfl⟩
def M_Words_advance : ip_M := (⟨"ShareHouse$Words", "advance", "()V"⟩, prog_12_method_3_code, 2, none)
theorem oM_Words_advance : ip_okM lg_tbl M_Words_advance := ⟨by decide +kernel, ⟨by decide +kernel, by decide +kernel⟩, by decide, tt_3 _ (List.mem_of_getElem? (i := 179) rfl) rfl, tt_1 _ (List.mem_of_getElem? (i := 8) rfl) rfl⟩
def M_Words_skipBlanks : ip_M := (⟨"ShareHouse$Words", "skipBlanks", "()V"⟩, prog_12_method_7_code, 3, none)
theorem oM_Words_skipBlanks : ip_okM lg_tbl M_Words_skipBlanks := ⟨by decide +kernel, ⟨by decide +kernel, by decide +kernel⟩, by decide, tt_3 _ (List.mem_of_getElem? (i := 183) rfl) rfl, tt_1 _ (List.mem_of_getElem? (i := 8) rfl) rfl⟩
def M_Words_isDigit : ip_M := (⟨"ShareHouse$Words", "isDigit", "(I)Z"⟩, prog_12_method_5_code, 1, (some .boolean))
theorem oM_Words_isDigit : ip_okM lg_tbl M_Words_isDigit := ⟨by decide +kernel, ⟨by decide +kernel, by decide +kernel⟩, by decide, tt_3 _ (List.mem_of_getElem? (i := 186) rfl) rfl, tt_1 _ (List.mem_of_getElem? (i := 8) rfl) rfl⟩
def M_Words_isNameByte : ip_M := (⟨"ShareHouse$Words", "isNameByte", "(I)Z"⟩, prog_12_method_6_code, 1, (some .boolean))
theorem oM_Words_isNameByte : ip_okM lg_tbl M_Words_isNameByte := ⟨by decide +kernel, ⟨by decide +kernel, by decide +kernel⟩, by decide, tt_3 _ (List.mem_of_getElem? (i := 189) rfl) rfl, tt_1 _ (List.mem_of_getElem? (i := 8) rfl) rfl⟩
def M_Words_wordKind : ip_M := (⟨"ShareHouse$Words", "wordKind", "()I"⟩, prog_12_method_8_code, 6, (some .int))
theorem oM_Words_wordKind : ip_okM lg_tbl M_Words_wordKind := ⟨by decide +kernel, ⟨by decide +kernel, by decide +kernel⟩, by decide, tt_3 _ (List.mem_of_getElem? (i := 193) rfl) rfl, tt_1 _ (List.mem_of_getElem? (i := 8) rfl) rfl⟩
def M_StringUTF16_charAt : ip_M := (⟨"java/lang/StringUTF16", "charAt", "([BI)C"⟩, prog_19_method_83_code, 2, (some .char))
theorem oM_StringUTF16_charAt : ip_okM lg_tbl M_StringUTF16_charAt := ⟨by decide +kernel, ⟨by decide +kernel, by decide +kernel⟩, by decide, tt_3 _ (List.mem_of_getElem? (i := 226) rfl) rfl, tt_1 _ (List.mem_of_getElem? (i := 20) rfl) rfl⟩
def M_StringUTF16_checkIndex : ip_M := (⟨"java/lang/StringUTF16", "checkIndex", "(I[B)V"⟩, prog_19_method_91_code, 2, none)
theorem oM_StringUTF16_checkIndex : ip_okM lg_tbl M_StringUTF16_checkIndex := ⟨by decide +kernel, ⟨by decide +kernel, by decide +kernel⟩, by decide, tt_3 _ (List.mem_of_getElem? (i := 229) rfl) rfl, tt_1 _ (List.mem_of_getElem? (i := 20) rfl) rfl⟩
def M_StringUTF16_length : ip_M := (⟨"java/lang/StringUTF16", "length", "([B)I"⟩, prog_19_method_6_code, 1, (some .int))
theorem oM_StringUTF16_length : ip_okM lg_tbl M_StringUTF16_length := ⟨by decide +kernel, ⟨by decide +kernel, by decide +kernel⟩, by decide, tt_3 _ (List.mem_of_getElem? (i := 232) rfl) rfl, tt_1 _ (List.mem_of_getElem? (i := 20) rfl) rfl⟩
def M_StringUTF16_getChar : ip_M := (⟨"java/lang/StringUTF16", "getChar", "([BI)C"⟩, prog_19_method_5_code, 2, (some .char))
theorem oM_StringUTF16_getChar : ip_okM lg_tbl M_StringUTF16_getChar := ⟨by decide +kernel, ⟨by decide +kernel, by decide +kernel⟩, by decide, tt_3 _ (List.mem_of_getElem? (i := 236) rfl) rfl, tt_1 _ (List.mem_of_getElem? (i := 20) rfl) rfl⟩
def M_Words_signKind : ip_M := (⟨"ShareHouse$Words", "signKind", "(II)I"⟩, prog_12_method_9_code, 2, (some .int))
theorem oM_Words_signKind : ip_okM lg_tbl M_Words_signKind := ⟨by decide +kernel, ⟨by decide +kernel, by decide +kernel⟩, by decide, tt_4 _ (List.mem_of_getElem? (i := 5) rfl) rfl, tt_1 _ (List.mem_of_getElem? (i := 8) rfl) rfl⟩
def M_Reader_readInput : ip_M := (⟨"ShareHouse$Reader", "readInput", "()V"⟩, prog_10_method_3_code, 4, none)
theorem oM_Reader_readInput : ip_okM lg_tbl M_Reader_readInput := ⟨by decide +kernel, ⟨by decide +kernel, by decide +kernel⟩, by decide, tt_4 _ (List.mem_of_getElem? (i := 9) rfl) rfl, tt_1 _ (List.mem_of_getElem? (i := 7) rfl) rfl⟩
def M_Reader_takeName : ip_M := (⟨"ShareHouse$Reader", "takeName", "()I"⟩, prog_10_method_23_code, 2, (some .int))
theorem oM_Reader_takeName : ip_okM lg_tbl M_Reader_takeName := ⟨by decide +kernel, ⟨by decide +kernel, by decide +kernel⟩, by decide, tt_4 _ (List.mem_of_getElem? (i := 14) rfl) rfl, tt_1 _ (List.mem_of_getElem? (i := 7) rfl) rfl⟩
def M_Code_tell : ip_M := (⟨"ShareHouse$Code", "tell", "(II)V"⟩, prog_4_method_5_code, 3, none)
theorem oM_Code_tell : ip_okM lg_tbl M_Code_tell := ⟨by decide +kernel, ⟨by decide +kernel, by decide +kernel⟩, by decide, tt_4 _ (List.mem_of_getElem? (i := 18) rfl) rfl, tt_1 _ (List.mem_of_getElem? (i := 3) rfl) rfl⟩
def M_Reader_expect : ip_M := (⟨"ShareHouse$Reader", "expect", "(I)V"⟩, prog_10_method_21_code, 2, none)
theorem oM_Reader_expect : ip_okM lg_tbl M_Reader_expect := ⟨by decide +kernel, ⟨by decide +kernel, by decide +kernel⟩, by decide, tt_4 _ (List.mem_of_getElem? (i := 22) rfl) rfl, tt_1 _ (List.mem_of_getElem? (i := 7) rfl) rfl⟩
def M_Reader_takeNumber : ip_M := (⟨"ShareHouse$Reader", "takeNumber", "(JJ)J"⟩, prog_10_method_24_code, 7, (some .long))
theorem oM_Reader_takeNumber : ip_okM lg_tbl M_Reader_takeNumber := ⟨by decide +kernel, ⟨by decide +kernel, by decide +kernel⟩, by decide, tt_4 _ (List.mem_of_getElem? (i := 26) rfl) rfl, tt_1 _ (List.mem_of_getElem? (i := 7) rfl) rfl⟩
def M_Words_number : ip_M := (⟨"ShareHouse$Words", "number", "()J"⟩, prog_12_method_4_code, 4, (some .long))
theorem oM_Words_number : ip_okM lg_tbl M_Words_number := ⟨by decide +kernel, ⟨by decide +kernel, by decide +kernel⟩, by decide, tt_4 _ (List.mem_of_getElem? (i := 30) rfl) rfl, tt_1 _ (List.mem_of_getElem? (i := 8) rfl) rfl⟩
def M_Reader_takeTyped : ip_M := (⟨"ShareHouse$Reader", "takeTyped", "(III)I"⟩, prog_10_method_26_code, 6, (some .int))
theorem oM_Reader_takeTyped : ip_okM lg_tbl M_Reader_takeTyped := ⟨by decide +kernel, ⟨by decide +kernel, by decide +kernel⟩, by decide, tt_4 _ (List.mem_of_getElem? (i := 37) rfl) rfl, tt_1 _ (List.mem_of_getElem? (i := 7) rfl) rfl⟩
def M_Reader_takeSort : ip_M := (⟨"ShareHouse$Reader", "takeSort", "()I"⟩, prog_10_method_25_code, 2, (some .int))
theorem oM_Reader_takeSort : ip_okM lg_tbl M_Reader_takeSort := ⟨by decide +kernel, ⟨by decide +kernel, by decide +kernel⟩, by decide, tt_4 _ (List.mem_of_getElem? (i := 41) rfl) rfl, tt_1 _ (List.mem_of_getElem? (i := 7) rfl) rfl⟩
def M_Names_add : ip_M := (⟨"ShareHouse$Names", "add", "(IIIII)I"⟩, prog_8_method_3_code, 6, (some .int))
theorem oM_Names_add : ip_okM lg_tbl M_Names_add := ⟨by decide +kernel, ⟨by decide +kernel, by decide +kernel⟩, by decide, tt_4 _ (List.mem_of_getElem? (i := 47) rfl) rfl, tt_1 _ (List.mem_of_getElem? (i := 4) rfl) rfl⟩
def M_Names_stopOf : ip_M := (⟨"ShareHouse$Names", "stopOf", "(I)I"⟩, prog_8_method_12_code, 3, (some .int))
theorem oM_Names_stopOf : ip_okM lg_tbl M_Names_stopOf := ⟨by decide +kernel, ⟨by decide +kernel, by decide +kernel⟩, by decide, tt_4 _ (List.mem_of_getElem? (i := 51) rfl) rfl, tt_1 _ (List.mem_of_getElem? (i := 4) rfl) rfl⟩
def M_Names_words : ip_M := (⟨"ShareHouse$Names", "words", "(I)I"⟩, prog_8_method_4_code, 2, (some .int))
theorem oM_Names_words : ip_okM lg_tbl M_Names_words := ⟨by decide +kernel, ⟨by decide +kernel, by decide +kernel⟩, by decide, tt_4 _ (List.mem_of_getElem? (i := 56) rfl) rfl, tt_1 _ (List.mem_of_getElem? (i := 4) rfl) rfl⟩
def M_Inputs_add : ip_M := (⟨"ShareHouse$Inputs", "add", "(III)V"⟩, prog_6_method_3_code, 5, none)
theorem oM_Inputs_add : ip_okM lg_tbl M_Inputs_add := ⟨by decide +kernel, ⟨by decide +kernel, by decide +kernel⟩, by decide, tt_4 _ (List.mem_of_getElem? (i := 61) rfl) rfl, tt_1 _ (List.mem_of_getElem? (i := 5) rfl) rfl⟩
def M_Code_add : ip_M := (⟨"ShareHouse$Code", "add", "(III)I"⟩, prog_4_method_3_code, 4, (some .int))
theorem oM_Code_add : ip_okM lg_tbl M_Code_add := ⟨by decide +kernel, ⟨by decide +kernel, by decide +kernel⟩, by decide, tt_4 _ (List.mem_of_getElem? (i := 65) rfl) rfl, tt_1 _ (List.mem_of_getElem? (i := 3) rfl) rfl⟩
def M_Code_addWith : ip_M := (⟨"ShareHouse$Code", "addWith", "(IIII)I"⟩, prog_4_method_4_code, 5, (some .int))
theorem oM_Code_addWith : ip_okM lg_tbl M_Code_addWith := ⟨by decide +kernel, ⟨by decide +kernel, by decide +kernel⟩, by decide, tt_4 _ (List.mem_of_getElem? (i := 69) rfl) rfl, tt_1 _ (List.mem_of_getElem? (i := 3) rfl) rfl⟩
def M_Reader_readDef : ip_M := (⟨"ShareHouse$Reader", "readDef", "()V"⟩, prog_10_method_4_code, 6, none)
theorem oM_Reader_readDef : ip_okM lg_tbl M_Reader_readDef := ⟨by decide +kernel, ⟨by decide +kernel, by decide +kernel⟩, by decide, tt_4 _ (List.mem_of_getElem? (i := 73) rfl) rfl, tt_1 _ (List.mem_of_getElem? (i := 7) rfl) rfl⟩
def M_Reader_readParam : ip_M := (⟨"ShareHouse$Reader", "readParam", "(I)V"⟩, prog_10_method_5_code, 4, none)
theorem oM_Reader_readParam : ip_okM lg_tbl M_Reader_readParam := ⟨by decide +kernel, ⟨by decide +kernel, by decide +kernel⟩, by decide, tt_4 _ (List.mem_of_getElem? (i := 77) rfl) rfl, tt_1 _ (List.mem_of_getElem? (i := 7) rfl) rfl⟩
def M_Reader_readExpr : ip_M := (⟨"ShareHouse$Reader", "readExpr", "(I)V"⟩, prog_10_method_13_code, 3, none)
theorem oM_Reader_readExpr : ip_okM lg_tbl M_Reader_readExpr := ⟨by decide +kernel, ⟨by decide +kernel, by decide +kernel⟩, by decide, tt_4 _ (List.mem_of_getElem? (i := 81) rfl) rfl, tt_1 _ (List.mem_of_getElem? (i := 7) rfl) rfl⟩
def M_Reader_readChoice : ip_M := (⟨"ShareHouse$Reader", "readChoice", "(I)V"⟩, prog_10_method_14_code, 5, none)
theorem oM_Reader_readChoice : ip_okM lg_tbl M_Reader_readChoice := ⟨by decide +kernel, ⟨by decide +kernel, by decide +kernel⟩, by decide, tt_4 _ (List.mem_of_getElem? (i := 85) rfl) rfl, tt_1 _ (List.mem_of_getElem? (i := 7) rfl) rfl⟩
def M_Reader_readFactor : ip_M := (⟨"ShareHouse$Reader", "readFactor", "(I)V"⟩, prog_10_method_16_code, 4, none)
theorem oM_Reader_readFactor : ip_okM lg_tbl M_Reader_readFactor := ⟨by decide +kernel, ⟨by decide +kernel, by decide +kernel⟩, by decide, tt_4 _ (List.mem_of_getElem? (i := 89) rfl) rfl, tt_1 _ (List.mem_of_getElem? (i := 7) rfl) rfl⟩
def M_Reader_opens : ip_M := (⟨"ShareHouse$Reader", "opens", "(II)Z"⟩, prog_10_method_22_code, 3, (some .boolean))
theorem oM_Reader_opens : ip_okM lg_tbl M_Reader_opens := ⟨by decide +kernel, ⟨by decide +kernel, by decide +kernel⟩, by decide, tt_4 _ (List.mem_of_getElem? (i := 93) rfl) rfl, tt_1 _ (List.mem_of_getElem? (i := 7) rfl) rfl⟩
def M_Reader_readNamed : ip_M := (⟨"ShareHouse$Reader", "readNamed", "(I)V"⟩, prog_10_method_18_code, 4, none)
theorem oM_Reader_readNamed : ip_okM lg_tbl M_Reader_readNamed := ⟨by decide +kernel, ⟨by decide +kernel, by decide +kernel⟩, by decide, tt_4 _ (List.mem_of_getElem? (i := 98) rfl) rfl, tt_1 _ (List.mem_of_getElem? (i := 7) rfl) rfl⟩
def M_Reader_readIndex : ip_M := (⟨"ShareHouse$Reader", "readIndex", "(II)V"⟩, prog_10_method_19_code, 4, none)
theorem oM_Reader_readIndex : ip_okM lg_tbl M_Reader_readIndex := ⟨by decide +kernel, ⟨by decide +kernel, by decide +kernel⟩, by decide, tt_4 _ (List.mem_of_getElem? (i := 102) rfl) rfl, tt_1 _ (List.mem_of_getElem? (i := 7) rfl) rfl⟩
def M_Reader_readCall : ip_M := (⟨"ShareHouse$Reader", "readCall", "(II)V"⟩, prog_10_method_20_code, 7, none)
theorem oM_Reader_readCall : ip_okM lg_tbl M_Reader_readCall := ⟨by decide +kernel, ⟨by decide +kernel, by decide +kernel⟩, by decide, tt_4 _ (List.mem_of_getElem? (i := 106) rfl) rfl, tt_1 _ (List.mem_of_getElem? (i := 7) rfl) rfl⟩
def M_Reader_readConversion : ip_M := (⟨"ShareHouse$Reader", "readConversion", "(ZI)V"⟩, prog_10_method_17_code, 5, none)
theorem oM_Reader_readConversion : ip_okM lg_tbl M_Reader_readConversion := ⟨by decide +kernel, ⟨by decide +kernel, by decide +kernel⟩, by decide, tt_4 _ (List.mem_of_getElem? (i := 111) rfl) rfl, tt_1 _ (List.mem_of_getElem? (i := 7) rfl) rfl⟩
def M_Code_operatorOf : ip_M := (⟨"ShareHouse$Code", "operatorOf", "(I)I"⟩, prog_4_method_7_code, 1, (some .int))
theorem oM_Code_operatorOf : ip_okM lg_tbl M_Code_operatorOf := ⟨by decide +kernel, ⟨by decide +kernel, by decide +kernel⟩, by decide, tt_4 _ (List.mem_of_getElem? (i := 114) rfl) rfl, tt_1 _ (List.mem_of_getElem? (i := 3) rfl) rfl⟩
def M_Code_rank : ip_M := (⟨"ShareHouse$Code", "rank", "(I)I"⟩, prog_4_method_6_code, 1, (some .int))
theorem oM_Code_rank : ip_okM lg_tbl M_Code_rank := ⟨by decide +kernel, ⟨by decide +kernel, by decide +kernel⟩, by decide, tt_4 _ (List.mem_of_getElem? (i := 117) rfl) rfl, tt_1 _ (List.mem_of_getElem? (i := 3) rfl) rfl⟩
def M_Reader_settle : ip_M := (⟨"ShareHouse$Reader", "settle", "(II)V"⟩, prog_10_method_15_code, 3, none)
theorem oM_Reader_settle : ip_okM lg_tbl M_Reader_settle := ⟨by decide +kernel, ⟨by decide +kernel, by decide +kernel⟩, by decide, tt_4 _ (List.mem_of_getElem? (i := 123) rfl) rfl, tt_1 _ (List.mem_of_getElem? (i := 7) rfl) rfl⟩
def M_Reader_readOutput : ip_M := (⟨"ShareHouse$Reader", "readOutput", "()V"⟩, prog_10_method_6_code, 2, none)
theorem oM_Reader_readOutput : ip_okM lg_tbl M_Reader_readOutput := ⟨by decide +kernel, ⟨by decide +kernel, by decide +kernel⟩, by decide, tt_4 _ (List.mem_of_getElem? (i := 127) rfl) rfl, tt_1 _ (List.mem_of_getElem? (i := 7) rfl) rfl⟩
def M_Reader_readStatement : ip_M := (⟨"ShareHouse$Reader", "readStatement", "(I)V"⟩, prog_10_method_7_code, 2, none)
theorem oM_Reader_readStatement : ip_okM lg_tbl M_Reader_readStatement := ⟨by decide +kernel, ⟨by decide +kernel, by decide +kernel⟩, by decide, tt_4 _ (List.mem_of_getElem? (i := 131) rfl) rfl, tt_1 _ (List.mem_of_getElem? (i := 7) rfl) rfl⟩
def M_Reader_readVar : ip_M := (⟨"ShareHouse$Reader", "readVar", "(I)V"⟩, prog_10_method_8_code, 5, none)
theorem oM_Reader_readVar : ip_okM lg_tbl M_Reader_readVar := ⟨by decide +kernel, ⟨by decide +kernel, by decide +kernel⟩, by decide, tt_4 _ (List.mem_of_getElem? (i := 135) rfl) rfl, tt_1 _ (List.mem_of_getElem? (i := 7) rfl) rfl⟩
def M_Reader_readAssignment : ip_M := (⟨"ShareHouse$Reader", "readAssignment", "(I)V"⟩, prog_10_method_9_code, 6, none)
theorem oM_Reader_readAssignment : ip_okM lg_tbl M_Reader_readAssignment := ⟨by decide +kernel, ⟨by decide +kernel, by decide +kernel⟩, by decide, tt_4 _ (List.mem_of_getElem? (i := 139) rfl) rfl, tt_1 _ (List.mem_of_getElem? (i := 7) rfl) rfl⟩
def M_Reader_readIf : ip_M := (⟨"ShareHouse$Reader", "readIf", "(I)V"⟩, prog_10_method_10_code, 5, none)
theorem oM_Reader_readIf : ip_okM lg_tbl M_Reader_readIf := ⟨by decide +kernel, ⟨by decide +kernel, by decide +kernel⟩, by decide, tt_4 _ (List.mem_of_getElem? (i := 143) rfl) rfl, tt_1 _ (List.mem_of_getElem? (i := 7) rfl) rfl⟩
def M_Reader_readBlock : ip_M := (⟨"ShareHouse$Reader", "readBlock", "(I)V"⟩, prog_10_method_12_code, 3, none)
theorem oM_Reader_readBlock : ip_okM lg_tbl M_Reader_readBlock := ⟨by decide +kernel, ⟨by decide +kernel, by decide +kernel⟩, by decide, tt_4 _ (List.mem_of_getElem? (i := 147) rfl) rfl, tt_1 _ (List.mem_of_getElem? (i := 7) rfl) rfl⟩
def M_Reader_readFor : ip_M := (⟨"ShareHouse$Reader", "readFor", "(I)V"⟩, prog_10_method_11_code, 8, none)
theorem oM_Reader_readFor : ip_okM lg_tbl M_Reader_readFor := ⟨by decide +kernel, ⟨by decide +kernel, by decide +kernel⟩, by decide, tt_4 _ (List.mem_of_getElem? (i := 151) rfl) rfl, tt_1 _ (List.mem_of_getElem? (i := 7) rfl) rfl⟩
def M_Sorts_check : ip_M := (⟨"ShareHouse$Sorts", "check", "()V"⟩, prog_11_method_2_code, 3, none)
theorem oM_Sorts_check : ip_okM lg_tbl M_Sorts_check := ⟨by decide +kernel, ⟨by decide +kernel, by decide +kernel⟩, by decide, tt_4 _ (List.mem_of_getElem? (i := 155) rfl) rfl, tt_1 _ (List.mem_of_getElem? (i := 9) rfl) rfl⟩
def M_Sorts_checkStatement : ip_M := (⟨"ShareHouse$Sorts", "checkStatement", "(II)V"⟩, prog_11_method_3_code, 4, none)
theorem oM_Sorts_checkStatement : ip_okM lg_tbl M_Sorts_checkStatement := ⟨by decide +kernel, ⟨by decide +kernel, by decide +kernel⟩, by decide, tt_4 _ (List.mem_of_getElem? (i := 159) rfl) rfl, tt_1 _ (List.mem_of_getElem? (i := 9) rfl) rfl⟩
def M_Sorts_comeIn : ip_M := (⟨"ShareHouse$Sorts", "comeIn", "(I)V"⟩, prog_11_method_8_code, 2, none)
theorem oM_Sorts_comeIn : ip_okM lg_tbl M_Sorts_comeIn := ⟨by decide +kernel, ⟨by decide +kernel, by decide +kernel⟩, by decide, tt_4 _ (List.mem_of_getElem? (i := 163) rfl) rfl, tt_1 _ (List.mem_of_getElem? (i := 9) rfl) rfl⟩
def M_Names_find : ip_M := (⟨"ShareHouse$Names", "find", "(I)I"⟩, prog_8_method_10_code, 5, (some .int))
theorem oM_Names_find : ip_okM lg_tbl M_Names_find := ⟨by decide +kernel, ⟨by decide +kernel, by decide +kernel⟩, by decide, tt_4 _ (List.mem_of_getElem? (i := 167) rfl) rfl, tt_1 _ (List.mem_of_getElem? (i := 4) rfl) rfl⟩
def M_Names_isSame : ip_M := (⟨"ShareHouse$Names", "isSame", "(III)Z"⟩, prog_8_method_11_code, 5, (some .boolean))
theorem oM_Names_isSame : ip_okM lg_tbl M_Names_isSame := ⟨by decide +kernel, ⟨by decide +kernel, by decide +kernel⟩, by decide, tt_4 _ (List.mem_of_getElem? (i := 171) rfl) rfl, tt_1 _ (List.mem_of_getElem? (i := 4) rfl) rfl⟩
def M_Names_show : ip_M := (⟨"ShareHouse$Names", "show", "(I)V"⟩, prog_8_method_6_code, 2, none)
theorem oM_Names_show : ip_okM lg_tbl M_Names_show := ⟨by decide +kernel, ⟨by decide +kernel, by decide +kernel⟩, by decide, tt_4 _ (List.mem_of_getElem? (i := 176) rfl) rfl, tt_1 _ (List.mem_of_getElem? (i := 4) rfl) rfl⟩
def M_Names_enterDef : ip_M := (⟨"ShareHouse$Names", "enterDef", "()V"⟩, prog_8_method_8_code, 1, none)
theorem oM_Names_enterDef : ip_okM lg_tbl M_Names_enterDef := ⟨by decide +kernel, ⟨by decide +kernel, by decide +kernel⟩, by decide, tt_4 _ (List.mem_of_getElem? (i := 180) rfl) rfl, tt_1 _ (List.mem_of_getElem? (i := 4) rfl) rfl⟩
def M_Sorts_mustBe : ip_M := (⟨"ShareHouse$Sorts", "mustBe", "(II)I"⟩, prog_11_method_13_code, 4, (some .int))
theorem oM_Sorts_mustBe : ip_okM lg_tbl M_Sorts_mustBe := ⟨by decide +kernel, ⟨by decide +kernel, by decide +kernel⟩, by decide, tt_4 _ (List.mem_of_getElem? (i := 184) rfl) rfl, tt_1 _ (List.mem_of_getElem? (i := 9) rfl) rfl⟩
def M_Sorts_pop : ip_M := (⟨"ShareHouse$Sorts", "pop", "()I"⟩, prog_11_method_17_code, 1, (some .int))
theorem oM_Sorts_pop : ip_okM lg_tbl M_Sorts_pop := ⟨by decide +kernel, ⟨by decide +kernel, by decide +kernel⟩, by decide, tt_4 _ (List.mem_of_getElem? (i := 188) rfl) rfl, tt_1 _ (List.mem_of_getElem? (i := 9) rfl) rfl⟩
def M_Sorts_sortOf : ip_M := (⟨"ShareHouse$Sorts", "sortOf", "(I)I"⟩, prog_11_method_15_code, 1, (some .int))
theorem oM_Sorts_sortOf : ip_okM lg_tbl M_Sorts_sortOf := ⟨by decide +kernel, ⟨by decide +kernel, by decide +kernel⟩, by decide, tt_4 _ (List.mem_of_getElem? (i := 191) rfl) rfl, tt_1 _ (List.mem_of_getElem? (i := 9) rfl) rfl⟩
def M_Names_leaveDef : ip_M := (⟨"ShareHouse$Names", "leaveDef", "()V"⟩, prog_8_method_9_code, 1, none)
theorem oM_Names_leaveDef : ip_okM lg_tbl M_Names_leaveDef := ⟨by decide +kernel, ⟨by decide +kernel, by decide +kernel⟩, by decide, tt_4 _ (List.mem_of_getElem? (i := 195) rfl) rfl, tt_1 _ (List.mem_of_getElem? (i := 4) rfl) rfl⟩
def M_Sorts_checkTarget : ip_M := (⟨"ShareHouse$Sorts", "checkTarget", "(IZ)V"⟩, prog_11_method_10_code, 4, none)
theorem oM_Sorts_checkTarget : ip_okM lg_tbl M_Sorts_checkTarget := ⟨by decide +kernel, ⟨by decide +kernel, by decide +kernel⟩, by decide, tt_4 _ (List.mem_of_getElem? (i := 200) rfl) rfl, tt_1 _ (List.mem_of_getElem? (i := 9) rfl) rfl⟩
def M_Sorts_resolve : ip_M := (⟨"ShareHouse$Sorts", "resolve", "(I)I"⟩, prog_11_method_9_code, 3, (some .int))
theorem oM_Sorts_resolve : ip_okM lg_tbl M_Sorts_resolve := ⟨by decide +kernel, ⟨by decide +kernel, by decide +kernel⟩, by decide, tt_4 _ (List.mem_of_getElem? (i := 204) rfl) rfl, tt_1 _ (List.mem_of_getElem? (i := 9) rfl) rfl⟩
def M_Names_isArray : ip_M := (⟨"ShareHouse$Names", "isArray", "(I)Z"⟩, prog_8_method_5_code, 2, (some .boolean))
theorem oM_Names_isArray : ip_okM lg_tbl M_Names_isArray := ⟨by decide +kernel, ⟨by decide +kernel, by decide +kernel⟩, by decide, tt_4 _ (List.mem_of_getElem? (i := 208) rfl) rfl, tt_1 _ (List.mem_of_getElem? (i := 4) rfl) rfl⟩
def M_Sorts_noteAssigned : ip_M := (⟨"ShareHouse$Sorts", "noteAssigned", "(I)V"⟩, prog_11_method_21_code, 2, none)
theorem oM_Sorts_noteAssigned : ip_okM lg_tbl M_Sorts_noteAssigned := ⟨by decide +kernel, ⟨by decide +kernel, by decide +kernel⟩, by decide, tt_4 _ (List.mem_of_getElem? (i := 212) rfl) rfl, tt_1 _ (List.mem_of_getElem? (i := 9) rfl) rfl⟩
def M_Sorts_widen : ip_M := (⟨"ShareHouse$Sorts", "widen", "(III)V"⟩, prog_11_method_23_code, 4, none)
theorem oM_Sorts_widen : ip_okM lg_tbl M_Sorts_widen := ⟨by decide +kernel, ⟨by decide +kernel, by decide +kernel⟩, by decide, tt_4 _ (List.mem_of_getElem? (i := 216) rfl) rfl, tt_1 _ (List.mem_of_getElem? (i := 9) rfl) rfl⟩
def M_Sorts_checkFlow : ip_M := (⟨"ShareHouse$Sorts", "checkFlow", "(II)V"⟩, prog_11_method_4_code, 3, none)
theorem oM_Sorts_checkFlow : ip_okM lg_tbl M_Sorts_checkFlow := ⟨by decide +kernel, ⟨by decide +kernel, by decide +kernel⟩, by decide, tt_4 _ (List.mem_of_getElem? (i := 222) rfl) rfl, tt_1 _ (List.mem_of_getElem? (i := 9) rfl) rfl⟩
def M_Sorts_openScope : ip_M := (⟨"ShareHouse$Sorts", "openScope", "()V"⟩, prog_11_method_18_code, 1, none)
theorem oM_Sorts_openScope : ip_okM lg_tbl M_Sorts_openScope := ⟨by decide +kernel, ⟨by decide +kernel, by decide +kernel⟩, by decide, tt_4 _ (List.mem_of_getElem? (i := 226) rfl) rfl, tt_1 _ (List.mem_of_getElem? (i := 9) rfl) rfl⟩
def M_Sorts_openIf : ip_M := (⟨"ShareHouse$Sorts", "openIf", "()V"⟩, prog_11_method_20_code, 1, none)
theorem oM_Sorts_openIf : ip_okM lg_tbl M_Sorts_openIf := ⟨by decide +kernel, ⟨by decide +kernel, by decide +kernel⟩, by decide, tt_4 _ (List.mem_of_getElem? (i := 230) rfl) rfl, tt_1 _ (List.mem_of_getElem? (i := 9) rfl) rfl⟩
def M_Sorts_closeScope : ip_M := (⟨"ShareHouse$Sorts", "closeScope", "()V"⟩, prog_11_method_19_code, 1, none)
theorem oM_Sorts_closeScope : ip_okM lg_tbl M_Sorts_closeScope := ⟨by decide +kernel, ⟨by decide +kernel, by decide +kernel⟩, by decide, tt_4 _ (List.mem_of_getElem? (i := 234) rfl) rfl, tt_1 _ (List.mem_of_getElem? (i := 9) rfl) rfl⟩
def M_Names_hideFrom : ip_M := (⟨"ShareHouse$Names", "hideFrom", "(I)V"⟩, prog_8_method_7_code, 2, none)
theorem oM_Names_hideFrom : ip_okM lg_tbl M_Names_hideFrom := ⟨by decide +kernel, ⟨by decide +kernel, by decide +kernel⟩, by decide, tt_4 _ (List.mem_of_getElem? (i := 238) rfl) rfl, tt_1 _ (List.mem_of_getElem? (i := 4) rfl) rfl⟩
def M_Sorts_closeIf : ip_M := (⟨"ShareHouse$Sorts", "closeIf", "(I)V"⟩, prog_11_method_22_code, 2, none)
theorem oM_Sorts_closeIf : ip_okM lg_tbl M_Sorts_closeIf := ⟨by decide +kernel, ⟨by decide +kernel, by decide +kernel⟩, by decide, tt_5 _ (List.mem_of_getElem? (i := 3) rfl) rfl, tt_1 _ (List.mem_of_getElem? (i := 9) rfl) rfl⟩
def M_Sorts_mustBePublic : ip_M := (⟨"ShareHouse$Sorts", "mustBePublic", "(II)V"⟩, prog_11_method_14_code, 3, none)
theorem oM_Sorts_mustBePublic : ip_okM lg_tbl M_Sorts_mustBePublic := ⟨by decide +kernel, ⟨by decide +kernel, by decide +kernel⟩, by decide, tt_5 _ (List.mem_of_getElem? (i := 7) rfl) rfl, tt_1 _ (List.mem_of_getElem? (i := 9) rfl) rfl⟩
def M_Sorts_checkFactor : ip_M := (⟨"ShareHouse$Sorts", "checkFactor", "(II)V"⟩, prog_11_method_5_code, 4, none)
theorem oM_Sorts_checkFactor : ip_okM lg_tbl M_Sorts_checkFactor := ⟨by decide +kernel, ⟨by decide +kernel, by decide +kernel⟩, by decide, tt_5 _ (List.mem_of_getElem? (i := 11) rfl) rfl, tt_1 _ (List.mem_of_getElem? (i := 9) rfl) rfl⟩
def M_Sorts_push : ip_M := (⟨"ShareHouse$Sorts", "push", "(I)V"⟩, prog_11_method_16_code, 2, none)
theorem oM_Sorts_push : ip_okM lg_tbl M_Sorts_push := ⟨by decide +kernel, ⟨by decide +kernel, by decide +kernel⟩, by decide, tt_5 _ (List.mem_of_getElem? (i := 15) rfl) rfl, tt_1 _ (List.mem_of_getElem? (i := 9) rfl) rfl⟩
def M_Sorts_checkName : ip_M := (⟨"ShareHouse$Sorts", "checkName", "(I)V"⟩, prog_11_method_11_code, 3, none)
theorem oM_Sorts_checkName : ip_okM lg_tbl M_Sorts_checkName := ⟨by decide +kernel, ⟨by decide +kernel, by decide +kernel⟩, by decide, tt_5 _ (List.mem_of_getElem? (i := 19) rfl) rfl, tt_1 _ (List.mem_of_getElem? (i := 9) rfl) rfl⟩
def M_Sorts_checkHead : ip_M := (⟨"ShareHouse$Sorts", "checkHead", "(IZ)V"⟩, prog_11_method_12_code, 5, none)
theorem oM_Sorts_checkHead : ip_okM lg_tbl M_Sorts_checkHead := ⟨by decide +kernel, ⟨by decide +kernel, by decide +kernel⟩, by decide, tt_5 _ (List.mem_of_getElem? (i := 23) rfl) rfl, tt_1 _ (List.mem_of_getElem? (i := 9) rfl) rfl⟩
def M_Sorts_checkSign : ip_M := (⟨"ShareHouse$Sorts", "checkSign", "(II)V"⟩, prog_11_method_6_code, 6, none)
theorem oM_Sorts_checkSign : ip_okM lg_tbl M_Sorts_checkSign := ⟨by decide +kernel, ⟨by decide +kernel, by decide +kernel⟩, by decide, tt_5 _ (List.mem_of_getElem? (i := 27) rfl) rfl, tt_1 _ (List.mem_of_getElem? (i := 9) rfl) rfl⟩
def M_Sorts_checkOperator : ip_M := (⟨"ShareHouse$Sorts", "checkOperator", "(II)V"⟩, prog_11_method_7_code, 9, none)
theorem oM_Sorts_checkOperator : ip_okM lg_tbl M_Sorts_checkOperator := ⟨by decide +kernel, ⟨by decide +kernel, by decide +kernel⟩, by decide, tt_5 _ (List.mem_of_getElem? (i := 31) rfl) rfl, tt_1 _ (List.mem_of_getElem? (i := 9) rfl) rfl⟩
def M_Circuit_clear : ip_M := (⟨"ShareHouse$Circuit", "clear", "(I)V"⟩, prog_3_method_2_code, 2, none)
theorem oM_Circuit_clear : ip_okM lg_tbl M_Circuit_clear := ⟨by decide +kernel, ⟨by decide +kernel, by decide +kernel⟩, by decide, tt_5 _ (List.mem_of_getElem? (i := 35) rfl) rfl, tt_1 _ (List.mem_of_getElem? (i := 6) rfl) rfl⟩
def M_Builder_build : ip_M := (⟨"ShareHouse$Builder", "build", "()V"⟩, prog_2_method_2_code, 4, none)
theorem oM_Builder_build : ip_okM lg_tbl M_Builder_build := ⟨by decide +kernel, ⟨by decide +kernel, by decide +kernel⟩, by decide, tt_5 _ (List.mem_of_getElem? (i := 39) rfl) rfl, tt_1 _ (List.mem_of_getElem? (i := 10) rfl) rfl⟩
def M_Builder_finds : ip_M := (⟨"ShareHouse$Builder", "finds", "(I)Z"⟩, prog_2_method_3_code, 2, (some .boolean))
theorem oM_Builder_finds : ip_okM lg_tbl M_Builder_finds := ⟨by decide +kernel, ⟨by decide +kernel, by decide +kernel⟩, by decide, tt_5 _ (List.mem_of_getElem? (i := 45) rfl) rfl, tt_1 _ (List.mem_of_getElem? (i := 10) rfl) rfl⟩
def M_Builder_buildStatement : ip_M := (⟨"ShareHouse$Builder", "buildStatement", "(II)V"⟩, prog_2_method_4_code, 4, none)
theorem oM_Builder_buildStatement : ip_okM lg_tbl M_Builder_buildStatement := ⟨by decide +kernel, ⟨by decide +kernel, by decide +kernel⟩, by decide, tt_5 _ (List.mem_of_getElem? (i := 51) rfl) rfl, tt_1 _ (List.mem_of_getElem? (i := 10) rfl) rfl⟩
def M_Builder_goBack : ip_M := (⟨"ShareHouse$Builder", "goBack", "()V"⟩, prog_2_method_24_code, 1, none)
theorem oM_Builder_goBack : ip_okM lg_tbl M_Builder_goBack := ⟨by decide +kernel, ⟨by decide +kernel, by decide +kernel⟩, by decide, tt_5 _ (List.mem_of_getElem? (i := 55) rfl) rfl, tt_1 _ (List.mem_of_getElem? (i := 10) rfl) rfl⟩
def M_Builder_keepAll : ip_M := (⟨"ShareHouse$Builder", "keepAll", "(I)V"⟩, prog_2_method_16_code, 3, none)
theorem oM_Builder_keepAll : ip_okM lg_tbl M_Builder_keepAll := ⟨by decide +kernel, ⟨by decide +kernel, by decide +kernel⟩, by decide, tt_5 _ (List.mem_of_getElem? (i := 60) rfl) rfl, tt_1 _ (List.mem_of_getElem? (i := 10) rfl) rfl⟩
def M_Builder_keep : ip_M := (⟨"ShareHouse$Builder", "keep", "(III)V"⟩, prog_2_method_17_code, 4, none)
theorem oM_Builder_keep : ip_okM lg_tbl M_Builder_keep := ⟨by decide +kernel, ⟨by decide +kernel, by decide +kernel⟩, by decide, tt_5 _ (List.mem_of_getElem? (i := 65) rfl) rfl, tt_1 _ (List.mem_of_getElem? (i := 10) rfl) rfl⟩
def M_Builder_bitsOf : ip_M := (⟨"ShareHouse$Builder", "bitsOf", "(I)I"⟩, prog_2_method_30_code, 2, (some .int))
theorem oM_Builder_bitsOf : ip_okM lg_tbl M_Builder_bitsOf := ⟨by decide +kernel, ⟨by decide +kernel, by decide +kernel⟩, by decide, tt_5 _ (List.mem_of_getElem? (i := 69) rfl) rfl, tt_1 _ (List.mem_of_getElem? (i := 10) rfl) rfl⟩
def M_Builder_clearRow : ip_M := (⟨"ShareHouse$Builder", "clearRow", "([III)V"⟩, prog_2_method_18_code, 4, none)
theorem oM_Builder_clearRow : ip_okM lg_tbl M_Builder_clearRow := ⟨by decide +kernel, ⟨by decide +kernel, by decide +kernel⟩, by decide, tt_5 _ (List.mem_of_getElem? (i := 72) rfl) rfl, tt_1 _ (List.mem_of_getElem? (i := 10) rfl) rfl⟩
def M_Builder_storeElement : ip_M := (⟨"ShareHouse$Builder", "storeElement", "(I)V"⟩, prog_2_method_15_code, 8, none)
theorem oM_Builder_storeElement : ip_okM lg_tbl M_Builder_storeElement := ⟨by decide +kernel, ⟨by decide +kernel, by decide +kernel⟩, by decide, tt_5 _ (List.mem_of_getElem? (i := 76) rfl) rfl, tt_1 _ (List.mem_of_getElem? (i := 10) rfl) rfl⟩
def M_Logic_number : ip_M := (⟨"ShareHouse$Logic", "number", "([II)J"⟩, prog_7_method_17_code, 6, (some .long))
theorem oM_Logic_number : ip_okM lg_tbl M_Logic_number := ⟨by decide +kernel, ⟨by decide +kernel, by decide +kernel⟩, by decide, tt_5 _ (List.mem_of_getElem? (i := 80) rfl) rfl, tt_1 _ (List.mem_of_getElem? (i := 11) rfl) rfl⟩
def M_Logic_equalTo : ip_M := (⟨"ShareHouse$Logic", "equalTo", "([III)I"⟩, prog_7_method_10_code, 5, (some .int))
theorem oM_Logic_equalTo : ip_okM lg_tbl M_Logic_equalTo := ⟨by decide +kernel, ⟨by decide +kernel, by decide +kernel⟩, by decide, tt_5 _ (List.mem_of_getElem? (i := 84) rfl) rfl, tt_1 _ (List.mem_of_getElem? (i := 11) rfl) rfl⟩
def M_Circuit_xor : ip_M := (⟨"ShareHouse$Circuit", "xor", "(II)I"⟩, prog_3_method_5_code, 4, (some .int))
theorem oM_Circuit_xor : ip_okM lg_tbl M_Circuit_xor := ⟨by decide +kernel, ⟨by decide +kernel, by decide +kernel⟩, by decide, tt_5 _ (List.mem_of_getElem? (i := 88) rfl) rfl, tt_1 _ (List.mem_of_getElem? (i := 6) rfl) rfl⟩
def M_Circuit_levelOf : ip_M := (⟨"ShareHouse$Circuit", "levelOf", "(I)I"⟩, prog_3_method_4_code, 3, (some .int))
theorem oM_Circuit_levelOf : ip_okM lg_tbl M_Circuit_levelOf := ⟨by decide +kernel, ⟨by decide +kernel, by decide +kernel⟩, by decide, tt_5 _ (List.mem_of_getElem? (i := 92) rfl) rfl, tt_1 _ (List.mem_of_getElem? (i := 6) rfl) rfl⟩
def M_Circuit_newGate : ip_M := (⟨"ShareHouse$Circuit", "newGate", "(IIZI)I"⟩, prog_3_method_7_code, 5, (some .int))
theorem oM_Circuit_newGate : ip_okM lg_tbl M_Circuit_newGate := ⟨by decide +kernel, ⟨by decide +kernel, by decide +kernel⟩, by decide, tt_5 _ (List.mem_of_getElem? (i := 97) rfl) rfl, tt_1 _ (List.mem_of_getElem? (i := 6) rfl) rfl⟩
def M_Logic_all : ip_M := (⟨"ShareHouse$Logic", "all", "(I)I"⟩, prog_7_method_11_code, 4, (some .int))
theorem oM_Logic_all : ip_okM lg_tbl M_Logic_all := ⟨by decide +kernel, ⟨by decide +kernel, by decide +kernel⟩, by decide, tt_5 _ (List.mem_of_getElem? (i := 101) rfl) rfl, tt_1 _ (List.mem_of_getElem? (i := 11) rfl) rfl⟩
def M_Circuit_and : ip_M := (⟨"ShareHouse$Circuit", "and", "(II)I"⟩, prog_3_method_6_code, 3, (some .int))
theorem oM_Circuit_and : ip_okM lg_tbl M_Circuit_and := ⟨by decide +kernel, ⟨by decide +kernel, by decide +kernel⟩, by decide, tt_5 _ (List.mem_of_getElem? (i := 105) rfl) rfl, tt_1 _ (List.mem_of_getElem? (i := 6) rfl) rfl⟩
def M_Logic_mux : ip_M := (⟨"ShareHouse$Logic", "mux", "(III)I"⟩, prog_7_method_3_code, 4, (some .int))
theorem oM_Logic_mux : ip_okM lg_tbl M_Logic_mux := ⟨by decide +kernel, ⟨by decide +kernel, by decide +kernel⟩, by decide, tt_5 _ (List.mem_of_getElem? (i := 109) rfl) rfl, tt_1 _ (List.mem_of_getElem? (i := 11) rfl) rfl⟩
def M_Circuit_addOutput : ip_M := (⟨"ShareHouse$Circuit", "addOutput", "([III)V"⟩, prog_3_method_8_code, 5, none)
theorem oM_Circuit_addOutput : ip_okM lg_tbl M_Circuit_addOutput := ⟨by decide +kernel, ⟨by decide +kernel, by decide +kernel⟩, by decide, tt_5 _ (List.mem_of_getElem? (i := 113) rfl) rfl, tt_1 _ (List.mem_of_getElem? (i := 6) rfl) rfl⟩
def M_Builder_buildFlow : ip_M := (⟨"ShareHouse$Builder", "buildFlow", "(II)V"⟩, prog_2_method_5_code, 3, none)
theorem oM_Builder_buildFlow : ip_okM lg_tbl M_Builder_buildFlow := ⟨by decide +kernel, ⟨by decide +kernel, by decide +kernel⟩, by decide, tt_5 _ (List.mem_of_getElem? (i := 118) rfl) rfl, tt_1 _ (List.mem_of_getElem? (i := 10) rfl) rfl⟩
def M_Builder_openIf : ip_M := (⟨"ShareHouse$Builder", "openIf", "(I)V"⟩, prog_2_method_25_code, 4, none)
theorem oM_Builder_openIf : ip_okM lg_tbl M_Builder_openIf := ⟨by decide +kernel, ⟨by decide +kernel, by decide +kernel⟩, by decide, tt_5 _ (List.mem_of_getElem? (i := 122) rfl) rfl, tt_1 _ (List.mem_of_getElem? (i := 10) rfl) rfl⟩
def M_Builder_turnIf : ip_M := (⟨"ShareHouse$Builder", "turnIf", "(I)V"⟩, prog_2_method_26_code, 6, none)
theorem oM_Builder_turnIf : ip_okM lg_tbl M_Builder_turnIf := ⟨by decide +kernel, ⟨by decide +kernel, by decide +kernel⟩, by decide, tt_5 _ (List.mem_of_getElem? (i := 126) rfl) rfl, tt_1 _ (List.mem_of_getElem? (i := 10) rfl) rfl⟩
def M_Builder_closeIf : ip_M := (⟨"ShareHouse$Builder", "closeIf", "(I)V"⟩, prog_2_method_27_code, 6, none)
theorem oM_Builder_closeIf : ip_okM lg_tbl M_Builder_closeIf := ⟨by decide +kernel, ⟨by decide +kernel, by decide +kernel⟩, by decide, tt_5 _ (List.mem_of_getElem? (i := 130) rfl) rfl, tt_1 _ (List.mem_of_getElem? (i := 10) rfl) rfl⟩
def M_Builder_beginLoop : ip_M := (⟨"ShareHouse$Builder", "beginLoop", "(I)V"⟩, prog_2_method_28_code, 3, none)
theorem oM_Builder_beginLoop : ip_okM lg_tbl M_Builder_beginLoop := ⟨by decide +kernel, ⟨by decide +kernel, by decide +kernel⟩, by decide, tt_5 _ (List.mem_of_getElem? (i := 134) rfl) rfl, tt_1 _ (List.mem_of_getElem? (i := 10) rfl) rfl⟩
def M_Builder_takeNextTurn : ip_M := (⟨"ShareHouse$Builder", "takeNextTurn", "(I)V"⟩, prog_2_method_29_code, 3, none)
theorem oM_Builder_takeNextTurn : ip_okM lg_tbl M_Builder_takeNextTurn := ⟨by decide +kernel, ⟨by decide +kernel, by decide +kernel⟩, by decide, tt_5 _ (List.mem_of_getElem? (i := 140) rfl) rfl, tt_1 _ (List.mem_of_getElem? (i := 10) rfl) rfl⟩
def M_Builder_buildFactor : ip_M := (⟨"ShareHouse$Builder", "buildFactor", "(II)V"⟩, prog_2_method_6_code, 3, none)
theorem oM_Builder_buildFactor : ip_okM lg_tbl M_Builder_buildFactor := ⟨by decide +kernel, ⟨by decide +kernel, by decide +kernel⟩, by decide, tt_5 _ (List.mem_of_getElem? (i := 144) rfl) rfl, tt_1 _ (List.mem_of_getElem? (i := 10) rfl) rfl⟩
def M_Builder_pushNumber : ip_M := (⟨"ShareHouse$Builder", "pushNumber", "(J)V"⟩, prog_2_method_22_code, 3, none)
theorem oM_Builder_pushNumber : ip_okM lg_tbl M_Builder_pushNumber := ⟨by decide +kernel, ⟨by decide +kernel, by decide +kernel⟩, by decide, tt_5 _ (List.mem_of_getElem? (i := 148) rfl) rfl, tt_1 _ (List.mem_of_getElem? (i := 10) rfl) rfl⟩
def M_Logic_put : ip_M := (⟨"ShareHouse$Logic", "put", "([IIJ)V"⟩, prog_7_method_18_code, 6, none)
theorem oM_Logic_put : ip_okM lg_tbl M_Logic_put := ⟨by decide +kernel, ⟨by decide +kernel, by decide +kernel⟩, by decide, tt_5 _ (List.mem_of_getElem? (i := 152) rfl) rfl, tt_1 _ (List.mem_of_getElem? (i := 11) rfl) rfl⟩
def M_Builder_pushNamed : ip_M := (⟨"ShareHouse$Builder", "pushNamed", "(I)V"⟩, prog_2_method_21_code, 2, none)
theorem oM_Builder_pushNamed : ip_okM lg_tbl M_Builder_pushNamed := ⟨by decide +kernel, ⟨by decide +kernel, by decide +kernel⟩, by decide, tt_5 _ (List.mem_of_getElem? (i := 156) rfl) rfl, tt_1 _ (List.mem_of_getElem? (i := 10) rfl) rfl⟩
def M_Builder_load : ip_M := (⟨"ShareHouse$Builder", "load", "(III)V"⟩, prog_2_method_19_code, 5, none)
theorem oM_Builder_load : ip_okM lg_tbl M_Builder_load := ⟨by decide +kernel, ⟨by decide +kernel, by decide +kernel⟩, by decide, tt_5 _ (List.mem_of_getElem? (i := 160) rfl) rfl, tt_1 _ (List.mem_of_getElem? (i := 10) rfl) rfl⟩
def M_Builder_literalOf : ip_M := (⟨"ShareHouse$Builder", "literalOf", "(III)I"⟩, prog_2_method_20_code, 5, (some .int))
theorem oM_Builder_literalOf : ip_okM lg_tbl M_Builder_literalOf := ⟨by decide +kernel, ⟨by decide +kernel, by decide +kernel⟩, by decide, tt_5 _ (List.mem_of_getElem? (i := 164) rfl) rfl, tt_1 _ (List.mem_of_getElem? (i := 10) rfl) rfl⟩
def M_Builder_checkIndex : ip_M := (⟨"ShareHouse$Builder", "checkIndex", "(I)V"⟩, prog_2_method_13_code, 3, none)
theorem oM_Builder_checkIndex : ip_okM lg_tbl M_Builder_checkIndex := ⟨by decide +kernel, ⟨by decide +kernel, by decide +kernel⟩, by decide, tt_5 _ (List.mem_of_getElem? (i := 168) rfl) rfl, tt_1 _ (List.mem_of_getElem? (i := 10) rfl) rfl⟩
def M_Builder_readElement : ip_M := (⟨"ShareHouse$Builder", "readElement", "(I)V"⟩, prog_2_method_14_code, 7, none)
theorem oM_Builder_readElement : ip_okM lg_tbl M_Builder_readElement := ⟨by decide +kernel, ⟨by decide +kernel, by decide +kernel⟩, by decide, tt_5 _ (List.mem_of_getElem? (i := 172) rfl) rfl, tt_1 _ (List.mem_of_getElem? (i := 10) rfl) rfl⟩
def M_Builder_call : ip_M := (⟨"ShareHouse$Builder", "call", "(I)V"⟩, prog_2_method_23_code, 2, none)
theorem oM_Builder_call : ip_okM lg_tbl M_Builder_call := ⟨by decide +kernel, ⟨by decide +kernel, by decide +kernel⟩, by decide, tt_5 _ (List.mem_of_getElem? (i := 178) rfl) rfl, tt_1 _ (List.mem_of_getElem? (i := 10) rfl) rfl⟩
def M_Builder_takeBit : ip_M := (⟨"ShareHouse$Builder", "takeBit", "(I)V"⟩, prog_2_method_12_code, 5, none)
theorem oM_Builder_takeBit : ip_okM lg_tbl M_Builder_takeBit := ⟨by decide +kernel, ⟨by decide +kernel, by decide +kernel⟩, by decide, tt_5 _ (List.mem_of_getElem? (i := 182) rfl) rfl, tt_1 _ (List.mem_of_getElem? (i := 10) rfl) rfl⟩
def M_Builder_buildSign : ip_M := (⟨"ShareHouse$Builder", "buildSign", "(II)V"⟩, prog_2_method_7_code, 4, none)
theorem oM_Builder_buildSign : ip_okM lg_tbl M_Builder_buildSign := ⟨by decide +kernel, ⟨by decide +kernel, by decide +kernel⟩, by decide, tt_5 _ (List.mem_of_getElem? (i := 186) rfl) rfl, tt_1 _ (List.mem_of_getElem? (i := 10) rfl) rfl⟩
def M_Logic_negate : ip_M := (⟨"ShareHouse$Logic", "negate", "([II)V"⟩, prog_7_method_7_code, 3, none)
theorem oM_Logic_negate : ip_okM lg_tbl M_Logic_negate := ⟨by decide +kernel, ⟨by decide +kernel, by decide +kernel⟩, by decide, tt_5 _ (List.mem_of_getElem? (i := 190) rfl) rfl, tt_1 _ (List.mem_of_getElem? (i := 11) rfl) rfl⟩
def M_Logic_flip : ip_M := (⟨"ShareHouse$Logic", "flip", "([II)V"⟩, prog_7_method_5_code, 4, none)
theorem oM_Logic_flip : ip_okM lg_tbl M_Logic_flip := ⟨by decide +kernel, ⟨by decide +kernel, by decide +kernel⟩, by decide, tt_5 _ (List.mem_of_getElem? (i := 194) rfl) rfl, tt_1 _ (List.mem_of_getElem? (i := 11) rfl) rfl⟩
def M_Logic_sum : ip_M := (⟨"ShareHouse$Logic", "sum", "([II[IIII)V"⟩, prog_7_method_4_code, 12, none)
theorem oM_Logic_sum : ip_okM lg_tbl M_Logic_sum := ⟨by decide +kernel, ⟨by decide +kernel, by decide +kernel⟩, by decide, tt_5 _ (List.mem_of_getElem? (i := 199) rfl) rfl, tt_1 _ (List.mem_of_getElem? (i := 11) rfl) rfl⟩
def M_Builder_choose : ip_M := (⟨"ShareHouse$Builder", "choose", "(I)V"⟩, prog_2_method_8_code, 7, none)
theorem oM_Builder_choose : ip_okM lg_tbl M_Builder_choose := ⟨by decide +kernel, ⟨by decide +kernel, by decide +kernel⟩, by decide, tt_5 _ (List.mem_of_getElem? (i := 205) rfl) rfl, tt_1 _ (List.mem_of_getElem? (i := 10) rfl) rfl⟩
def M_Builder_buildOperator : ip_M := (⟨"ShareHouse$Builder", "buildOperator", "(II)V"⟩, prog_2_method_9_code, 6, none)
theorem oM_Builder_buildOperator : ip_okM lg_tbl M_Builder_buildOperator := ⟨by decide +kernel, ⟨by decide +kernel, by decide +kernel⟩, by decide, tt_5 _ (List.mem_of_getElem? (i := 209) rfl) rfl, tt_1 _ (List.mem_of_getElem? (i := 10) rfl) rfl⟩
def M_Logic_equal : ip_M := (⟨"ShareHouse$Logic", "equal", "([IIII)I"⟩, prog_7_method_9_code, 6, (some .int))
theorem oM_Logic_equal : ip_okM lg_tbl M_Logic_equal := ⟨by decide +kernel, ⟨by decide +kernel, by decide +kernel⟩, by decide, tt_5 _ (List.mem_of_getElem? (i := 213) rfl) rfl, tt_1 _ (List.mem_of_getElem? (i := 11) rfl) rfl⟩
def M_Logic_less : ip_M := (⟨"ShareHouse$Logic", "less", "([III)I"⟩, prog_7_method_8_code, 9, (some .int))
theorem oM_Logic_less : ip_okM lg_tbl M_Logic_less := ⟨by decide +kernel, ⟨by decide +kernel, by decide +kernel⟩, by decide, tt_5 _ (List.mem_of_getElem? (i := 217) rfl) rfl, tt_1 _ (List.mem_of_getElem? (i := 11) rfl) rfl⟩
def M_Builder_buildShift : ip_M := (⟨"ShareHouse$Builder", "buildShift", "(III)V"⟩, prog_2_method_11_code, 6, none)
theorem oM_Builder_buildShift : ip_okM lg_tbl M_Builder_buildShift := ⟨by decide +kernel, ⟨by decide +kernel, by decide +kernel⟩, by decide, tt_5 _ (List.mem_of_getElem? (i := 221) rfl) rfl, tt_1 _ (List.mem_of_getElem? (i := 10) rfl) rfl⟩
def M_Logic_shift : ip_M := (⟨"ShareHouse$Logic", "shift", "([III)V"⟩, prog_7_method_16_code, 6, none)
theorem oM_Logic_shift : ip_okM lg_tbl M_Logic_shift := ⟨by decide +kernel, ⟨by decide +kernel, by decide +kernel⟩, by decide, tt_5 _ (List.mem_of_getElem? (i := 225) rfl) rfl, tt_1 _ (List.mem_of_getElem? (i := 11) rfl) rfl⟩
def M_Logic_minus : ip_M := (⟨"ShareHouse$Logic", "minus", "([III)V"⟩, prog_7_method_6_code, 4, none)
theorem oM_Logic_minus : ip_okM lg_tbl M_Logic_minus := ⟨by decide +kernel, ⟨by decide +kernel, by decide +kernel⟩, by decide, tt_5 _ (List.mem_of_getElem? (i := 230) rfl) rfl, tt_1 _ (List.mem_of_getElem? (i := 11) rfl) rfl⟩
def M_Logic_times : ip_M := (⟨"ShareHouse$Logic", "times", "([III)V"⟩, prog_7_method_12_code, 6, none)
theorem oM_Logic_times : ip_okM lg_tbl M_Logic_times := ⟨by decide +kernel, ⟨by decide +kernel, by decide +kernel⟩, by decide, tt_5 _ (List.mem_of_getElem? (i := 234) rfl) rfl, tt_1 _ (List.mem_of_getElem? (i := 11) rfl) rfl⟩
def M_Logic_isKnown : ip_M := (⟨"ShareHouse$Logic", "isKnown", "([II)Z"⟩, prog_7_method_19_code, 4, (some .boolean))
theorem oM_Logic_isKnown : ip_okM lg_tbl M_Logic_isKnown := ⟨by decide +kernel, ⟨by decide +kernel, by decide +kernel⟩, by decide, tt_5 _ (List.mem_of_getElem? (i := 238) rfl) rfl, tt_1 _ (List.mem_of_getElem? (i := 11) rfl) rfl⟩
def M_Logic_divide : ip_M := (⟨"ShareHouse$Logic", "divide", "([IIIZ)V"⟩, prog_7_method_13_code, 8, none)
theorem oM_Logic_divide : ip_okM lg_tbl M_Logic_divide := ⟨by decide +kernel, ⟨by decide +kernel, by decide +kernel⟩, by decide, tt_6 _ (List.mem_of_getElem? (i := 4) rfl) rfl, tt_1 _ (List.mem_of_getElem? (i := 11) rfl) rfl⟩
def M_Logic_divided : ip_M := (⟨"ShareHouse$Logic", "divided", "(JJZ)J"⟩, prog_7_method_15_code, 5, (some .long))
theorem oM_Logic_divided : ip_okM lg_tbl M_Logic_divided := ⟨by decide +kernel, ⟨by decide +kernel, by decide +kernel⟩, by decide, tt_6 _ (List.mem_of_getElem? (i := 7) rfl) rfl, tt_1 _ (List.mem_of_getElem? (i := 11) rfl) rfl⟩
def M_Logic_takeAway : ip_M := (⟨"ShareHouse$Logic", "takeAway", "([II)I"⟩, prog_7_method_14_code, 7, (some .int))
theorem oM_Logic_takeAway : ip_okM lg_tbl M_Logic_takeAway := ⟨by decide +kernel, ⟨by decide +kernel, by decide +kernel⟩, by decide, tt_6 _ (List.mem_of_getElem? (i := 12) rfl) rfl, tt_1 _ (List.mem_of_getElem? (i := 11) rfl) rfl⟩
def M_Builder_buildBits : ip_M := (⟨"ShareHouse$Builder", "buildBits", "(IIII)V"⟩, prog_2_method_10_code, 8, none)
theorem oM_Builder_buildBits : ip_okM lg_tbl M_Builder_buildBits := ⟨by decide +kernel, ⟨by decide +kernel, by decide +kernel⟩, by decide, tt_6 _ (List.mem_of_getElem? (i := 17) rfl) rfl, tt_1 _ (List.mem_of_getElem? (i := 10) rfl) rfl⟩
def M_Logic_or : ip_M := (⟨"ShareHouse$Logic", "or", "(II)I"⟩, prog_7_method_2_code, 3, (some .int))
theorem oM_Logic_or : ip_okM lg_tbl M_Logic_or := ⟨by decide +kernel, ⟨by decide +kernel, by decide +kernel⟩, by decide, tt_6 _ (List.mem_of_getElem? (i := 21) rfl) rfl, tt_1 _ (List.mem_of_getElem? (i := 11) rfl) rfl⟩
def M_Circuit_finish : ip_M := (⟨"ShareHouse$Circuit", "finish", "()V"⟩, prog_3_method_13_code, 3, none)
theorem oM_Circuit_finish : ip_okM lg_tbl M_Circuit_finish := ⟨by decide +kernel, ⟨by decide +kernel, by decide +kernel⟩, by decide, tt_6 _ (List.mem_of_getElem? (i := 26) rfl) rfl, tt_1 _ (List.mem_of_getElem? (i := 6) rfl) rfl⟩
def M_H_lookAtCircuit : ip_M := (⟨"ShareHouse", "lookAtCircuit", "(I)I"⟩, prog_1_method_23_code, 2, (some .int))
theorem oM_H_lookAtCircuit : ip_okM lg_tbl M_H_lookAtCircuit := ⟨by decide +kernel, ⟨by decide +kernel, by decide +kernel⟩, by decide, tt_6 _ (List.mem_of_getElem? (i := 35) rfl) rfl, tt_1 _ (List.mem_of_getElem? (i := 1) rfl) rfl⟩
def M_H_hasOutput : ip_M := (⟨"ShareHouse", "hasOutput", "(I)Z"⟩, prog_1_method_24_code, 2, (some .boolean))
theorem oM_H_hasOutput : ip_okM lg_tbl M_H_hasOutput := ⟨by decide +kernel, ⟨by decide +kernel, by decide +kernel⟩, by decide, tt_6 _ (List.mem_of_getElem? (i := 47) rfl) rfl, tt_1 _ (List.mem_of_getElem? (i := 1) rfl) rfl⟩
def M_Circuit_outputBits : ip_M := (⟨"ShareHouse$Circuit", "outputBits", "(I)I"⟩, prog_3_method_9_code, 2, (some .int))
theorem oM_Circuit_outputBits : ip_okM lg_tbl M_Circuit_outputBits := ⟨by decide +kernel, ⟨by decide +kernel, by decide +kernel⟩, by decide, tt_6 _ (List.mem_of_getElem? (i := 51) rfl) rfl, tt_1 _ (List.mem_of_getElem? (i := 6) rfl) rfl⟩
def M_Circuit_outputLiteral : ip_M := (⟨"ShareHouse$Circuit", "outputLiteral", "(II)I"⟩, prog_3_method_10_code, 3, (some .int))
theorem oM_Circuit_outputLiteral : ip_okM lg_tbl M_Circuit_outputLiteral := ⟨by decide +kernel, ⟨by decide +kernel, by decide +kernel⟩, by decide, tt_6 _ (List.mem_of_getElem? (i := 55) rfl) rfl, tt_1 _ (List.mem_of_getElem? (i := 6) rfl) rfl⟩
def M_Dealer_keep : ip_M := (⟨"ShareHouse$Dealer", "keep", "(JI)I"⟩, prog_5_method_2_code, 5, (some .int))
theorem oM_Dealer_keep : ip_okM lg_tbl M_Dealer_keep := ⟨by decide +kernel, ⟨by decide +kernel, by decide +kernel⟩, by decide, tt_6 _ (List.mem_of_getElem? (i := 78) rfl) rfl, tt_1 _ (List.mem_of_getElem? (i := 12) rfl) rfl⟩
def M_Inputs_fix : ip_M := (⟨"ShareHouse$Inputs", "fix", "()V"⟩, prog_6_method_4_code, 1, none)
theorem oM_Inputs_fix : ip_okM lg_tbl M_Inputs_fix := ⟨by decide +kernel, ⟨by decide +kernel, by decide +kernel⟩, by decide, tt_6 _ (List.mem_of_getElem? (i := 86) rfl) rfl, tt_1 _ (List.mem_of_getElem? (i := 5) rfl) rfl⟩
def M_Dealer_cutInputs : ip_M := (⟨"ShareHouse$Dealer", "cutInputs", "(LShareHouse$Inputs;)V"⟩, prog_5_method_6_code, 7, none)
theorem oM_Dealer_cutInputs : ip_okM lg_tbl M_Dealer_cutInputs := ⟨by decide +kernel, ⟨by decide +kernel, by decide +kernel⟩, by decide, tt_6 _ (List.mem_of_getElem? (i := 91) rfl) rfl, tt_1 _ (List.mem_of_getElem? (i := 12) rfl) rfl⟩
def M_Dealer_drawBut : ip_M := (⟨"ShareHouse$Dealer", "drawBut", "(I)I"⟩, prog_5_method_5_code, 4, (some .int))
theorem oM_Dealer_drawBut : ip_okM lg_tbl M_Dealer_drawBut := ⟨by decide +kernel, ⟨by decide +kernel, by decide +kernel⟩, by decide, tt_6 _ (List.mem_of_getElem? (i := 95) rfl) rfl, tt_1 _ (List.mem_of_getElem? (i := 12) rfl) rfl⟩
def M_Dealer_draw : ip_M := (⟨"ShareHouse$Dealer", "draw", "()I"⟩, prog_5_method_4_code, 1, (some .int))
theorem oM_Dealer_draw : ip_okM lg_tbl M_Dealer_draw := ⟨by decide +kernel, ⟨by decide +kernel, by decide +kernel⟩, by decide, tt_6 _ (List.mem_of_getElem? (i := 99) rfl) rfl, tt_1 _ (List.mem_of_getElem? (i := 12) rfl) rfl⟩
def M_H_parity : ip_M := (⟨"ShareHouse", "parity", "(I)I"⟩, prog_1_method_28_code, 1, (some .int))
theorem oM_H_parity : ip_okM lg_tbl M_H_parity := ⟨by decide +kernel, ⟨by decide +kernel, by decide +kernel⟩, by decide, tt_6 _ (List.mem_of_getElem? (i := 103) rfl) rfl, tt_1 _ (List.mem_of_getElem? (i := 1) rfl) rfl⟩
def M_Integer_bitCount : ip_M := (⟨"java/lang/Integer", "bitCount", "(I)I"⟩, prog_15_method_49_code, 1, (some .int))
theorem oM_Integer_bitCount : ip_okM lg_tbl M_Integer_bitCount := ⟨by decide +kernel, ⟨by decide +kernel, by decide +kernel⟩, by decide, tt_6 _ (List.mem_of_getElem? (i := 106) rfl) rfl, tt_1 _ (List.mem_of_getElem? (i := 21) rfl) rfl⟩
def M_Dealer_cutTriples : ip_M := (⟨"ShareHouse$Dealer", "cutTriples", "(I)V"⟩, prog_5_method_7_code, 4, none)
theorem oM_Dealer_cutTriples : ip_okM lg_tbl M_Dealer_cutTriples := ⟨by decide +kernel, ⟨by decide +kernel, by decide +kernel⟩, by decide, tt_6 _ (List.mem_of_getElem? (i := 113) rfl) rfl, tt_1 _ (List.mem_of_getElem? (i := 12) rfl) rfl⟩
def M_Dealer_forgetUsed : ip_M := (⟨"ShareHouse$Dealer", "forgetUsed", "()V"⟩, prog_5_method_3_code, 1, none)
theorem oM_Dealer_forgetUsed : ip_okM lg_tbl M_Dealer_forgetUsed := ⟨by decide +kernel, ⟨by decide +kernel, by decide +kernel⟩, by decide, tt_6 _ (List.mem_of_getElem? (i := 117) rfl) rfl, tt_1 _ (List.mem_of_getElem? (i := 12) rfl) rfl⟩
def M_Dealer_workShares : ip_M := (⟨"ShareHouse$Dealer", "workShares", "(LShareHouse$Circuit;)V"⟩, prog_5_method_8_code, 7, none)
theorem oM_Dealer_workShares : ip_okM lg_tbl M_Dealer_workShares := ⟨by decide +kernel, ⟨by decide +kernel, by decide +kernel⟩, by decide, tt_6 _ (List.mem_of_getElem? (i := 122) rfl) rfl, tt_1 _ (List.mem_of_getElem? (i := 12) rfl) rfl⟩
def M_Circuit_wires : ip_M := (⟨"ShareHouse$Circuit", "wires", "()I"⟩, prog_3_method_3_code, 1, (some .int))
theorem oM_Circuit_wires : ip_okM lg_tbl M_Circuit_wires := ⟨by decide +kernel, ⟨by decide +kernel, by decide +kernel⟩, by decide, tt_6 _ (List.mem_of_getElem? (i := 126) rfl) rfl, tt_1 _ (List.mem_of_getElem? (i := 6) rfl) rfl⟩
def M_Dealer_sharesOf : ip_M := (⟨"ShareHouse$Dealer", "sharesOf", "(I)I"⟩, prog_5_method_10_code, 2, (some .int))
theorem oM_Dealer_sharesOf : ip_okM lg_tbl M_Dealer_sharesOf := ⟨by decide +kernel, ⟨by decide +kernel, by decide +kernel⟩, by decide, tt_6 _ (List.mem_of_getElem? (i := 130) rfl) rfl, tt_1 _ (List.mem_of_getElem? (i := 12) rfl) rfl⟩
def M_Dealer_sharesOfAnd : ip_M := (⟨"ShareHouse$Dealer", "sharesOfAnd", "(III)I"⟩, prog_5_method_9_code, 6, (some .int))
theorem oM_Dealer_sharesOfAnd : ip_okM lg_tbl M_Dealer_sharesOfAnd := ⟨by decide +kernel, ⟨by decide +kernel, by decide +kernel⟩, by decide, tt_6 _ (List.mem_of_getElem? (i := 134) rfl) rfl, tt_1 _ (List.mem_of_getElem? (i := 12) rfl) rfl⟩
def M_Post_begin : ip_M := (⟨"ShareHouse$Post", "begin", "()V"⟩, prog_9_method_5_code, 2, none)
theorem oM_Post_begin : ip_okM lg_tbl M_Post_begin := ⟨by decide +kernel, ⟨by decide +kernel, by decide +kernel⟩, by decide, tt_6 _ (List.mem_of_getElem? (i := 138) rfl) rfl, tt_1 _ (List.mem_of_getElem? (i := 13) rfl) rfl⟩
def M_Post_send : ip_M := (⟨"ShareHouse$Post", "send", "(I)I"⟩, prog_9_method_6_code, 4, (some .int))
theorem oM_Post_send : ip_okM lg_tbl M_Post_send := ⟨by decide +kernel, ⟨by decide +kernel, by decide +kernel⟩, by decide, tt_6 _ (List.mem_of_getElem? (i := 143) rfl) rfl, tt_1 _ (List.mem_of_getElem? (i := 13) rfl) rfl⟩
def M_H_isFlying : ip_M := (⟨"ShareHouse", "isFlying", "(I)Z"⟩, prog_1_method_25_code, 2, (some .boolean))
theorem oM_H_isFlying : ip_okM lg_tbl M_H_isFlying := ⟨by decide +kernel, ⟨by decide +kernel, by decide +kernel⟩, by decide, tt_6 _ (List.mem_of_getElem? (i := 151) rfl) rfl, tt_1 _ (List.mem_of_getElem? (i := 1) rfl) rfl⟩
def M_Post_from : ip_M := (⟨"ShareHouse$Post", "from", "(I)I"⟩, prog_9_method_2_code, 1, (some .int))
theorem oM_Post_from : ip_okM lg_tbl M_Post_from := ⟨by decide +kernel, ⟨by decide +kernel, by decide +kernel⟩, by decide, tt_6 _ (List.mem_of_getElem? (i := 154) rfl) rfl, tt_1 _ (List.mem_of_getElem? (i := 13) rfl) rfl⟩
def M_Post_to : ip_M := (⟨"ShareHouse$Post", "to", "(I)I"⟩, prog_9_method_3_code, 1, (some .int))
theorem oM_Post_to : ip_okM lg_tbl M_Post_to := ⟨by decide +kernel, ⟨by decide +kernel, by decide +kernel⟩, by decide, tt_6 _ (List.mem_of_getElem? (i := 157) rfl) rfl, tt_1 _ (List.mem_of_getElem? (i := 13) rfl) rfl⟩
def M_Post_round : ip_M := (⟨"ShareHouse$Post", "round", "(I)I"⟩, prog_9_method_4_code, 1, (some .int))
theorem oM_Post_round : ip_okM lg_tbl M_Post_round := ⟨by decide +kernel, ⟨by decide +kernel, by decide +kernel⟩, by decide, tt_6 _ (List.mem_of_getElem? (i := 160) rfl) rfl, tt_1 _ (List.mem_of_getElem? (i := 13) rfl) rfl⟩
def M_Post_bitsOf : ip_M := (⟨"ShareHouse$Post", "bitsOf", "(I)I"⟩, prog_9_method_10_code, 3, (some .int))
theorem oM_Post_bitsOf : ip_okM lg_tbl M_Post_bitsOf := ⟨by decide +kernel, ⟨by decide +kernel, by decide +kernel⟩, by decide, tt_6 _ (List.mem_of_getElem? (i := 164) rfl) rfl, tt_1 _ (List.mem_of_getElem? (i := 13) rfl) rfl⟩
def M_Circuit_allOutputBits : ip_M := (⟨"ShareHouse$Circuit", "allOutputBits", "()I"⟩, prog_3_method_11_code, 1, (some .int))
theorem oM_Circuit_allOutputBits : ip_okM lg_tbl M_Circuit_allOutputBits := ⟨by decide +kernel, ⟨by decide +kernel, by decide +kernel⟩, by decide, tt_6 _ (List.mem_of_getElem? (i := 170) rfl) rfl, tt_1 _ (List.mem_of_getElem? (i := 6) rfl) rfl⟩
def M_Circuit_andsOfLevel : ip_M := (⟨"ShareHouse$Circuit", "andsOfLevel", "(I)I"⟩, prog_3_method_14_code, 2, (some .int))
theorem oM_Circuit_andsOfLevel : ip_okM lg_tbl M_Circuit_andsOfLevel := ⟨by decide +kernel, ⟨by decide +kernel, by decide +kernel⟩, by decide, tt_6 _ (List.mem_of_getElem? (i := 174) rfl) rfl, tt_1 _ (List.mem_of_getElem? (i := 6) rfl) rfl⟩
def M_Post_bitOf : ip_M := (⟨"ShareHouse$Post", "bitOf", "(II)I"⟩, prog_9_method_11_code, 7, (some .int))
theorem oM_Post_bitOf : ip_okM lg_tbl M_Post_bitOf := ⟨by decide +kernel, ⟨by decide +kernel, by decide +kernel⟩, by decide, tt_6 _ (List.mem_of_getElem? (i := 178) rfl) rfl, tt_1 _ (List.mem_of_getElem? (i := 13) rfl) rfl⟩
def M_Inputs_wireOf : ip_M := (⟨"ShareHouse$Inputs", "wireOf", "(II)I"⟩, prog_6_method_5_code, 5, (some .int))
theorem oM_Inputs_wireOf : ip_okM lg_tbl M_Inputs_wireOf := ⟨by decide +kernel, ⟨by decide +kernel, by decide +kernel⟩, by decide, tt_6 _ (List.mem_of_getElem? (i := 182) rfl) rfl, tt_1 _ (List.mem_of_getElem? (i := 5) rfl) rfl⟩
def M_Circuit_anyOutputLiteral : ip_M := (⟨"ShareHouse$Circuit", "anyOutputLiteral", "(I)I"⟩, prog_3_method_12_code, 2, (some .int))
theorem oM_Circuit_anyOutputLiteral : ip_okM lg_tbl M_Circuit_anyOutputLiteral := ⟨by decide +kernel, ⟨by decide +kernel, by decide +kernel⟩, by decide, tt_6 _ (List.mem_of_getElem? (i := 188) rfl) rfl, tt_1 _ (List.mem_of_getElem? (i := 6) rfl) rfl⟩
def M_Circuit_andOfLevel : ip_M := (⟨"ShareHouse$Circuit", "andOfLevel", "(II)I"⟩, prog_3_method_15_code, 3, (some .int))
theorem oM_Circuit_andOfLevel : ip_okM lg_tbl M_Circuit_andOfLevel := ⟨by decide +kernel, ⟨by decide +kernel, by decide +kernel⟩, by decide, tt_6 _ (List.mem_of_getElem? (i := 193) rfl) rfl, tt_1 _ (List.mem_of_getElem? (i := 6) rfl) rfl⟩
def M_Dealer_tripleBit : ip_M := (⟨"ShareHouse$Dealer", "tripleBit", "(III)I"⟩, prog_5_method_11_code, 5, (some .int))
theorem oM_Dealer_tripleBit : ip_okM lg_tbl M_Dealer_tripleBit := ⟨by decide +kernel, ⟨by decide +kernel, by decide +kernel⟩, by decide, tt_6 _ (List.mem_of_getElem? (i := 198) rfl) rfl, tt_1 _ (List.mem_of_getElem? (i := 12) rfl) rfl⟩
def M_Post_bring : ip_M := (⟨"ShareHouse$Post", "bring", "(I)I"⟩, prog_9_method_7_code, 4, (some .int))
theorem oM_Post_bring : ip_okM lg_tbl M_Post_bring := ⟨by decide +kernel, ⟨by decide +kernel, by decide +kernel⟩, by decide, tt_6 _ (List.mem_of_getElem? (i := 206) rfl) rfl, tt_1 _ (List.mem_of_getElem? (i := 13) rfl) rfl⟩
def M_Post_goOn : ip_M := (⟨"ShareHouse$Post", "goOn", "(I)I"⟩, prog_9_method_8_code, 4, (some .int))
theorem oM_Post_goOn : ip_okM lg_tbl M_Post_goOn := ⟨by decide +kernel, ⟨by decide +kernel, by decide +kernel⟩, by decide, tt_6 _ (List.mem_of_getElem? (i := 212) rfl) rfl, tt_1 _ (List.mem_of_getElem? (i := 13) rfl) rfl⟩
def M_Post_isDone : ip_M := (⟨"ShareHouse$Post", "isDone", "(I)Z"⟩, prog_9_method_9_code, 2, (some .boolean))
theorem oM_Post_isDone : ip_okM lg_tbl M_Post_isDone := ⟨by decide +kernel, ⟨by decide +kernel, by decide +kernel⟩, by decide, tt_6 _ (List.mem_of_getElem? (i := 216) rfl) rfl, tt_1 _ (List.mem_of_getElem? (i := 13) rfl) rfl⟩
def M_H_isAtWork : ip_M := (⟨"ShareHouse", "isAtWork", "(I)Z"⟩, prog_1_method_26_code, 2, (some .boolean))
theorem oM_H_isAtWork : ip_okM lg_tbl M_H_isAtWork := ⟨by decide +kernel, ⟨by decide +kernel, by decide +kernel⟩, by decide, tt_6 _ (List.mem_of_getElem? (i := 229) rfl) rfl, tt_1 _ (List.mem_of_getElem? (i := 1) rfl) rfl⟩
def M_Post_viewBits : ip_M := (⟨"ShareHouse$Post", "viewBits", "(I)I"⟩, prog_9_method_12_code, 2, (some .int))
theorem oM_Post_viewBits : ip_okM lg_tbl M_Post_viewBits := ⟨by decide +kernel, ⟨by decide +kernel, by decide +kernel⟩, by decide, tt_6 _ (List.mem_of_getElem? (i := 233) rfl) rfl, tt_1 _ (List.mem_of_getElem? (i := 13) rfl) rfl⟩
def M_Post_viewBit : ip_M := (⟨"ShareHouse$Post", "viewBit", "(II)I"⟩, prog_9_method_13_code, 7, (some .int))
theorem oM_Post_viewBit : ip_okM lg_tbl M_Post_viewBit := ⟨by decide +kernel, ⟨by decide +kernel, by decide +kernel⟩, by decide, tt_7 _ (List.mem_of_getElem? (i := 13) rfl) rfl, tt_1 _ (List.mem_of_getElem? (i := 13) rfl) rfl⟩
def M_Post_arrivedBit : ip_M := (⟨"ShareHouse$Post", "arrivedBit", "(II)I"⟩, prog_9_method_14_code, 7, (some .int))
theorem oM_Post_arrivedBit : ip_okM lg_tbl M_Post_arrivedBit := ⟨by decide +kernel, ⟨by decide +kernel, by decide +kernel⟩, by decide, tt_7 _ (List.mem_of_getElem? (i := 18) rfl) rfl, tt_1 _ (List.mem_of_getElem? (i := 13) rfl) rfl⟩
def M_Circuit_work : ip_M := (⟨"ShareHouse$Circuit", "work", "(LShareHouse$Inputs;Z)V"⟩, prog_3_method_16_code, 6, none)
theorem oM_Circuit_work : ip_okM lg_tbl M_Circuit_work := ⟨by decide +kernel, ⟨by decide +kernel, by decide +kernel⟩, by decide, tt_7 _ (List.mem_of_getElem? (i := 33) rfl) rfl, tt_1 _ (List.mem_of_getElem? (i := 6) rfl) rfl⟩
def M_Circuit_clearOf : ip_M := (⟨"ShareHouse$Circuit", "clearOf", "(I)I"⟩, prog_3_method_17_code, 2, (some .int))
theorem oM_Circuit_clearOf : ip_okM lg_tbl M_Circuit_clearOf := ⟨by decide +kernel, ⟨by decide +kernel, by decide +kernel⟩, by decide, tt_7 _ (List.mem_of_getElem? (i := 37) rfl) rfl, tt_1 _ (List.mem_of_getElem? (i := 6) rfl) rfl⟩
def M_Mo_word : ip_M := (⟨"ShareHouseModel", "word", "(II)V"⟩, prog_14_method_2_code, 4, none)
theorem oM_Mo_word : ip_okM lg_tbl M_Mo_word := ⟨by decide +kernel, ⟨by decide +kernel, by decide +kernel⟩, by decide, tt_9 _ (List.mem_of_getElem? (i := 20) rfl) rfl, tt_1 _ (List.mem_of_getElem? (i := 14) rfl) rfl⟩
def M_Mo_forget : ip_M := (⟨"ShareHouseModel", "forget", "()V"⟩, prog_14_method_113_code, 1, none)
theorem oM_Mo_forget : ip_okM lg_tbl M_Mo_forget := ⟨by decide +kernel, ⟨by decide +kernel, by decide +kernel⟩, by decide, tt_9 _ (List.mem_of_getElem? (i := 32) rfl) rfl, tt_1 _ (List.mem_of_getElem? (i := 14) rfl) rfl⟩
def M_Mo_program : ip_M := (⟨"ShareHouseModel", "program", "()V"⟩, prog_14_method_43_code, 3, none)
theorem oM_Mo_program : ip_okM lg_tbl M_Mo_program := ⟨by decide +kernel, ⟨by decide +kernel, by decide +kernel⟩, by decide, tt_9 _ (List.mem_of_getElem? (i := 36) rfl) rfl, tt_1 _ (List.mem_of_getElem? (i := 14) rfl) rfl⟩
def M_Mo_gap : ip_M := (⟨"ShareHouseModel", "gap", "()V"⟩, prog_14_method_7_code, 3, none)
theorem oM_Mo_gap : ip_okM lg_tbl M_Mo_gap := ⟨by decide +kernel, ⟨by decide +kernel, by decide +kernel⟩, by decide, tt_9 _ (List.mem_of_getElem? (i := 40) rfl) rfl, tt_1 _ (List.mem_of_getElem? (i := 14) rfl) rfl⟩
def M_Mo_look0 : ip_M := (⟨"ShareHouseModel", "look0", "(I)I"⟩, prog_14_method_6_code, 2, (some .int))
theorem oM_Mo_look0 : ip_okM lg_tbl M_Mo_look0 := ⟨by decide +kernel, ⟨by decide +kernel, by decide +kernel⟩, by decide, tt_9 _ (List.mem_of_getElem? (i := 44) rfl) rfl, tt_1 _ (List.mem_of_getElem? (i := 14) rfl) rfl⟩
def M_Mo_fail : ip_M := (⟨"ShareHouseModel", "fail", "(II)V"⟩, prog_14_method_5_code, 3, none)
theorem oM_Mo_fail : ip_okM lg_tbl M_Mo_fail := ⟨by decide +kernel, ⟨by decide +kernel, by decide +kernel⟩, by decide, tt_9 _ (List.mem_of_getElem? (i := 48) rfl) rfl, tt_1 _ (List.mem_of_getElem? (i := 14) rfl) rfl⟩
def M_Mo_isSign : ip_M := (⟨"ShareHouseModel", "isSign", "(I)Z"⟩, prog_14_method_16_code, 2, (some .boolean))
theorem oM_Mo_isSign : ip_okM lg_tbl M_Mo_isSign := ⟨by decide +kernel, ⟨by decide +kernel, by decide +kernel⟩, by decide, tt_9 _ (List.mem_of_getElem? (i := 52) rfl) rfl, tt_1 _ (List.mem_of_getElem? (i := 14) rfl) rfl⟩
def M_Mo_isPair : ip_M := (⟨"ShareHouseModel", "isPair", "()Z"⟩, prog_14_method_15_code, 3, (some .boolean))
theorem oM_Mo_isPair : ip_okM lg_tbl M_Mo_isPair := ⟨by decide +kernel, ⟨by decide +kernel, by decide +kernel⟩, by decide, tt_9 _ (List.mem_of_getElem? (i := 56) rfl) rfl, tt_1 _ (List.mem_of_getElem? (i := 14) rfl) rfl⟩
def M_Mo_closeBlock : ip_M := (⟨"ShareHouseModel", "closeBlock", "()V"⟩, prog_14_method_41_code, 4, none)
theorem oM_Mo_closeBlock : ip_okM lg_tbl M_Mo_closeBlock := ⟨by decide +kernel, ⟨by decide +kernel, by decide +kernel⟩, by decide, tt_9 _ (List.mem_of_getElem? (i := 60) rfl) rfl, tt_1 _ (List.mem_of_getElem? (i := 14) rfl) rfl⟩
def M_Mo_put : ip_M := (⟨"ShareHouseModel", "put", "(IIII)I"⟩, prog_14_method_19_code, 5, (some .int))
theorem oM_Mo_put : ip_okM lg_tbl M_Mo_put := ⟨by decide +kernel, ⟨by decide +kernel, by decide +kernel⟩, by decide, tt_9 _ (List.mem_of_getElem? (i := 64) rfl) rfl, tt_1 _ (List.mem_of_getElem? (i := 14) rfl) rfl⟩
def M_Mo_isWord : ip_M := (⟨"ShareHouseModel", "isWord", "(Ljava/lang/String;)Z"⟩, prog_14_method_11_code, 5, (some .boolean))
theorem oM_Mo_isWord : ip_okM lg_tbl M_Mo_isWord := ⟨by decide +kernel, ⟨by decide +kernel, by decide +kernel⟩, by decide, tt_9 _ (List.mem_of_getElem? (i := 69) rfl) rfl, tt_1 _ (List.mem_of_getElem? (i := 14) rfl) rfl⟩
def M_Mo_wordEnd : ip_M := (⟨"ShareHouseModel", "wordEnd", "()I"⟩, prog_14_method_10_code, 2, (some .int))
theorem oM_Mo_wordEnd : ip_okM lg_tbl M_Mo_wordEnd := ⟨by decide +kernel, ⟨by decide +kernel, by decide +kernel⟩, by decide, tt_9 _ (List.mem_of_getElem? (i := 73) rfl) rfl, tt_1 _ (List.mem_of_getElem? (i := 14) rfl) rfl⟩
def M_Mo_isLetter : ip_M := (⟨"ShareHouseModel", "isLetter", "(I)Z"⟩, prog_14_method_8_code, 1, (some .boolean))
theorem oM_Mo_isLetter : ip_okM lg_tbl M_Mo_isLetter := ⟨by decide +kernel, ⟨by decide +kernel, by decide +kernel⟩, by decide, tt_9 _ (List.mem_of_getElem? (i := 76) rfl) rfl, tt_1 _ (List.mem_of_getElem? (i := 14) rfl) rfl⟩
def M_Mo_isDigit : ip_M := (⟨"ShareHouseModel", "isDigit", "(I)Z"⟩, prog_14_method_9_code, 1, (some .boolean))
theorem oM_Mo_isDigit : ip_okM lg_tbl M_Mo_isDigit := ⟨by decide +kernel, ⟨by decide +kernel, by decide +kernel⟩, by decide, tt_9 _ (List.mem_of_getElem? (i := 79) rfl) rfl, tt_1 _ (List.mem_of_getElem? (i := 14) rfl) rfl⟩
def M_Mo_deeper : ip_M := (⟨"ShareHouseModel", "deeper", "(I)V"⟩, prog_14_method_20_code, 2, none)
theorem oM_Mo_deeper : ip_okM lg_tbl M_Mo_deeper := ⟨by decide +kernel, ⟨by decide +kernel, by decide +kernel⟩, by decide, tt_9 _ (List.mem_of_getElem? (i := 86) rfl) rfl, tt_1 _ (List.mem_of_getElem? (i := 14) rfl) rfl⟩
def M_Mo_ifStatement : ip_M := (⟨"ShareHouseModel", "ifStatement", "(I)V"⟩, prog_14_method_38_code, 4, none)
theorem oM_Mo_ifStatement : ip_okM lg_tbl M_Mo_ifStatement := ⟨by decide +kernel, ⟨by decide +kernel, by decide +kernel⟩, by decide, tt_9 _ (List.mem_of_getElem? (i := 90) rfl) rfl, tt_1 _ (List.mem_of_getElem? (i := 14) rfl) rfl⟩
def M_Mo_sign : ip_M := (⟨"ShareHouseModel", "sign", "(I)V"⟩, prog_14_method_17_code, 2, none)
theorem oM_Mo_sign : ip_okM lg_tbl M_Mo_sign := ⟨by decide +kernel, ⟨by decide +kernel, by decide +kernel⟩, by decide, tt_9 _ (List.mem_of_getElem? (i := 94) rfl) rfl, tt_1 _ (List.mem_of_getElem? (i := 14) rfl) rfl⟩
def M_Mo_expression : ip_M := (⟨"ShareHouseModel", "expression", "()V"⟩, prog_14_method_28_code, 6, none)
theorem oM_Mo_expression : ip_okM lg_tbl M_Mo_expression := ⟨by decide +kernel, ⟨by decide +kernel, by decide +kernel⟩, by decide, tt_9 _ (List.mem_of_getElem? (i := 98) rfl) rfl, tt_1 _ (List.mem_of_getElem? (i := 14) rfl) rfl⟩
def M_Mo_takeOperand : ip_M := (⟨"ShareHouseModel", "takeOperand", "()Z"⟩, prog_14_method_27_code, 6, (some .boolean))
theorem oM_Mo_takeOperand : ip_okM lg_tbl M_Mo_takeOperand := ⟨by decide +kernel, ⟨by decide +kernel, by decide +kernel⟩, by decide, tt_9 _ (List.mem_of_getElem? (i := 102) rfl) rfl, tt_1 _ (List.mem_of_getElem? (i := 14) rfl) rfl⟩
def M_Mo_push : ip_M := (⟨"ShareHouseModel", "push", "(III)V"⟩, prog_14_method_21_code, 4, none)
theorem oM_Mo_push : ip_okM lg_tbl M_Mo_push := ⟨by decide +kernel, ⟨by decide +kernel, by decide +kernel⟩, by decide, tt_9 _ (List.mem_of_getElem? (i := 106) rfl) rfl, tt_1 _ (List.mem_of_getElem? (i := 14) rfl) rfl⟩
def M_Mo_number : ip_M := (⟨"ShareHouseModel", "number", "(JJ)V"⟩, prog_14_method_14_code, 6, none)
theorem oM_Mo_number : ip_okM lg_tbl M_Mo_number := ⟨by decide +kernel, ⟨by decide +kernel, by decide +kernel⟩, by decide, tt_9 _ (List.mem_of_getElem? (i := 111) rfl) rfl, tt_1 _ (List.mem_of_getElem? (i := 14) rfl) rfl⟩
def M_Mo_name : ip_M := (⟨"ShareHouseModel", "name", "()I"⟩, prog_14_method_13_code, 6, (some .int))
theorem oM_Mo_name : ip_okM lg_tbl M_Mo_name := ⟨by decide +kernel, ⟨by decide +kernel, by decide +kernel⟩, by decide, tt_9 _ (List.mem_of_getElem? (i := 121) rfl) rfl, tt_1 _ (List.mem_of_getElem? (i := 14) rfl) rfl⟩
def M_Mo_isKept : ip_M := (⟨"ShareHouseModel", "isKept", "()Z"⟩, prog_14_method_12_code, 1, (some .boolean))
theorem oM_Mo_isKept : ip_okM lg_tbl M_Mo_isKept := ⟨by decide +kernel, ⟨by decide +kernel, by decide +kernel⟩, by decide, tt_9 _ (List.mem_of_getElem? (i := 125) rfl) rfl, tt_1 _ (List.mem_of_getElem? (i := 14) rfl) rfl⟩
def M_Mo_signsOver : ip_M := (⟨"ShareHouseModel", "signsOver", "(I)V"⟩, prog_14_method_26_code, 3, none)
theorem oM_Mo_signsOver : ip_okM lg_tbl M_Mo_signsOver := ⟨by decide +kernel, ⟨by decide +kernel, by decide +kernel⟩, by decide, tt_9 _ (List.mem_of_getElem? (i := 136) rfl) rfl, tt_1 _ (List.mem_of_getElem? (i := 14) rfl) rfl⟩
def M_Mo_operator : ip_M := (⟨"ShareHouseModel", "operator", "()I"⟩, prog_14_method_23_code, 3, (some .int))
theorem oM_Mo_operator : ip_okM lg_tbl M_Mo_operator := ⟨by decide +kernel, ⟨by decide +kernel, by decide +kernel⟩, by decide, tt_9 _ (List.mem_of_getElem? (i := 140) rfl) rfl, tt_1 _ (List.mem_of_getElem? (i := 14) rfl) rfl⟩
def M_Mo_isFresh : ip_M := (⟨"ShareHouseModel", "isFresh", "()Z"⟩, prog_14_method_29_code, 1, (some .boolean))
theorem oM_Mo_isFresh : ip_okM lg_tbl M_Mo_isFresh := ⟨by decide +kernel, ⟨by decide +kernel, by decide +kernel⟩, by decide, tt_9 _ (List.mem_of_getElem? (i := 144) rfl) rfl, tt_1 _ (List.mem_of_getElem? (i := 14) rfl) rfl⟩
def M_Mo_rank : ip_M := (⟨"ShareHouseModel", "rank", "(I)I"⟩, prog_14_method_22_code, 1, (some .int))
theorem oM_Mo_rank : ip_okM lg_tbl M_Mo_rank := ⟨by decide +kernel, ⟨by decide +kernel, by decide +kernel⟩, by decide, tt_9 _ (List.mem_of_getElem? (i := 147) rfl) rfl, tt_1 _ (List.mem_of_getElem? (i := 14) rfl) rfl⟩
def M_Mo_reduce : ip_M := (⟨"ShareHouseModel", "reduce", "(II)V"⟩, prog_14_method_24_code, 4, none)
theorem oM_Mo_reduce : ip_okM lg_tbl M_Mo_reduce := ⟨by decide +kernel, ⟨by decide +kernel, by decide +kernel⟩, by decide, tt_9 _ (List.mem_of_getElem? (i := 151) rfl) rfl, tt_1 _ (List.mem_of_getElem? (i := 14) rfl) rfl⟩
def M_Mo_closes : ip_M := (⟨"ShareHouseModel", "closes", "(I)Z"⟩, prog_14_method_30_code, 7, (some .boolean))
theorem oM_Mo_closes : ip_okM lg_tbl M_Mo_closes := ⟨by decide +kernel, ⟨by decide +kernel, by decide +kernel⟩, by decide, tt_9 _ (List.mem_of_getElem? (i := 155) rfl) rfl, tt_1 _ (List.mem_of_getElem? (i := 14) rfl) rfl⟩
def M_Mo_reduceAll : ip_M := (⟨"ShareHouseModel", "reduceAll", "(I)V"⟩, prog_14_method_25_code, 3, none)
theorem oM_Mo_reduceAll : ip_okM lg_tbl M_Mo_reduceAll := ⟨by decide +kernel, ⟨by decide +kernel, by decide +kernel⟩, by decide, tt_9 _ (List.mem_of_getElem? (i := 159) rfl) rfl, tt_1 _ (List.mem_of_getElem? (i := 14) rfl) rfl⟩
def M_Mo_openBlock : ip_M := (⟨"ShareHouseModel", "openBlock", "(II)V"⟩, prog_14_method_37_code, 3, none)
theorem oM_Mo_openBlock : ip_okM lg_tbl M_Mo_openBlock := ⟨by decide +kernel, ⟨by decide +kernel, by decide +kernel⟩, by decide, tt_9 _ (List.mem_of_getElem? (i := 163) rfl) rfl, tt_1 _ (List.mem_of_getElem? (i := 14) rfl) rfl⟩
def M_Mo_endIf : ip_M := (⟨"ShareHouseModel", "endIf", "(I)V"⟩, prog_14_method_42_code, 3, none)
theorem oM_Mo_endIf : ip_okM lg_tbl M_Mo_endIf := ⟨by decide +kernel, ⟨by decide +kernel, by decide +kernel⟩, by decide, tt_9 _ (List.mem_of_getElem? (i := 167) rfl) rfl, tt_1 _ (List.mem_of_getElem? (i := 14) rfl) rfl⟩
def M_Mo_varStatement : ip_M := (⟨"ShareHouseModel", "varStatement", "(I)V"⟩, prog_14_method_34_code, 9, none)
theorem oM_Mo_varStatement : ip_okM lg_tbl M_Mo_varStatement := ⟨by decide +kernel, ⟨by decide +kernel, by decide +kernel⟩, by decide, tt_9 _ (List.mem_of_getElem? (i := 171) rfl) rfl, tt_1 _ (List.mem_of_getElem? (i := 14) rfl) rfl⟩
def M_Mo_type : ip_M := (⟨"ShareHouseModel", "type", "()V"⟩, prog_14_method_32_code, 1, none)
theorem oM_Mo_type : ip_okM lg_tbl M_Mo_type := ⟨by decide +kernel, ⟨by decide +kernel, by decide +kernel⟩, by decide, tt_9 _ (List.mem_of_getElem? (i := 175) rfl) rfl, tt_1 _ (List.mem_of_getElem? (i := 14) rfl) rfl⟩
def M_Mo_sortWord : ip_M := (⟨"ShareHouseModel", "sortWord", "()V"⟩, prog_14_method_31_code, 1, none)
theorem oM_Mo_sortWord : ip_okM lg_tbl M_Mo_sortWord := ⟨by decide +kernel, ⟨by decide +kernel, by decide +kernel⟩, by decide, tt_9 _ (List.mem_of_getElem? (i := 179) rfl) rfl, tt_1 _ (List.mem_of_getElem? (i := 14) rfl) rfl⟩
def M_Mo_forStatement : ip_M := (⟨"ShareHouseModel", "forStatement", "(I)V"⟩, prog_14_method_39_code, 5, none)
theorem oM_Mo_forStatement : ip_okM lg_tbl M_Mo_forStatement := ⟨by decide +kernel, ⟨by decide +kernel, by decide +kernel⟩, by decide, tt_9 _ (List.mem_of_getElem? (i := 186) rfl) rfl, tt_1 _ (List.mem_of_getElem? (i := 14) rfl) rfl⟩
def M_Mo_keyword : ip_M := (⟨"ShareHouseModel", "keyword", "(Ljava/lang/String;)V"⟩, prog_14_method_18_code, 2, none)
theorem oM_Mo_keyword : ip_okM lg_tbl M_Mo_keyword := ⟨by decide +kernel, ⟨by decide +kernel, by decide +kernel⟩, by decide, tt_9 _ (List.mem_of_getElem? (i := 190) rfl) rfl, tt_1 _ (List.mem_of_getElem? (i := 14) rfl) rfl⟩
def M_Mo_inputItem : ip_M := (⟨"ShareHouseModel", "inputItem", "(I)V"⟩, prog_14_method_33_code, 7, none)
theorem oM_Mo_inputItem : ip_okM lg_tbl M_Mo_inputItem := ⟨by decide +kernel, ⟨by decide +kernel, by decide +kernel⟩, by decide, tt_9 _ (List.mem_of_getElem? (i := 194) rfl) rfl, tt_1 _ (List.mem_of_getElem? (i := 14) rfl) rfl⟩
def M_Mo_defItem : ip_M := (⟨"ShareHouseModel", "defItem", "(I)V"⟩, prog_14_method_35_code, 9, none)
theorem oM_Mo_defItem : ip_okM lg_tbl M_Mo_defItem := ⟨by decide +kernel, ⟨by decide +kernel, by decide +kernel⟩, by decide, tt_9 _ (List.mem_of_getElem? (i := 198) rfl) rfl, tt_1 _ (List.mem_of_getElem? (i := 14) rfl) rfl⟩
def M_Mo_outputItem : ip_M := (⟨"ShareHouseModel", "outputItem", "(I)V"⟩, prog_14_method_36_code, 3, none)
theorem oM_Mo_outputItem : ip_okM lg_tbl M_Mo_outputItem := ⟨by decide +kernel, ⟨by decide +kernel, by decide +kernel⟩, by decide, tt_9 _ (List.mem_of_getElem? (i := 202) rfl) rfl, tt_1 _ (List.mem_of_getElem? (i := 14) rfl) rfl⟩
def M_Mo_assignment : ip_M := (⟨"ShareHouseModel", "assignment", "(I)V"⟩, prog_14_method_40_code, 5, none)
theorem oM_Mo_assignment : ip_okM lg_tbl M_Mo_assignment := ⟨by decide +kernel, ⟨by decide +kernel, by decide +kernel⟩, by decide, tt_9 _ (List.mem_of_getElem? (i := 206) rfl) rfl, tt_1 _ (List.mem_of_getElem? (i := 14) rfl) rfl⟩
def M_Mo_sorts : ip_M := (⟨"ShareHouseModel", "sorts", "()V"⟩, prog_14_method_52_code, 2, none)
theorem oM_Mo_sorts : ip_okM lg_tbl M_Mo_sorts := ⟨by decide +kernel, ⟨by decide +kernel, by decide +kernel⟩, by decide, tt_9 _ (List.mem_of_getElem? (i := 210) rfl) rfl, tt_1 _ (List.mem_of_getElem? (i := 14) rfl) rfl⟩
def M_Mo_operandSort : ip_M := (⟨"ShareHouseModel", "operandSort", "(I)V"⟩, prog_14_method_53_code, 5, none)
theorem oM_Mo_operandSort : ip_okM lg_tbl M_Mo_operandSort := ⟨by decide +kernel, ⟨by decide +kernel, by decide +kernel⟩, by decide, tt_9 _ (List.mem_of_getElem? (i := 214) rfl) rfl, tt_1 _ (List.mem_of_getElem? (i := 14) rfl) rfl⟩
def M_Mo_pile : ip_M := (⟨"ShareHouseModel", "pile", "(IIZ)V"⟩, prog_14_method_46_code, 4, none)
theorem oM_Mo_pile : ip_okM lg_tbl M_Mo_pile := ⟨by decide +kernel, ⟨by decide +kernel, by decide +kernel⟩, by decide, tt_9 _ (List.mem_of_getElem? (i := 218) rfl) rfl, tt_1 _ (List.mem_of_getElem? (i := 14) rfl) rfl⟩
def M_Mo_used : ip_M := (⟨"ShareHouseModel", "used", "(I)I"⟩, prog_14_method_49_code, 3, (some .int))
theorem oM_Mo_used : ip_okM lg_tbl M_Mo_used := ⟨by decide +kernel, ⟨by decide +kernel, by decide +kernel⟩, by decide, tt_9 _ (List.mem_of_getElem? (i := 222) rfl) rfl, tt_1 _ (List.mem_of_getElem? (i := 14) rfl) rfl⟩
def M_Mo_visible : ip_M := (⟨"ShareHouseModel", "visible", "(I)I"⟩, prog_14_method_44_code, 5, (some .int))
theorem oM_Mo_visible : ip_okM lg_tbl M_Mo_visible := ⟨by decide +kernel, ⟨by decide +kernel, by decide +kernel⟩, by decide, tt_9 _ (List.mem_of_getElem? (i := 226) rfl) rfl, tt_1 _ (List.mem_of_getElem? (i := 14) rfl) rfl⟩
def M_Mo_refer : ip_M := (⟨"ShareHouseModel", "refer", "(II)V"⟩, prog_14_method_47_code, 3, none)
theorem oM_Mo_refer : ip_okM lg_tbl M_Mo_refer := ⟨by decide +kernel, ⟨by decide +kernel, by decide +kernel⟩, by decide, tt_9 _ (List.mem_of_getElem? (i := 230) rfl) rfl, tt_1 _ (List.mem_of_getElem? (i := 14) rfl) rfl⟩
def M_Mo_must : ip_M := (⟨"ShareHouseModel", "must", "(I)V"⟩, prog_14_method_50_code, 2, none)
theorem oM_Mo_must : ip_okM lg_tbl M_Mo_must := ⟨by decide +kernel, ⟨by decide +kernel, by decide +kernel⟩, by decide, tt_9 _ (List.mem_of_getElem? (i := 234) rfl) rfl, tt_1 _ (List.mem_of_getElem? (i := 14) rfl) rfl⟩
def M_Mo_bitSort : ip_M := (⟨"ShareHouseModel", "bitSort", "(I)V"⟩, prog_14_method_54_code, 2, none)
theorem oM_Mo_bitSort : ip_okM lg_tbl M_Mo_bitSort := ⟨by decide +kernel, ⟨by decide +kernel, by decide +kernel⟩, by decide, tt_9 _ (List.mem_of_getElem? (i := 238) rfl) rfl, tt_1 _ (List.mem_of_getElem? (i := 14) rfl) rfl⟩
def M_Mo_mustPublic : ip_M := (⟨"ShareHouseModel", "mustPublic", "()V"⟩, prog_14_method_51_code, 1, none)
theorem oM_Mo_mustPublic : ip_okM lg_tbl M_Mo_mustPublic := ⟨by decide +kernel, ⟨by decide +kernel, by decide +kernel⟩, by decide, tt_10 _ (List.mem_of_getElem? (i := 2) rfl) rfl, tt_1 _ (List.mem_of_getElem? (i := 14) rfl) rfl⟩
def M_Mo_unarySort : ip_M := (⟨"ShareHouseModel", "unarySort", "(I)V"⟩, prog_14_method_55_code, 3, none)
theorem oM_Mo_unarySort : ip_okM lg_tbl M_Mo_unarySort := ⟨by decide +kernel, ⟨by decide +kernel, by decide +kernel⟩, by decide, tt_10 _ (List.mem_of_getElem? (i := 6) rfl) rfl, tt_1 _ (List.mem_of_getElem? (i := 14) rfl) rfl⟩
def M_Mo_binarySort : ip_M := (⟨"ShareHouseModel", "binarySort", "(I)V"⟩, prog_14_method_56_code, 8, none)
theorem oM_Mo_binarySort : ip_okM lg_tbl M_Mo_binarySort := ⟨by decide +kernel, ⟨by decide +kernel, by decide +kernel⟩, by decide, tt_10 _ (List.mem_of_getElem? (i := 10) rfl) rfl, tt_1 _ (List.mem_of_getElem? (i := 14) rfl) rfl⟩
def M_Mo_selectSort : ip_M := (⟨"ShareHouseModel", "selectSort", "(I)V"⟩, prog_14_method_57_code, 3, none)
theorem oM_Mo_selectSort : ip_okM lg_tbl M_Mo_selectSort := ⟨by decide +kernel, ⟨by decide +kernel, by decide +kernel⟩, by decide, tt_10 _ (List.mem_of_getElem? (i := 14) rfl) rfl, tt_1 _ (List.mem_of_getElem? (i := 14) rfl) rfl⟩
def M_Mo_statementSort : ip_M := (⟨"ShareHouseModel", "statementSort", "(I)V"⟩, prog_14_method_58_code, 4, none)
theorem oM_Mo_statementSort : ip_okM lg_tbl M_Mo_statementSort := ⟨by decide +kernel, ⟨by decide +kernel, by decide +kernel⟩, by decide, tt_10 _ (List.mem_of_getElem? (i := 18) rfl) rfl, tt_1 _ (List.mem_of_getElem? (i := 14) rfl) rfl⟩
def M_Mo_comes : ip_M := (⟨"ShareHouseModel", "comes", "(I)V"⟩, prog_14_method_48_code, 2, none)
theorem oM_Mo_comes : ip_okM lg_tbl M_Mo_comes := ⟨by decide +kernel, ⟨by decide +kernel, by decide +kernel⟩, by decide, tt_10 _ (List.mem_of_getElem? (i := 22) rfl) rfl, tt_1 _ (List.mem_of_getElem? (i := 14) rfl) rfl⟩
def M_Mo_paramSort : ip_M := (⟨"ShareHouseModel", "paramSort", "(I)V"⟩, prog_14_method_59_code, 5, none)
theorem oM_Mo_paramSort : ip_okM lg_tbl M_Mo_paramSort := ⟨by decide +kernel, ⟨by decide +kernel, by decide +kernel⟩, by decide, tt_10 _ (List.mem_of_getElem? (i := 26) rfl) rfl, tt_1 _ (List.mem_of_getElem? (i := 14) rfl) rfl⟩
def M_Mo_symbol : ip_M := (⟨"ShareHouseModel", "symbol", "(IIIII)I"⟩, prog_14_method_45_code, 6, (some .int))
theorem oM_Mo_symbol : ip_okM lg_tbl M_Mo_symbol := ⟨by decide +kernel, ⟨by decide +kernel, by decide +kernel⟩, by decide, tt_10 _ (List.mem_of_getElem? (i := 30) rfl) rfl, tt_1 _ (List.mem_of_getElem? (i := 14) rfl) rfl⟩
def M_Mo_assigned : ip_M := (⟨"ShareHouseModel", "assigned", "(I)V"⟩, prog_14_method_60_code, 4, none)
theorem oM_Mo_assigned : ip_okM lg_tbl M_Mo_assigned := ⟨by decide +kernel, ⟨by decide +kernel, by decide +kernel⟩, by decide, tt_10 _ (List.mem_of_getElem? (i := 35) rfl) rfl, tt_1 _ (List.mem_of_getElem? (i := 14) rfl) rfl⟩
def M_Mo_elementSort : ip_M := (⟨"ShareHouseModel", "elementSort", "(I)V"⟩, prog_14_method_61_code, 3, none)
theorem oM_Mo_elementSort : ip_okM lg_tbl M_Mo_elementSort := ⟨by decide +kernel, ⟨by decide +kernel, by decide +kernel⟩, by decide, tt_10 _ (List.mem_of_getElem? (i := 39) rfl) rfl, tt_1 _ (List.mem_of_getElem? (i := 14) rfl) rfl⟩
def M_Mo_build : ip_M := (⟨"ShareHouseModel", "build", "()V"⟩, prog_14_method_82_code, 2, none)
theorem oM_Mo_build : ip_okM lg_tbl M_Mo_build := ⟨by decide +kernel, ⟨by decide +kernel, by decide +kernel⟩, by decide, tt_10 _ (List.mem_of_getElem? (i := 43) rfl) rfl, tt_1 _ (List.mem_of_getElem? (i := 14) rfl) rfl⟩
def M_Mo_inputsOfAll : ip_M := (⟨"ShareHouseModel", "inputsOfAll", "()V"⟩, prog_14_method_81_code, 4, none)
theorem oM_Mo_inputsOfAll : ip_okM lg_tbl M_Mo_inputsOfAll := ⟨by decide +kernel, ⟨by decide +kernel, by decide +kernel⟩, by decide, tt_10 _ (List.mem_of_getElem? (i := 47) rfl) rfl, tt_1 _ (List.mem_of_getElem? (i := 14) rfl) rfl⟩
def M_Mo_widthOf : ip_M := (⟨"ShareHouseModel", "widthOf", "(I)I"⟩, prog_14_method_79_code, 2, (some .int))
theorem oM_Mo_widthOf : ip_okM lg_tbl M_Mo_widthOf := ⟨by decide +kernel, ⟨by decide +kernel, by decide +kernel⟩, by decide, tt_10 _ (List.mem_of_getElem? (i := 51) rfl) rfl, tt_1 _ (List.mem_of_getElem? (i := 14) rfl) rfl⟩
def M_Mo_operand : ip_M := (⟨"ShareHouseModel", "operand", "(I)I"⟩, prog_14_method_83_code, 5, (some .int))
theorem oM_Mo_operand : ip_okM lg_tbl M_Mo_operand := ⟨by decide +kernel, ⟨by decide +kernel, by decide +kernel⟩, by decide, tt_10 _ (List.mem_of_getElem? (i := 55) rfl) rfl, tt_1 _ (List.mem_of_getElem? (i := 14) rfl) rfl⟩
def M_Mo_step : ip_M := (⟨"ShareHouseModel", "step", "()V"⟩, prog_14_method_80_code, 1, none)
theorem oM_Mo_step : ip_okM lg_tbl M_Mo_step := ⟨by decide +kernel, ⟨by decide +kernel, by decide +kernel⟩, by decide, tt_10 _ (List.mem_of_getElem? (i := 59) rfl) rfl, tt_1 _ (List.mem_of_getElem? (i := 14) rfl) rfl⟩
def M_Mo_statementPlace : ip_M := (⟨"ShareHouseModel", "statementPlace", "()I"⟩, prog_14_method_63_code, 1, (some .int))
theorem oM_Mo_statementPlace : ip_okM lg_tbl M_Mo_statementPlace := ⟨by decide +kernel, ⟨by decide +kernel, by decide +kernel⟩, by decide, tt_10 _ (List.mem_of_getElem? (i := 64) rfl) rfl, tt_1 _ (List.mem_of_getElem? (i := 14) rfl) rfl⟩
def M_Mo_constantZ : ip_M := (⟨"ShareHouseModel", "constantZ", "(JI)V"⟩, prog_14_method_71_code, 5, none)
theorem oM_Mo_constantZ : ip_okM lg_tbl M_Mo_constantZ := ⟨by decide +kernel, ⟨by decide +kernel, by decide +kernel⟩, by decide, tt_10 _ (List.mem_of_getElem? (i := 68) rfl) rfl, tt_1 _ (List.mem_of_getElem? (i := 14) rfl) rfl⟩
def M_Mo_pushZ : ip_M := (⟨"ShareHouseModel", "pushZ", "(I)V"⟩, prog_14_method_70_code, 3, none)
theorem oM_Mo_pushZ : ip_okM lg_tbl M_Mo_pushZ := ⟨by decide +kernel, ⟨by decide +kernel, by decide +kernel⟩, by decide, tt_10 _ (List.mem_of_getElem? (i := 72) rfl) rfl, tt_1 _ (List.mem_of_getElem? (i := 14) rfl) rfl⟩
def M_Mo_named : ip_M := (⟨"ShareHouseModel", "named", "(I)V"⟩, prog_14_method_85_code, 5, none)
theorem oM_Mo_named : ip_okM lg_tbl M_Mo_named := ⟨by decide +kernel, ⟨by decide +kernel, by decide +kernel⟩, by decide, tt_10 _ (List.mem_of_getElem? (i := 76) rfl) rfl, tt_1 _ (List.mem_of_getElem? (i := 14) rfl) rfl⟩
def M_Mo_indexed : ip_M := (⟨"ShareHouseModel", "indexed", "(I)V"⟩, prog_14_method_88_code, 6, none)
theorem oM_Mo_indexed : ip_okM lg_tbl M_Mo_indexed := ⟨by decide +kernel, ⟨by decide +kernel, by decide +kernel⟩, by decide, tt_10 _ (List.mem_of_getElem? (i := 80) rfl) rfl, tt_1 _ (List.mem_of_getElem? (i := 14) rfl) rfl⟩
def M_Mo_worthOf : ip_M := (⟨"ShareHouseModel", "worthOf", "(I)J"⟩, prog_14_method_72_code, 5, (some .long))
theorem oM_Mo_worthOf : ip_okM lg_tbl M_Mo_worthOf := ⟨by decide +kernel, ⟨by decide +kernel, by decide +kernel⟩, by decide, tt_10 _ (List.mem_of_getElem? (i := 84) rfl) rfl, tt_1 _ (List.mem_of_getElem? (i := 14) rfl) rfl⟩
def M_Mo_elementBit : ip_M := (⟨"ShareHouseModel", "elementBit", "(III)I"⟩, prog_14_method_86_code, 4, (some .int))
theorem oM_Mo_elementBit : ip_okM lg_tbl M_Mo_elementBit := ⟨by decide +kernel, ⟨by decide +kernel, by decide +kernel⟩, by decide, tt_10 _ (List.mem_of_getElem? (i := 88) rfl) rfl, tt_1 _ (List.mem_of_getElem? (i := 14) rfl) rfl⟩
def M_Mo_popX : ip_M := (⟨"ShareHouseModel", "popX", "(I)V"⟩, prog_14_method_69_code, 3, none)
theorem oM_Mo_popX : ip_okM lg_tbl M_Mo_popX := ⟨by decide +kernel, ⟨by decide +kernel, by decide +kernel⟩, by decide, tt_10 _ (List.mem_of_getElem? (i := 92) rfl) rfl, tt_1 _ (List.mem_of_getElem? (i := 14) rfl) rfl⟩
def M_Mo_isIndex : ip_M := (⟨"ShareHouseModel", "isIndex", "(I)I"⟩, prog_14_method_87_code, 3, (some .int))
theorem oM_Mo_isIndex : ip_okM lg_tbl M_Mo_isIndex := ⟨by decide +kernel, ⟨by decide +kernel, by decide +kernel⟩, by decide, tt_10 _ (List.mem_of_getElem? (i := 96) rfl) rfl, tt_1 _ (List.mem_of_getElem? (i := 14) rfl) rfl⟩
def M_Mo_equal : ip_M := (⟨"ShareHouseModel", "equal", "(I)I"⟩, prog_14_method_75_code, 5, (some .int))
theorem oM_Mo_equal : ip_okM lg_tbl M_Mo_equal := ⟨by decide +kernel, ⟨by decide +kernel, by decide +kernel⟩, by decide, tt_10 _ (List.mem_of_getElem? (i := 100) rfl) rfl, tt_1 _ (List.mem_of_getElem? (i := 14) rfl) rfl⟩
def M_Mo_xor : ip_M := (⟨"ShareHouseModel", "xor", "(II)I"⟩, prog_14_method_65_code, 6, (some .int))
theorem oM_Mo_xor : ip_okM lg_tbl M_Mo_xor := ⟨by decide +kernel, ⟨by decide +kernel, by decide +kernel⟩, by decide, tt_10 _ (List.mem_of_getElem? (i := 104) rfl) rfl, tt_1 _ (List.mem_of_getElem? (i := 14) rfl) rfl⟩
def M_Mo_levelOf : ip_M := (⟨"ShareHouseModel", "levelOf", "(I)I"⟩, prog_14_method_62_code, 3, (some .int))
theorem oM_Mo_levelOf : ip_okM lg_tbl M_Mo_levelOf := ⟨by decide +kernel, ⟨by decide +kernel, by decide +kernel⟩, by decide, tt_10 _ (List.mem_of_getElem? (i := 108) rfl) rfl, tt_1 _ (List.mem_of_getElem? (i := 14) rfl) rfl⟩
def M_Mo_newGate : ip_M := (⟨"ShareHouseModel", "newGate", "(IIII)I"⟩, prog_14_method_64_code, 5, (some .int))
theorem oM_Mo_newGate : ip_okM lg_tbl M_Mo_newGate := ⟨by decide +kernel, ⟨by decide +kernel, by decide +kernel⟩, by decide, tt_10 _ (List.mem_of_getElem? (i := 112) rfl) rfl, tt_1 _ (List.mem_of_getElem? (i := 14) rfl) rfl⟩
def M_Mo_and : ip_M := (⟨"ShareHouseModel", "and", "(II)I"⟩, prog_14_method_66_code, 5, (some .int))
theorem oM_Mo_and : ip_okM lg_tbl M_Mo_and := ⟨by decide +kernel, ⟨by decide +kernel, by decide +kernel⟩, by decide, tt_10 _ (List.mem_of_getElem? (i := 116) rfl) rfl, tt_1 _ (List.mem_of_getElem? (i := 14) rfl) rfl⟩
def M_Mo_bodyOf : ip_M := (⟨"ShareHouseModel", "bodyOf", "(I)I"⟩, prog_14_method_84_code, 2, (some .int))
theorem oM_Mo_bodyOf : ip_okM lg_tbl M_Mo_bodyOf := ⟨by decide +kernel, ⟨by decide +kernel, by decide +kernel⟩, by decide, tt_10 _ (List.mem_of_getElem? (i := 120) rfl) rfl, tt_1 _ (List.mem_of_getElem? (i := 14) rfl) rfl⟩
def M_Mo_unary : ip_M := (⟨"ShareHouseModel", "unary", "(I)V"⟩, prog_14_method_89_code, 4, none)
theorem oM_Mo_unary : ip_okM lg_tbl M_Mo_unary := ⟨by decide +kernel, ⟨by decide +kernel, by decide +kernel⟩, by decide, tt_10 _ (List.mem_of_getElem? (i := 124) rfl) rfl, tt_1 _ (List.mem_of_getElem? (i := 14) rfl) rfl⟩
def M_Mo_sum : ip_M := (⟨"ShareHouseModel", "sum", "(II)V"⟩, prog_14_method_73_code, 7, none)
theorem oM_Mo_sum : ip_okM lg_tbl M_Mo_sum := ⟨by decide +kernel, ⟨by decide +kernel, by decide +kernel⟩, by decide, tt_10 _ (List.mem_of_getElem? (i := 128) rfl) rfl, tt_1 _ (List.mem_of_getElem? (i := 14) rfl) rfl⟩
def M_Mo_binary : ip_M := (⟨"ShareHouseModel", "binary", "(I)V"⟩, prog_14_method_90_code, 8, none)
theorem oM_Mo_binary : ip_okM lg_tbl M_Mo_binary := ⟨by decide +kernel, ⟨by decide +kernel, by decide +kernel⟩, by decide, tt_10 _ (List.mem_of_getElem? (i := 132) rfl) rfl, tt_1 _ (List.mem_of_getElem? (i := 14) rfl) rfl⟩
def M_Mo_popY : ip_M := (⟨"ShareHouseModel", "popY", "(I)V"⟩, prog_14_method_68_code, 3, none)
theorem oM_Mo_popY : ip_okM lg_tbl M_Mo_popY := ⟨by decide +kernel, ⟨by decide +kernel, by decide +kernel⟩, by decide, tt_10 _ (List.mem_of_getElem? (i := 136) rfl) rfl, tt_1 _ (List.mem_of_getElem? (i := 14) rfl) rfl⟩
def M_Mo_less : ip_M := (⟨"ShareHouseModel", "less", "()I"⟩, prog_14_method_74_code, 5, (some .int))
theorem oM_Mo_less : ip_okM lg_tbl M_Mo_less := ⟨by decide +kernel, ⟨by decide +kernel, by decide +kernel⟩, by decide, tt_10 _ (List.mem_of_getElem? (i := 140) rfl) rfl, tt_1 _ (List.mem_of_getElem? (i := 14) rfl) rfl⟩
def M_Mo_swap : ip_M := (⟨"ShareHouseModel", "swap", "()V"⟩, prog_14_method_76_code, 3, none)
theorem oM_Mo_swap : ip_okM lg_tbl M_Mo_swap := ⟨by decide +kernel, ⟨by decide +kernel, by decide +kernel⟩, by decide, tt_10 _ (List.mem_of_getElem? (i := 144) rfl) rfl, tt_1 _ (List.mem_of_getElem? (i := 14) rfl) rfl⟩
def M_Mo_multiply : ip_M := (⟨"ShareHouseModel", "multiply", "()V"⟩, prog_14_method_77_code, 3, none)
theorem oM_Mo_multiply : ip_okM lg_tbl M_Mo_multiply := ⟨by decide +kernel, ⟨by decide +kernel, by decide +kernel⟩, by decide, tt_10 _ (List.mem_of_getElem? (i := 148) rfl) rfl, tt_1 _ (List.mem_of_getElem? (i := 14) rfl) rfl⟩
def M_Mo_divide : ip_M := (⟨"ShareHouseModel", "divide", "()V"⟩, prog_14_method_78_code, 6, none)
theorem oM_Mo_divide : ip_okM lg_tbl M_Mo_divide := ⟨by decide +kernel, ⟨by decide +kernel, by decide +kernel⟩, by decide, tt_10 _ (List.mem_of_getElem? (i := 152) rfl) rfl, tt_1 _ (List.mem_of_getElem? (i := 14) rfl) rfl⟩
def M_Mo_mux : ip_M := (⟨"ShareHouseModel", "mux", "(III)I"⟩, prog_14_method_67_code, 4, (some .int))
theorem oM_Mo_mux : ip_okM lg_tbl M_Mo_mux := ⟨by decide +kernel, ⟨by decide +kernel, by decide +kernel⟩, by decide, tt_10 _ (List.mem_of_getElem? (i := 156) rfl) rfl, tt_1 _ (List.mem_of_getElem? (i := 14) rfl) rfl⟩
def M_Mo_statement : ip_M := (⟨"ShareHouseModel", "statement", "(I)I"⟩, prog_14_method_96_code, 6, (some .int))
theorem oM_Mo_statement : ip_okM lg_tbl M_Mo_statement := ⟨by decide +kernel, ⟨by decide +kernel, by decide +kernel⟩, by decide, tt_10 _ (List.mem_of_getElem? (i := 160) rfl) rfl, tt_1 _ (List.mem_of_getElem? (i := 14) rfl) rfl⟩
def M_Mo_variable : ip_M := (⟨"ShareHouseModel", "variable", "(I)V"⟩, prog_14_method_94_code, 7, none)
theorem oM_Mo_variable : ip_okM lg_tbl M_Mo_variable := ⟨by decide +kernel, ⟨by decide +kernel, by decide +kernel⟩, by decide, tt_10 _ (List.mem_of_getElem? (i := 164) rfl) rfl, tt_1 _ (List.mem_of_getElem? (i := 14) rfl) rfl⟩
def M_Mo_setElement : ip_M := (⟨"ShareHouseModel", "setElement", "(I)V"⟩, prog_14_method_95_code, 8, none)
theorem oM_Mo_setElement : ip_okM lg_tbl M_Mo_setElement := ⟨by decide +kernel, ⟨by decide +kernel, by decide +kernel⟩, by decide, tt_10 _ (List.mem_of_getElem? (i := 168) rfl) rfl, tt_1 _ (List.mem_of_getElem? (i := 14) rfl) rfl⟩
def M_Mo_keepVars : ip_M := (⟨"ShareHouseModel", "keepVars", "([II)V"⟩, prog_14_method_91_code, 5, none)
theorem oM_Mo_keepVars : ip_okM lg_tbl M_Mo_keepVars := ⟨by decide +kernel, ⟨by decide +kernel, by decide +kernel⟩, by decide, tt_10 _ (List.mem_of_getElem? (i := 172) rfl) rfl, tt_1 _ (List.mem_of_getElem? (i := 14) rfl) rfl⟩
def M_Mo_bringVars : ip_M := (⟨"ShareHouseModel", "bringVars", "([II)V"⟩, prog_14_method_92_code, 5, none)
theorem oM_Mo_bringVars : ip_okM lg_tbl M_Mo_bringVars := ⟨by decide +kernel, ⟨by decide +kernel, by decide +kernel⟩, by decide, tt_10 _ (List.mem_of_getElem? (i := 176) rfl) rfl, tt_1 _ (List.mem_of_getElem? (i := 14) rfl) rfl⟩
def M_Mo_endOfIf : ip_M := (⟨"ShareHouseModel", "endOfIf", "()V"⟩, prog_14_method_93_code, 5, none)
theorem oM_Mo_endOfIf : ip_okM lg_tbl M_Mo_endOfIf := ⟨by decide +kernel, ⟨by decide +kernel, by decide +kernel⟩, by decide, tt_10 _ (List.mem_of_getElem? (i := 180) rfl) rfl, tt_1 _ (List.mem_of_getElem? (i := 14) rfl) rfl⟩
def M_Mo_levels : ip_M := (⟨"ShareHouseModel", "levels", "()V"⟩, prog_14_method_108_code, 4, none)
theorem oM_Mo_levels : ip_okM lg_tbl M_Mo_levels := ⟨by decide +kernel, ⟨by decide +kernel, by decide +kernel⟩, by decide, tt_10 _ (List.mem_of_getElem? (i := 184) rfl) rfl, tt_1 _ (List.mem_of_getElem? (i := 14) rfl) rfl⟩
def M_Mo_done : ip_M := (⟨"ShareHouseModel", "done", "()I"⟩, prog_14_method_115_code, 3, (some .int))
theorem oM_Mo_done : ip_okM lg_tbl M_Mo_done := ⟨by decide +kernel, ⟨by decide +kernel, by decide +kernel⟩, by decide, tt_10 _ (List.mem_of_getElem? (i := 192) rfl) rfl, tt_1 _ (List.mem_of_getElem? (i := 14) rfl) rfl⟩
def M_Mo_shareAll : ip_M := (⟨"ShareHouseModel", "shareAll", "()V"⟩, prog_14_method_107_code, 6, none)
theorem oM_Mo_shareAll : ip_okM lg_tbl M_Mo_shareAll := ⟨by decide +kernel, ⟨by decide +kernel, by decide +kernel⟩, by decide, tt_10 _ (List.mem_of_getElem? (i := 225) rfl) rfl, tt_1 _ (List.mem_of_getElem? (i := 14) rfl) rfl⟩
def M_Mo_draw : ip_M := (⟨"ShareHouseModel", "draw", "()I"⟩, prog_14_method_104_code, 2, (some .int))
theorem oM_Mo_draw : ip_okM lg_tbl M_Mo_draw := ⟨by decide +kernel, ⟨by decide +kernel, by decide +kernel⟩, by decide, tt_10 _ (List.mem_of_getElem? (i := 229) rfl) rfl, tt_1 _ (List.mem_of_getElem? (i := 14) rfl) rfl⟩
def M_Mo_parity : ip_M := (⟨"ShareHouseModel", "parity", "(I)I"⟩, prog_14_method_105_code, 1, (some .int))
theorem oM_Mo_parity : ip_okM lg_tbl M_Mo_parity := ⟨by decide +kernel, ⟨by decide +kernel, by decide +kernel⟩, by decide, tt_10 _ (List.mem_of_getElem? (i := 233) rfl) rfl, tt_1 _ (List.mem_of_getElem? (i := 14) rfl) rfl⟩
def M_Mo_shareOf : ip_M := (⟨"ShareHouseModel", "shareOf", "(I)I"⟩, prog_14_method_106_code, 2, (some .int))
theorem oM_Mo_shareOf : ip_okM lg_tbl M_Mo_shareOf := ⟨by decide +kernel, ⟨by decide +kernel, by decide +kernel⟩, by decide, tt_10 _ (List.mem_of_getElem? (i := 238) rfl) rfl, tt_1 _ (List.mem_of_getElem? (i := 14) rfl) rfl⟩
def M_Mo_sendRound : ip_M := (⟨"ShareHouseModel", "sendRound", "(I)V"⟩, prog_14_method_109_code, 3, none)
theorem oM_Mo_sendRound : ip_okM lg_tbl M_Mo_sendRound := ⟨by decide +kernel, ⟨by decide +kernel, by decide +kernel⟩, by decide, tt_11 _ (List.mem_of_getElem? (i := 2) rfl) rfl, tt_1 _ (List.mem_of_getElem? (i := 14) rfl) rfl⟩
def M_Mo_lengthOf : ip_M := (⟨"ShareHouseModel", "lengthOf", "(II)I"⟩, prog_14_method_110_code, 3, (some .int))
theorem oM_Mo_lengthOf : ip_okM lg_tbl M_Mo_lengthOf := ⟨by decide +kernel, ⟨by decide +kernel, by decide +kernel⟩, by decide, tt_11 _ (List.mem_of_getElem? (i := 10) rfl) rfl, tt_1 _ (List.mem_of_getElem? (i := 14) rfl) rfl⟩
def M_Mo_sentBit : ip_M := (⟨"ShareHouseModel", "sentBit", "(IIII)I"⟩, prog_14_method_111_code, 7, (some .int))
theorem oM_Mo_sentBit : ip_okM lg_tbl M_Mo_sentBit := ⟨by decide +kernel, ⟨by decide +kernel, by decide +kernel⟩, by decide, tt_11 _ (List.mem_of_getElem? (i := 14) rfl) rfl, tt_1 _ (List.mem_of_getElem? (i := 14) rfl) rfl⟩
def M_Mo_takeMessage : ip_M := (⟨"ShareHouseModel", "takeMessage", "(I)I"⟩, prog_14_method_112_code, 6, (some .int))
theorem oM_Mo_takeMessage : ip_okM lg_tbl M_Mo_takeMessage := ⟨by decide +kernel, ⟨by decide +kernel, by decide +kernel⟩, by decide, tt_11 _ (List.mem_of_getElem? (i := 22) rfl) rfl, tt_1 _ (List.mem_of_getElem? (i := 14) rfl) rfl⟩
def M_Mo_viewBits : ip_M := (⟨"ShareHouseModel", "viewBits", "(I)I"⟩, prog_14_method_127_code, 2, (some .int))
theorem oM_Mo_viewBits : ip_okM lg_tbl M_Mo_viewBits := ⟨by decide +kernel, ⟨by decide +kernel, by decide +kernel⟩, by decide, tt_11 _ (List.mem_of_getElem? (i := 34) rfl) rfl, tt_1 _ (List.mem_of_getElem? (i := 14) rfl) rfl⟩
def M_Mo_mean : ip_M := (⟨"ShareHouseModel", "mean", "()V"⟩, prog_14_method_99_code, 2, none)
theorem oM_Mo_mean : ip_okM lg_tbl M_Mo_mean := ⟨by decide +kernel, ⟨by decide +kernel, by decide +kernel⟩, by decide, tt_11 _ (List.mem_of_getElem? (i := 58) rfl) rfl, tt_1 _ (List.mem_of_getElem? (i := 14) rfl) rfl⟩
def M_Mo_meanOperand : ip_M := (⟨"ShareHouseModel", "meanOperand", "(I)I"⟩, prog_14_method_101_code, 6, (some .int))
theorem oM_Mo_meanOperand : ip_okM lg_tbl M_Mo_meanOperand := ⟨by decide +kernel, ⟨by decide +kernel, by decide +kernel⟩, by decide, tt_11 _ (List.mem_of_getElem? (i := 62) rfl) rfl, tt_1 _ (List.mem_of_getElem? (i := 14) rfl) rfl⟩
def M_Mo_pushWord : ip_M := (⟨"ShareHouseModel", "pushWord", "(J)V"⟩, prog_14_method_100_code, 3, none)
theorem oM_Mo_pushWord : ip_okM lg_tbl M_Mo_pushWord := ⟨by decide +kernel, ⟨by decide +kernel, by decide +kernel⟩, by decide, tt_11 _ (List.mem_of_getElem? (i := 66) rfl) rfl, tt_1 _ (List.mem_of_getElem? (i := 14) rfl) rfl⟩
def M_Mo_inputWord : ip_M := (⟨"ShareHouseModel", "inputWord", "(I)J"⟩, prog_14_method_98_code, 2, (some .long))
theorem oM_Mo_inputWord : ip_okM lg_tbl M_Mo_inputWord := ⟨by decide +kernel, ⟨by decide +kernel, by decide +kernel⟩, by decide, tt_11 _ (List.mem_of_getElem? (i := 70) rfl) rfl, tt_1 _ (List.mem_of_getElem? (i := 14) rfl) rfl⟩
def M_Mo_meanBinary : ip_M := (⟨"ShareHouseModel", "meanBinary", "(IJJ)J"⟩, prog_14_method_102_code, 6, (some .long))
theorem oM_Mo_meanBinary : ip_okM lg_tbl M_Mo_meanBinary := ⟨by decide +kernel, ⟨by decide +kernel, by decide +kernel⟩, by decide, tt_11 _ (List.mem_of_getElem? (i := 74) rfl) rfl, tt_1 _ (List.mem_of_getElem? (i := 14) rfl) rfl⟩
def M_Mo_signed : ip_M := (⟨"ShareHouseModel", "signed", "(J)J"⟩, prog_14_method_97_code, 3, (some .long))
theorem oM_Mo_signed : ip_okM lg_tbl M_Mo_signed := ⟨by decide +kernel, ⟨by decide +kernel, by decide +kernel⟩, by decide, tt_11 _ (List.mem_of_getElem? (i := 78) rfl) rfl, tt_1 _ (List.mem_of_getElem? (i := 14) rfl) rfl⟩
def M_Mo_meanStatement : ip_M := (⟨"ShareHouseModel", "meanStatement", "(I)I"⟩, prog_14_method_103_code, 6, (some .int))
theorem oM_Mo_meanStatement : ip_okM lg_tbl M_Mo_meanStatement := ⟨by decide +kernel, ⟨by decide +kernel, by decide +kernel⟩, by decide, tt_11 _ (List.mem_of_getElem? (i := 82) rfl) rfl, tt_1 _ (List.mem_of_getElem? (i := 14) rfl) rfl⟩
