theorem tp_1 : ∀ q ∈ lw_privs_1, Cond.selects q.1.cls q.1 q.1 ∈ lg_tbl := fun q h => List.mem_filter.mpr ⟨List.mem_append_left _ (List.mem_map.mpr ⟨q, List.mem_append_left _ h, rfl⟩), rfl⟩
theorem tp_2 : ∀ q ∈ lw_privs_2, Cond.selects q.1.cls q.1 q.1 ∈ lg_tbl := fun q h => List.mem_filter.mpr ⟨List.mem_append_left _ (List.mem_map.mpr ⟨q, List.mem_append_right _ (List.mem_append_left _ h), rfl⟩), rfl⟩
theorem tp_3 : ∀ q ∈ lw_privs_3, Cond.selects q.1.cls q.1 q.1 ∈ lg_tbl := fun q h => List.mem_filter.mpr ⟨List.mem_append_left _ (List.mem_map.mpr ⟨q, List.mem_append_right _ (List.mem_append_right _ (List.mem_append_left _ h)), rfl⟩), rfl⟩
theorem tp_4 : ∀ q ∈ lw_privs_4, Cond.selects q.1.cls q.1 q.1 ∈ lg_tbl := fun q h => List.mem_filter.mpr ⟨List.mem_append_left _ (List.mem_map.mpr ⟨q, List.mem_append_right _ (List.mem_append_right _ (List.mem_append_right _ (List.mem_append_left _ h))), rfl⟩), rfl⟩
theorem tp_5 : ∀ q ∈ lw_privs_5, Cond.selects q.1.cls q.1 q.1 ∈ lg_tbl := fun q h => List.mem_filter.mpr ⟨List.mem_append_left _ (List.mem_map.mpr ⟨q, List.mem_append_right _ (List.mem_append_right _ (List.mem_append_right _ (List.mem_append_right _ (List.mem_append_left _ h)))), rfl⟩), rfl⟩
theorem tp_6 : ∀ q ∈ lw_privs_6, Cond.selects q.1.cls q.1 q.1 ∈ lg_tbl := fun q h => List.mem_filter.mpr ⟨List.mem_append_left _ (List.mem_map.mpr ⟨q, List.mem_append_right _ (List.mem_append_right _ (List.mem_append_right _ (List.mem_append_right _ (List.mem_append_right _ (List.mem_append_left _ h))))), rfl⟩), rfl⟩
theorem tp_7 : ∀ q ∈ lw_privs_7, Cond.selects q.1.cls q.1 q.1 ∈ lg_tbl := fun q h => List.mem_filter.mpr ⟨List.mem_append_left _ (List.mem_map.mpr ⟨q, List.mem_append_right _ (List.mem_append_right _ (List.mem_append_right _ (List.mem_append_right _ (List.mem_append_right _ (List.mem_append_right _ (List.mem_append_left _ h)))))), rfl⟩), rfl⟩
theorem tp_8 : ∀ q ∈ lw_privs_8, Cond.selects q.1.cls q.1 q.1 ∈ lg_tbl := fun q h => List.mem_filter.mpr ⟨List.mem_append_left _ (List.mem_map.mpr ⟨q, List.mem_append_right _ (List.mem_append_right _ (List.mem_append_right _ (List.mem_append_right _ (List.mem_append_right _ (List.mem_append_right _ (List.mem_append_right _ (List.mem_append_left _ h))))))), rfl⟩), rfl⟩
theorem tp_9 : ∀ q ∈ lw_privs_9, Cond.selects q.1.cls q.1 q.1 ∈ lg_tbl := fun q h => List.mem_filter.mpr ⟨List.mem_append_left _ (List.mem_map.mpr ⟨q, List.mem_append_right _ (List.mem_append_right _ (List.mem_append_right _ (List.mem_append_right _ (List.mem_append_right _ (List.mem_append_right _ (List.mem_append_right _ (List.mem_append_right _ (List.mem_append_left _ h)))))))), rfl⟩), rfl⟩
theorem tp_10 : ∀ q ∈ lw_privs_10, Cond.selects q.1.cls q.1 q.1 ∈ lg_tbl := fun q h => List.mem_filter.mpr ⟨List.mem_append_left _ (List.mem_map.mpr ⟨q, List.mem_append_right _ (List.mem_append_right _ (List.mem_append_right _ (List.mem_append_right _ (List.mem_append_right _ (List.mem_append_right _ (List.mem_append_right _ (List.mem_append_right _ (List.mem_append_right _ (List.mem_append_left _ h))))))))), rfl⟩), rfl⟩
theorem tp_11 : ∀ q ∈ lw_privs_11, Cond.selects q.1.cls q.1 q.1 ∈ lg_tbl := fun q h => List.mem_filter.mpr ⟨List.mem_append_left _ (List.mem_map.mpr ⟨q, List.mem_append_right _ (List.mem_append_right _ (List.mem_append_right _ (List.mem_append_right _ (List.mem_append_right _ (List.mem_append_right _ (List.mem_append_right _ (List.mem_append_right _ (List.mem_append_right _ (List.mem_append_right _ (List.mem_append_left _ h)))))))))), rfl⟩), rfl⟩
theorem tp_12 : ∀ q ∈ lw_privs_12, Cond.selects q.1.cls q.1 q.1 ∈ lg_tbl := fun q h => List.mem_filter.mpr ⟨List.mem_append_left _ (List.mem_map.mpr ⟨q, List.mem_append_right _ (List.mem_append_right _ (List.mem_append_right _ (List.mem_append_right _ (List.mem_append_right _ (List.mem_append_right _ (List.mem_append_right _ (List.mem_append_right _ (List.mem_append_right _ (List.mem_append_right _ (List.mem_append_right _ (List.mem_append_left _ h))))))))))), rfl⟩), rfl⟩
theorem tp_13 : ∀ q ∈ lw_privs_13, Cond.selects q.1.cls q.1 q.1 ∈ lg_tbl := fun q h => List.mem_filter.mpr ⟨List.mem_append_left _ (List.mem_map.mpr ⟨q, List.mem_append_right _ (List.mem_append_right _ (List.mem_append_right _ (List.mem_append_right _ (List.mem_append_right _ (List.mem_append_right _ (List.mem_append_right _ (List.mem_append_right _ (List.mem_append_right _ (List.mem_append_right _ (List.mem_append_right _ (List.mem_append_right _ (h)))))))))))), rfl⟩), rfl⟩
theorem fS_H_putReady : Cond.selects "ShareHouse" ⟨"ShareHouse", "putReady", "(II)V"⟩ ⟨"ShareHouse", "putReady", "(II)V"⟩ ∈ lg_tbl := tp_1 _ (List.mem_of_getElem? (i := 0) rfl)
theorem fS_Words_skipBlanks : Cond.selects "ShareHouse$Words" ⟨"ShareHouse$Words", "skipBlanks", "()V"⟩ ⟨"ShareHouse$Words", "skipBlanks", "()V"⟩ ∈ lg_tbl := tp_1 _ (List.mem_of_getElem? (i := 1) rfl)
theorem fS_Words_wordKind : Cond.selects "ShareHouse$Words" ⟨"ShareHouse$Words", "wordKind", "()I"⟩ ⟨"ShareHouse$Words", "wordKind", "()I"⟩ ∈ lg_tbl := tp_1 _ (List.mem_of_getElem? (i := 2) rfl)
theorem fS_Reader_readInput : Cond.selects "ShareHouse$Reader" ⟨"ShareHouse$Reader", "readInput", "()V"⟩ ⟨"ShareHouse$Reader", "readInput", "()V"⟩ ∈ lg_tbl := tp_1 _ (List.mem_of_getElem? (i := 3) rfl)
theorem fS_Reader_takeName : Cond.selects "ShareHouse$Reader" ⟨"ShareHouse$Reader", "takeName", "()I"⟩ ⟨"ShareHouse$Reader", "takeName", "()I"⟩ ∈ lg_tbl := tp_1 _ (List.mem_of_getElem? (i := 4) rfl)
theorem fS_Reader_expect : Cond.selects "ShareHouse$Reader" ⟨"ShareHouse$Reader", "expect", "(I)V"⟩ ⟨"ShareHouse$Reader", "expect", "(I)V"⟩ ∈ lg_tbl := tp_1 _ (List.mem_of_getElem? (i := 5) rfl)
theorem fS_Reader_takeNumber : Cond.selects "ShareHouse$Reader" ⟨"ShareHouse$Reader", "takeNumber", "(JJ)J"⟩ ⟨"ShareHouse$Reader", "takeNumber", "(JJ)J"⟩ ∈ lg_tbl := tp_1 _ (List.mem_of_getElem? (i := 6) rfl)
theorem fS_Reader_takeTyped : Cond.selects "ShareHouse$Reader" ⟨"ShareHouse$Reader", "takeTyped", "(III)I"⟩ ⟨"ShareHouse$Reader", "takeTyped", "(III)I"⟩ ∈ lg_tbl := tp_1 _ (List.mem_of_getElem? (i := 7) rfl)
theorem fS_Reader_takeSort : Cond.selects "ShareHouse$Reader" ⟨"ShareHouse$Reader", "takeSort", "()I"⟩ ⟨"ShareHouse$Reader", "takeSort", "()I"⟩ ∈ lg_tbl := tp_1 _ (List.mem_of_getElem? (i := 8) rfl)
theorem fS_Names_stopOf : Cond.selects "ShareHouse$Names" ⟨"ShareHouse$Names", "stopOf", "(I)I"⟩ ⟨"ShareHouse$Names", "stopOf", "(I)I"⟩ ∈ lg_tbl := tp_1 _ (List.mem_of_getElem? (i := 9) rfl)
theorem fS_Reader_readDef : Cond.selects "ShareHouse$Reader" ⟨"ShareHouse$Reader", "readDef", "()V"⟩ ⟨"ShareHouse$Reader", "readDef", "()V"⟩ ∈ lg_tbl := tp_1 _ (List.mem_of_getElem? (i := 10) rfl)
theorem fS_Reader_readParam : Cond.selects "ShareHouse$Reader" ⟨"ShareHouse$Reader", "readParam", "(I)V"⟩ ⟨"ShareHouse$Reader", "readParam", "(I)V"⟩ ∈ lg_tbl := tp_1 _ (List.mem_of_getElem? (i := 11) rfl)
theorem fS_Reader_readExpr : Cond.selects "ShareHouse$Reader" ⟨"ShareHouse$Reader", "readExpr", "(I)V"⟩ ⟨"ShareHouse$Reader", "readExpr", "(I)V"⟩ ∈ lg_tbl := tp_1 _ (List.mem_of_getElem? (i := 12) rfl)
theorem fS_Reader_readChoice : Cond.selects "ShareHouse$Reader" ⟨"ShareHouse$Reader", "readChoice", "(I)V"⟩ ⟨"ShareHouse$Reader", "readChoice", "(I)V"⟩ ∈ lg_tbl := tp_1 _ (List.mem_of_getElem? (i := 13) rfl)
theorem fS_Reader_readFactor : Cond.selects "ShareHouse$Reader" ⟨"ShareHouse$Reader", "readFactor", "(I)V"⟩ ⟨"ShareHouse$Reader", "readFactor", "(I)V"⟩ ∈ lg_tbl := tp_1 _ (List.mem_of_getElem? (i := 14) rfl)
theorem fS_Reader_opens : Cond.selects "ShareHouse$Reader" ⟨"ShareHouse$Reader", "opens", "(II)Z"⟩ ⟨"ShareHouse$Reader", "opens", "(II)Z"⟩ ∈ lg_tbl := tp_1 _ (List.mem_of_getElem? (i := 15) rfl)
theorem fS_Reader_readNamed : Cond.selects "ShareHouse$Reader" ⟨"ShareHouse$Reader", "readNamed", "(I)V"⟩ ⟨"ShareHouse$Reader", "readNamed", "(I)V"⟩ ∈ lg_tbl := tp_2 _ (List.mem_of_getElem? (i := 0) rfl)
theorem fS_Reader_readIndex : Cond.selects "ShareHouse$Reader" ⟨"ShareHouse$Reader", "readIndex", "(II)V"⟩ ⟨"ShareHouse$Reader", "readIndex", "(II)V"⟩ ∈ lg_tbl := tp_2 _ (List.mem_of_getElem? (i := 1) rfl)
theorem fS_Reader_readCall : Cond.selects "ShareHouse$Reader" ⟨"ShareHouse$Reader", "readCall", "(II)V"⟩ ⟨"ShareHouse$Reader", "readCall", "(II)V"⟩ ∈ lg_tbl := tp_2 _ (List.mem_of_getElem? (i := 2) rfl)
theorem fS_Reader_readConversion : Cond.selects "ShareHouse$Reader" ⟨"ShareHouse$Reader", "readConversion", "(ZI)V"⟩ ⟨"ShareHouse$Reader", "readConversion", "(ZI)V"⟩ ∈ lg_tbl := tp_2 _ (List.mem_of_getElem? (i := 3) rfl)
theorem fS_Reader_settle : Cond.selects "ShareHouse$Reader" ⟨"ShareHouse$Reader", "settle", "(II)V"⟩ ⟨"ShareHouse$Reader", "settle", "(II)V"⟩ ∈ lg_tbl := tp_2 _ (List.mem_of_getElem? (i := 4) rfl)
theorem fS_Reader_readOutput : Cond.selects "ShareHouse$Reader" ⟨"ShareHouse$Reader", "readOutput", "()V"⟩ ⟨"ShareHouse$Reader", "readOutput", "()V"⟩ ∈ lg_tbl := tp_2 _ (List.mem_of_getElem? (i := 5) rfl)
theorem fS_Reader_readStatement : Cond.selects "ShareHouse$Reader" ⟨"ShareHouse$Reader", "readStatement", "(I)V"⟩ ⟨"ShareHouse$Reader", "readStatement", "(I)V"⟩ ∈ lg_tbl := tp_2 _ (List.mem_of_getElem? (i := 6) rfl)
theorem fS_Reader_readVar : Cond.selects "ShareHouse$Reader" ⟨"ShareHouse$Reader", "readVar", "(I)V"⟩ ⟨"ShareHouse$Reader", "readVar", "(I)V"⟩ ∈ lg_tbl := tp_2 _ (List.mem_of_getElem? (i := 7) rfl)
theorem fS_Reader_readAssignment : Cond.selects "ShareHouse$Reader" ⟨"ShareHouse$Reader", "readAssignment", "(I)V"⟩ ⟨"ShareHouse$Reader", "readAssignment", "(I)V"⟩ ∈ lg_tbl := tp_2 _ (List.mem_of_getElem? (i := 8) rfl)
theorem fS_Reader_readIf : Cond.selects "ShareHouse$Reader" ⟨"ShareHouse$Reader", "readIf", "(I)V"⟩ ⟨"ShareHouse$Reader", "readIf", "(I)V"⟩ ∈ lg_tbl := tp_2 _ (List.mem_of_getElem? (i := 9) rfl)
theorem fS_Reader_readBlock : Cond.selects "ShareHouse$Reader" ⟨"ShareHouse$Reader", "readBlock", "(I)V"⟩ ⟨"ShareHouse$Reader", "readBlock", "(I)V"⟩ ∈ lg_tbl := tp_2 _ (List.mem_of_getElem? (i := 10) rfl)
theorem fS_Reader_readFor : Cond.selects "ShareHouse$Reader" ⟨"ShareHouse$Reader", "readFor", "(I)V"⟩ ⟨"ShareHouse$Reader", "readFor", "(I)V"⟩ ∈ lg_tbl := tp_2 _ (List.mem_of_getElem? (i := 11) rfl)
theorem fS_Sorts_checkStatement : Cond.selects "ShareHouse$Sorts" ⟨"ShareHouse$Sorts", "checkStatement", "(II)V"⟩ ⟨"ShareHouse$Sorts", "checkStatement", "(II)V"⟩ ∈ lg_tbl := tp_2 _ (List.mem_of_getElem? (i := 12) rfl)
theorem fS_Sorts_comeIn : Cond.selects "ShareHouse$Sorts" ⟨"ShareHouse$Sorts", "comeIn", "(I)V"⟩ ⟨"ShareHouse$Sorts", "comeIn", "(I)V"⟩ ∈ lg_tbl := tp_2 _ (List.mem_of_getElem? (i := 13) rfl)
theorem fS_Names_isSame : Cond.selects "ShareHouse$Names" ⟨"ShareHouse$Names", "isSame", "(III)Z"⟩ ⟨"ShareHouse$Names", "isSame", "(III)Z"⟩ ∈ lg_tbl := tp_2 _ (List.mem_of_getElem? (i := 14) rfl)
theorem fS_Sorts_mustBe : Cond.selects "ShareHouse$Sorts" ⟨"ShareHouse$Sorts", "mustBe", "(II)I"⟩ ⟨"ShareHouse$Sorts", "mustBe", "(II)I"⟩ ∈ lg_tbl := tp_2 _ (List.mem_of_getElem? (i := 15) rfl)
theorem fS_Sorts_pop : Cond.selects "ShareHouse$Sorts" ⟨"ShareHouse$Sorts", "pop", "()I"⟩ ⟨"ShareHouse$Sorts", "pop", "()I"⟩ ∈ lg_tbl := tp_3 _ (List.mem_of_getElem? (i := 0) rfl)
theorem fS_Sorts_checkTarget : Cond.selects "ShareHouse$Sorts" ⟨"ShareHouse$Sorts", "checkTarget", "(IZ)V"⟩ ⟨"ShareHouse$Sorts", "checkTarget", "(IZ)V"⟩ ∈ lg_tbl := tp_3 _ (List.mem_of_getElem? (i := 1) rfl)
theorem fS_Sorts_resolve : Cond.selects "ShareHouse$Sorts" ⟨"ShareHouse$Sorts", "resolve", "(I)I"⟩ ⟨"ShareHouse$Sorts", "resolve", "(I)I"⟩ ∈ lg_tbl := tp_3 _ (List.mem_of_getElem? (i := 2) rfl)
theorem fS_Sorts_noteAssigned : Cond.selects "ShareHouse$Sorts" ⟨"ShareHouse$Sorts", "noteAssigned", "(I)V"⟩ ⟨"ShareHouse$Sorts", "noteAssigned", "(I)V"⟩ ∈ lg_tbl := tp_3 _ (List.mem_of_getElem? (i := 3) rfl)
theorem fS_Sorts_widen : Cond.selects "ShareHouse$Sorts" ⟨"ShareHouse$Sorts", "widen", "(III)V"⟩ ⟨"ShareHouse$Sorts", "widen", "(III)V"⟩ ∈ lg_tbl := tp_3 _ (List.mem_of_getElem? (i := 4) rfl)
theorem fS_Sorts_checkFlow : Cond.selects "ShareHouse$Sorts" ⟨"ShareHouse$Sorts", "checkFlow", "(II)V"⟩ ⟨"ShareHouse$Sorts", "checkFlow", "(II)V"⟩ ∈ lg_tbl := tp_3 _ (List.mem_of_getElem? (i := 5) rfl)
theorem fS_Sorts_openScope : Cond.selects "ShareHouse$Sorts" ⟨"ShareHouse$Sorts", "openScope", "()V"⟩ ⟨"ShareHouse$Sorts", "openScope", "()V"⟩ ∈ lg_tbl := tp_3 _ (List.mem_of_getElem? (i := 6) rfl)
theorem fS_Sorts_openIf : Cond.selects "ShareHouse$Sorts" ⟨"ShareHouse$Sorts", "openIf", "()V"⟩ ⟨"ShareHouse$Sorts", "openIf", "()V"⟩ ∈ lg_tbl := tp_3 _ (List.mem_of_getElem? (i := 7) rfl)
theorem fS_Sorts_closeScope : Cond.selects "ShareHouse$Sorts" ⟨"ShareHouse$Sorts", "closeScope", "()V"⟩ ⟨"ShareHouse$Sorts", "closeScope", "()V"⟩ ∈ lg_tbl := tp_3 _ (List.mem_of_getElem? (i := 8) rfl)
theorem fS_Sorts_closeIf : Cond.selects "ShareHouse$Sorts" ⟨"ShareHouse$Sorts", "closeIf", "(I)V"⟩ ⟨"ShareHouse$Sorts", "closeIf", "(I)V"⟩ ∈ lg_tbl := tp_3 _ (List.mem_of_getElem? (i := 9) rfl)
theorem fS_Sorts_mustBePublic : Cond.selects "ShareHouse$Sorts" ⟨"ShareHouse$Sorts", "mustBePublic", "(II)V"⟩ ⟨"ShareHouse$Sorts", "mustBePublic", "(II)V"⟩ ∈ lg_tbl := tp_3 _ (List.mem_of_getElem? (i := 10) rfl)
theorem fS_Sorts_checkFactor : Cond.selects "ShareHouse$Sorts" ⟨"ShareHouse$Sorts", "checkFactor", "(II)V"⟩ ⟨"ShareHouse$Sorts", "checkFactor", "(II)V"⟩ ∈ lg_tbl := tp_3 _ (List.mem_of_getElem? (i := 11) rfl)
theorem fS_Sorts_push : Cond.selects "ShareHouse$Sorts" ⟨"ShareHouse$Sorts", "push", "(I)V"⟩ ⟨"ShareHouse$Sorts", "push", "(I)V"⟩ ∈ lg_tbl := tp_3 _ (List.mem_of_getElem? (i := 12) rfl)
theorem fS_Sorts_checkName : Cond.selects "ShareHouse$Sorts" ⟨"ShareHouse$Sorts", "checkName", "(I)V"⟩ ⟨"ShareHouse$Sorts", "checkName", "(I)V"⟩ ∈ lg_tbl := tp_3 _ (List.mem_of_getElem? (i := 13) rfl)
theorem fS_Sorts_checkHead : Cond.selects "ShareHouse$Sorts" ⟨"ShareHouse$Sorts", "checkHead", "(IZ)V"⟩ ⟨"ShareHouse$Sorts", "checkHead", "(IZ)V"⟩ ∈ lg_tbl := tp_3 _ (List.mem_of_getElem? (i := 14) rfl)
theorem fS_Sorts_checkSign : Cond.selects "ShareHouse$Sorts" ⟨"ShareHouse$Sorts", "checkSign", "(II)V"⟩ ⟨"ShareHouse$Sorts", "checkSign", "(II)V"⟩ ∈ lg_tbl := tp_3 _ (List.mem_of_getElem? (i := 15) rfl)
theorem fS_Sorts_checkOperator : Cond.selects "ShareHouse$Sorts" ⟨"ShareHouse$Sorts", "checkOperator", "(II)V"⟩ ⟨"ShareHouse$Sorts", "checkOperator", "(II)V"⟩ ∈ lg_tbl := tp_4 _ (List.mem_of_getElem? (i := 0) rfl)
theorem fS_Builder_finds : Cond.selects "ShareHouse$Builder" ⟨"ShareHouse$Builder", "finds", "(I)Z"⟩ ⟨"ShareHouse$Builder", "finds", "(I)Z"⟩ ∈ lg_tbl := tp_4 _ (List.mem_of_getElem? (i := 1) rfl)
theorem fS_Builder_buildStatement : Cond.selects "ShareHouse$Builder" ⟨"ShareHouse$Builder", "buildStatement", "(II)V"⟩ ⟨"ShareHouse$Builder", "buildStatement", "(II)V"⟩ ∈ lg_tbl := tp_4 _ (List.mem_of_getElem? (i := 2) rfl)
theorem fS_Builder_goBack : Cond.selects "ShareHouse$Builder" ⟨"ShareHouse$Builder", "goBack", "()V"⟩ ⟨"ShareHouse$Builder", "goBack", "()V"⟩ ∈ lg_tbl := tp_4 _ (List.mem_of_getElem? (i := 3) rfl)
theorem fS_Builder_keepAll : Cond.selects "ShareHouse$Builder" ⟨"ShareHouse$Builder", "keepAll", "(I)V"⟩ ⟨"ShareHouse$Builder", "keepAll", "(I)V"⟩ ∈ lg_tbl := tp_4 _ (List.mem_of_getElem? (i := 4) rfl)
theorem fS_Builder_keep : Cond.selects "ShareHouse$Builder" ⟨"ShareHouse$Builder", "keep", "(III)V"⟩ ⟨"ShareHouse$Builder", "keep", "(III)V"⟩ ∈ lg_tbl := tp_4 _ (List.mem_of_getElem? (i := 5) rfl)
theorem fS_Builder_bitsOf : Cond.selects "ShareHouse$Builder" ⟨"ShareHouse$Builder", "bitsOf", "(I)I"⟩ ⟨"ShareHouse$Builder", "bitsOf", "(I)I"⟩ ∈ lg_tbl := tp_4 _ (List.mem_of_getElem? (i := 6) rfl)
theorem fS_Builder_storeElement : Cond.selects "ShareHouse$Builder" ⟨"ShareHouse$Builder", "storeElement", "(I)V"⟩ ⟨"ShareHouse$Builder", "storeElement", "(I)V"⟩ ∈ lg_tbl := tp_4 _ (List.mem_of_getElem? (i := 7) rfl)
theorem fS_Circuit_newGate : Cond.selects "ShareHouse$Circuit" ⟨"ShareHouse$Circuit", "newGate", "(IIZI)I"⟩ ⟨"ShareHouse$Circuit", "newGate", "(IIZI)I"⟩ ∈ lg_tbl := tp_4 _ (List.mem_of_getElem? (i := 8) rfl)
theorem fS_Logic_all : Cond.selects "ShareHouse$Logic" ⟨"ShareHouse$Logic", "all", "(I)I"⟩ ⟨"ShareHouse$Logic", "all", "(I)I"⟩ ∈ lg_tbl := tp_4 _ (List.mem_of_getElem? (i := 9) rfl)
theorem fS_Builder_buildFlow : Cond.selects "ShareHouse$Builder" ⟨"ShareHouse$Builder", "buildFlow", "(II)V"⟩ ⟨"ShareHouse$Builder", "buildFlow", "(II)V"⟩ ∈ lg_tbl := tp_4 _ (List.mem_of_getElem? (i := 10) rfl)
theorem fS_Builder_openIf : Cond.selects "ShareHouse$Builder" ⟨"ShareHouse$Builder", "openIf", "(I)V"⟩ ⟨"ShareHouse$Builder", "openIf", "(I)V"⟩ ∈ lg_tbl := tp_4 _ (List.mem_of_getElem? (i := 11) rfl)
theorem fS_Builder_turnIf : Cond.selects "ShareHouse$Builder" ⟨"ShareHouse$Builder", "turnIf", "(I)V"⟩ ⟨"ShareHouse$Builder", "turnIf", "(I)V"⟩ ∈ lg_tbl := tp_4 _ (List.mem_of_getElem? (i := 12) rfl)
theorem fS_Builder_closeIf : Cond.selects "ShareHouse$Builder" ⟨"ShareHouse$Builder", "closeIf", "(I)V"⟩ ⟨"ShareHouse$Builder", "closeIf", "(I)V"⟩ ∈ lg_tbl := tp_4 _ (List.mem_of_getElem? (i := 13) rfl)
theorem fS_Builder_beginLoop : Cond.selects "ShareHouse$Builder" ⟨"ShareHouse$Builder", "beginLoop", "(I)V"⟩ ⟨"ShareHouse$Builder", "beginLoop", "(I)V"⟩ ∈ lg_tbl := tp_4 _ (List.mem_of_getElem? (i := 14) rfl)
theorem fS_Builder_takeNextTurn : Cond.selects "ShareHouse$Builder" ⟨"ShareHouse$Builder", "takeNextTurn", "(I)V"⟩ ⟨"ShareHouse$Builder", "takeNextTurn", "(I)V"⟩ ∈ lg_tbl := tp_4 _ (List.mem_of_getElem? (i := 15) rfl)
theorem fS_Builder_buildFactor : Cond.selects "ShareHouse$Builder" ⟨"ShareHouse$Builder", "buildFactor", "(II)V"⟩ ⟨"ShareHouse$Builder", "buildFactor", "(II)V"⟩ ∈ lg_tbl := tp_5 _ (List.mem_of_getElem? (i := 0) rfl)
theorem fS_Builder_pushNumber : Cond.selects "ShareHouse$Builder" ⟨"ShareHouse$Builder", "pushNumber", "(J)V"⟩ ⟨"ShareHouse$Builder", "pushNumber", "(J)V"⟩ ∈ lg_tbl := tp_5 _ (List.mem_of_getElem? (i := 1) rfl)
theorem fS_Builder_pushNamed : Cond.selects "ShareHouse$Builder" ⟨"ShareHouse$Builder", "pushNamed", "(I)V"⟩ ⟨"ShareHouse$Builder", "pushNamed", "(I)V"⟩ ∈ lg_tbl := tp_5 _ (List.mem_of_getElem? (i := 2) rfl)
theorem fS_Builder_load : Cond.selects "ShareHouse$Builder" ⟨"ShareHouse$Builder", "load", "(III)V"⟩ ⟨"ShareHouse$Builder", "load", "(III)V"⟩ ∈ lg_tbl := tp_5 _ (List.mem_of_getElem? (i := 3) rfl)
theorem fS_Builder_literalOf : Cond.selects "ShareHouse$Builder" ⟨"ShareHouse$Builder", "literalOf", "(III)I"⟩ ⟨"ShareHouse$Builder", "literalOf", "(III)I"⟩ ∈ lg_tbl := tp_5 _ (List.mem_of_getElem? (i := 4) rfl)
theorem fS_Builder_checkIndex : Cond.selects "ShareHouse$Builder" ⟨"ShareHouse$Builder", "checkIndex", "(I)V"⟩ ⟨"ShareHouse$Builder", "checkIndex", "(I)V"⟩ ∈ lg_tbl := tp_5 _ (List.mem_of_getElem? (i := 5) rfl)
theorem fS_Builder_readElement : Cond.selects "ShareHouse$Builder" ⟨"ShareHouse$Builder", "readElement", "(I)V"⟩ ⟨"ShareHouse$Builder", "readElement", "(I)V"⟩ ∈ lg_tbl := tp_5 _ (List.mem_of_getElem? (i := 6) rfl)
theorem fS_Builder_call : Cond.selects "ShareHouse$Builder" ⟨"ShareHouse$Builder", "call", "(I)V"⟩ ⟨"ShareHouse$Builder", "call", "(I)V"⟩ ∈ lg_tbl := tp_5 _ (List.mem_of_getElem? (i := 7) rfl)
theorem fS_Builder_takeBit : Cond.selects "ShareHouse$Builder" ⟨"ShareHouse$Builder", "takeBit", "(I)V"⟩ ⟨"ShareHouse$Builder", "takeBit", "(I)V"⟩ ∈ lg_tbl := tp_5 _ (List.mem_of_getElem? (i := 8) rfl)
theorem fS_Builder_buildSign : Cond.selects "ShareHouse$Builder" ⟨"ShareHouse$Builder", "buildSign", "(II)V"⟩ ⟨"ShareHouse$Builder", "buildSign", "(II)V"⟩ ∈ lg_tbl := tp_5 _ (List.mem_of_getElem? (i := 9) rfl)
theorem fS_Builder_choose : Cond.selects "ShareHouse$Builder" ⟨"ShareHouse$Builder", "choose", "(I)V"⟩ ⟨"ShareHouse$Builder", "choose", "(I)V"⟩ ∈ lg_tbl := tp_5 _ (List.mem_of_getElem? (i := 10) rfl)
theorem fS_Builder_buildOperator : Cond.selects "ShareHouse$Builder" ⟨"ShareHouse$Builder", "buildOperator", "(II)V"⟩ ⟨"ShareHouse$Builder", "buildOperator", "(II)V"⟩ ∈ lg_tbl := tp_5 _ (List.mem_of_getElem? (i := 11) rfl)
theorem fS_Builder_buildShift : Cond.selects "ShareHouse$Builder" ⟨"ShareHouse$Builder", "buildShift", "(III)V"⟩ ⟨"ShareHouse$Builder", "buildShift", "(III)V"⟩ ∈ lg_tbl := tp_5 _ (List.mem_of_getElem? (i := 12) rfl)
theorem fS_Logic_isKnown : Cond.selects "ShareHouse$Logic" ⟨"ShareHouse$Logic", "isKnown", "([II)Z"⟩ ⟨"ShareHouse$Logic", "isKnown", "([II)Z"⟩ ∈ lg_tbl := tp_5 _ (List.mem_of_getElem? (i := 13) rfl)
theorem fS_Logic_takeAway : Cond.selects "ShareHouse$Logic" ⟨"ShareHouse$Logic", "takeAway", "([II)I"⟩ ⟨"ShareHouse$Logic", "takeAway", "([II)I"⟩ ∈ lg_tbl := tp_5 _ (List.mem_of_getElem? (i := 14) rfl)
theorem fS_Builder_buildBits : Cond.selects "ShareHouse$Builder" ⟨"ShareHouse$Builder", "buildBits", "(IIII)V"⟩ ⟨"ShareHouse$Builder", "buildBits", "(IIII)V"⟩ ∈ lg_tbl := tp_5 _ (List.mem_of_getElem? (i := 15) rfl)
theorem fS_H_lookAtCircuit : Cond.selects "ShareHouse" ⟨"ShareHouse", "lookAtCircuit", "(I)I"⟩ ⟨"ShareHouse", "lookAtCircuit", "(I)I"⟩ ∈ lg_tbl := tp_6 _ (List.mem_of_getElem? (i := 0) rfl)
theorem fS_H_hasOutput : Cond.selects "ShareHouse" ⟨"ShareHouse", "hasOutput", "(I)Z"⟩ ⟨"ShareHouse", "hasOutput", "(I)Z"⟩ ∈ lg_tbl := tp_6 _ (List.mem_of_getElem? (i := 1) rfl)
theorem fS_Dealer_drawBut : Cond.selects "ShareHouse$Dealer" ⟨"ShareHouse$Dealer", "drawBut", "(I)I"⟩ ⟨"ShareHouse$Dealer", "drawBut", "(I)I"⟩ ∈ lg_tbl := tp_6 _ (List.mem_of_getElem? (i := 2) rfl)
theorem fS_Dealer_draw : Cond.selects "ShareHouse$Dealer" ⟨"ShareHouse$Dealer", "draw", "()I"⟩ ⟨"ShareHouse$Dealer", "draw", "()I"⟩ ∈ lg_tbl := tp_6 _ (List.mem_of_getElem? (i := 3) rfl)
theorem fS_Dealer_sharesOfAnd : Cond.selects "ShareHouse$Dealer" ⟨"ShareHouse$Dealer", "sharesOfAnd", "(III)I"⟩ ⟨"ShareHouse$Dealer", "sharesOfAnd", "(III)I"⟩ ∈ lg_tbl := tp_6 _ (List.mem_of_getElem? (i := 4) rfl)
theorem fS_Post_send : Cond.selects "ShareHouse$Post" ⟨"ShareHouse$Post", "send", "(I)I"⟩ ⟨"ShareHouse$Post", "send", "(I)I"⟩ ∈ lg_tbl := tp_6 _ (List.mem_of_getElem? (i := 5) rfl)
theorem fS_H_isFlying : Cond.selects "ShareHouse" ⟨"ShareHouse", "isFlying", "(I)Z"⟩ ⟨"ShareHouse", "isFlying", "(I)Z"⟩ ∈ lg_tbl := tp_6 _ (List.mem_of_getElem? (i := 6) rfl)
theorem fS_Post_goOn : Cond.selects "ShareHouse$Post" ⟨"ShareHouse$Post", "goOn", "(I)I"⟩ ⟨"ShareHouse$Post", "goOn", "(I)I"⟩ ∈ lg_tbl := tp_6 _ (List.mem_of_getElem? (i := 7) rfl)
theorem fS_H_isAtWork : Cond.selects "ShareHouse" ⟨"ShareHouse", "isAtWork", "(I)Z"⟩ ⟨"ShareHouse", "isAtWork", "(I)Z"⟩ ∈ lg_tbl := tp_6 _ (List.mem_of_getElem? (i := 8) rfl)
theorem fS_Post_arrivedBit : Cond.selects "ShareHouse$Post" ⟨"ShareHouse$Post", "arrivedBit", "(II)I"⟩ ⟨"ShareHouse$Post", "arrivedBit", "(II)I"⟩ ∈ lg_tbl := tp_6 _ (List.mem_of_getElem? (i := 9) rfl)
theorem fS_Mo_word : Cond.selects "ShareHouseModel" ⟨"ShareHouseModel", "word", "(II)V"⟩ ⟨"ShareHouseModel", "word", "(II)V"⟩ ∈ lg_tbl := tp_6 _ (List.mem_of_getElem? (i := 10) rfl)
theorem fS_Mo_forget : Cond.selects "ShareHouseModel" ⟨"ShareHouseModel", "forget", "()V"⟩ ⟨"ShareHouseModel", "forget", "()V"⟩ ∈ lg_tbl := tp_6 _ (List.mem_of_getElem? (i := 11) rfl)
theorem fS_Mo_program : Cond.selects "ShareHouseModel" ⟨"ShareHouseModel", "program", "()V"⟩ ⟨"ShareHouseModel", "program", "()V"⟩ ∈ lg_tbl := tp_6 _ (List.mem_of_getElem? (i := 12) rfl)
theorem fS_Mo_gap : Cond.selects "ShareHouseModel" ⟨"ShareHouseModel", "gap", "()V"⟩ ⟨"ShareHouseModel", "gap", "()V"⟩ ∈ lg_tbl := tp_6 _ (List.mem_of_getElem? (i := 13) rfl)
theorem fS_Mo_look0 : Cond.selects "ShareHouseModel" ⟨"ShareHouseModel", "look0", "(I)I"⟩ ⟨"ShareHouseModel", "look0", "(I)I"⟩ ∈ lg_tbl := tp_6 _ (List.mem_of_getElem? (i := 14) rfl)
theorem fS_Mo_fail : Cond.selects "ShareHouseModel" ⟨"ShareHouseModel", "fail", "(II)V"⟩ ⟨"ShareHouseModel", "fail", "(II)V"⟩ ∈ lg_tbl := tp_6 _ (List.mem_of_getElem? (i := 15) rfl)
theorem fS_Mo_isSign : Cond.selects "ShareHouseModel" ⟨"ShareHouseModel", "isSign", "(I)Z"⟩ ⟨"ShareHouseModel", "isSign", "(I)Z"⟩ ∈ lg_tbl := tp_7 _ (List.mem_of_getElem? (i := 0) rfl)
theorem fS_Mo_isPair : Cond.selects "ShareHouseModel" ⟨"ShareHouseModel", "isPair", "()Z"⟩ ⟨"ShareHouseModel", "isPair", "()Z"⟩ ∈ lg_tbl := tp_7 _ (List.mem_of_getElem? (i := 1) rfl)
theorem fS_Mo_closeBlock : Cond.selects "ShareHouseModel" ⟨"ShareHouseModel", "closeBlock", "()V"⟩ ⟨"ShareHouseModel", "closeBlock", "()V"⟩ ∈ lg_tbl := tp_7 _ (List.mem_of_getElem? (i := 2) rfl)
theorem fS_Mo_put : Cond.selects "ShareHouseModel" ⟨"ShareHouseModel", "put", "(IIII)I"⟩ ⟨"ShareHouseModel", "put", "(IIII)I"⟩ ∈ lg_tbl := tp_7 _ (List.mem_of_getElem? (i := 3) rfl)
theorem fS_Mo_isWord : Cond.selects "ShareHouseModel" ⟨"ShareHouseModel", "isWord", "(Ljava/lang/String;)Z"⟩ ⟨"ShareHouseModel", "isWord", "(Ljava/lang/String;)Z"⟩ ∈ lg_tbl := tp_7 _ (List.mem_of_getElem? (i := 4) rfl)
theorem fS_Mo_wordEnd : Cond.selects "ShareHouseModel" ⟨"ShareHouseModel", "wordEnd", "()I"⟩ ⟨"ShareHouseModel", "wordEnd", "()I"⟩ ∈ lg_tbl := tp_7 _ (List.mem_of_getElem? (i := 5) rfl)
theorem fS_Mo_deeper : Cond.selects "ShareHouseModel" ⟨"ShareHouseModel", "deeper", "(I)V"⟩ ⟨"ShareHouseModel", "deeper", "(I)V"⟩ ∈ lg_tbl := tp_7 _ (List.mem_of_getElem? (i := 6) rfl)
theorem fS_Mo_ifStatement : Cond.selects "ShareHouseModel" ⟨"ShareHouseModel", "ifStatement", "(I)V"⟩ ⟨"ShareHouseModel", "ifStatement", "(I)V"⟩ ∈ lg_tbl := tp_7 _ (List.mem_of_getElem? (i := 7) rfl)
theorem fS_Mo_sign : Cond.selects "ShareHouseModel" ⟨"ShareHouseModel", "sign", "(I)V"⟩ ⟨"ShareHouseModel", "sign", "(I)V"⟩ ∈ lg_tbl := tp_7 _ (List.mem_of_getElem? (i := 8) rfl)
theorem fS_Mo_expression : Cond.selects "ShareHouseModel" ⟨"ShareHouseModel", "expression", "()V"⟩ ⟨"ShareHouseModel", "expression", "()V"⟩ ∈ lg_tbl := tp_7 _ (List.mem_of_getElem? (i := 9) rfl)
theorem fS_Mo_takeOperand : Cond.selects "ShareHouseModel" ⟨"ShareHouseModel", "takeOperand", "()Z"⟩ ⟨"ShareHouseModel", "takeOperand", "()Z"⟩ ∈ lg_tbl := tp_7 _ (List.mem_of_getElem? (i := 10) rfl)
theorem fS_Mo_push : Cond.selects "ShareHouseModel" ⟨"ShareHouseModel", "push", "(III)V"⟩ ⟨"ShareHouseModel", "push", "(III)V"⟩ ∈ lg_tbl := tp_7 _ (List.mem_of_getElem? (i := 11) rfl)
theorem fS_Mo_number : Cond.selects "ShareHouseModel" ⟨"ShareHouseModel", "number", "(JJ)V"⟩ ⟨"ShareHouseModel", "number", "(JJ)V"⟩ ∈ lg_tbl := tp_7 _ (List.mem_of_getElem? (i := 12) rfl)
theorem fS_Mo_name : Cond.selects "ShareHouseModel" ⟨"ShareHouseModel", "name", "()I"⟩ ⟨"ShareHouseModel", "name", "()I"⟩ ∈ lg_tbl := tp_7 _ (List.mem_of_getElem? (i := 13) rfl)
theorem fS_Mo_isKept : Cond.selects "ShareHouseModel" ⟨"ShareHouseModel", "isKept", "()Z"⟩ ⟨"ShareHouseModel", "isKept", "()Z"⟩ ∈ lg_tbl := tp_7 _ (List.mem_of_getElem? (i := 14) rfl)
theorem fS_Mo_signsOver : Cond.selects "ShareHouseModel" ⟨"ShareHouseModel", "signsOver", "(I)V"⟩ ⟨"ShareHouseModel", "signsOver", "(I)V"⟩ ∈ lg_tbl := tp_7 _ (List.mem_of_getElem? (i := 15) rfl)
theorem fS_Mo_operator : Cond.selects "ShareHouseModel" ⟨"ShareHouseModel", "operator", "()I"⟩ ⟨"ShareHouseModel", "operator", "()I"⟩ ∈ lg_tbl := tp_8 _ (List.mem_of_getElem? (i := 0) rfl)
theorem fS_Mo_isFresh : Cond.selects "ShareHouseModel" ⟨"ShareHouseModel", "isFresh", "()Z"⟩ ⟨"ShareHouseModel", "isFresh", "()Z"⟩ ∈ lg_tbl := tp_8 _ (List.mem_of_getElem? (i := 1) rfl)
theorem fS_Mo_reduce : Cond.selects "ShareHouseModel" ⟨"ShareHouseModel", "reduce", "(II)V"⟩ ⟨"ShareHouseModel", "reduce", "(II)V"⟩ ∈ lg_tbl := tp_8 _ (List.mem_of_getElem? (i := 2) rfl)
theorem fS_Mo_closes : Cond.selects "ShareHouseModel" ⟨"ShareHouseModel", "closes", "(I)Z"⟩ ⟨"ShareHouseModel", "closes", "(I)Z"⟩ ∈ lg_tbl := tp_8 _ (List.mem_of_getElem? (i := 3) rfl)
theorem fS_Mo_reduceAll : Cond.selects "ShareHouseModel" ⟨"ShareHouseModel", "reduceAll", "(I)V"⟩ ⟨"ShareHouseModel", "reduceAll", "(I)V"⟩ ∈ lg_tbl := tp_8 _ (List.mem_of_getElem? (i := 4) rfl)
theorem fS_Mo_openBlock : Cond.selects "ShareHouseModel" ⟨"ShareHouseModel", "openBlock", "(II)V"⟩ ⟨"ShareHouseModel", "openBlock", "(II)V"⟩ ∈ lg_tbl := tp_8 _ (List.mem_of_getElem? (i := 5) rfl)
theorem fS_Mo_endIf : Cond.selects "ShareHouseModel" ⟨"ShareHouseModel", "endIf", "(I)V"⟩ ⟨"ShareHouseModel", "endIf", "(I)V"⟩ ∈ lg_tbl := tp_8 _ (List.mem_of_getElem? (i := 6) rfl)
theorem fS_Mo_varStatement : Cond.selects "ShareHouseModel" ⟨"ShareHouseModel", "varStatement", "(I)V"⟩ ⟨"ShareHouseModel", "varStatement", "(I)V"⟩ ∈ lg_tbl := tp_8 _ (List.mem_of_getElem? (i := 7) rfl)
theorem fS_Mo_type : Cond.selects "ShareHouseModel" ⟨"ShareHouseModel", "type", "()V"⟩ ⟨"ShareHouseModel", "type", "()V"⟩ ∈ lg_tbl := tp_8 _ (List.mem_of_getElem? (i := 8) rfl)
theorem fS_Mo_sortWord : Cond.selects "ShareHouseModel" ⟨"ShareHouseModel", "sortWord", "()V"⟩ ⟨"ShareHouseModel", "sortWord", "()V"⟩ ∈ lg_tbl := tp_8 _ (List.mem_of_getElem? (i := 9) rfl)
theorem fS_Mo_forStatement : Cond.selects "ShareHouseModel" ⟨"ShareHouseModel", "forStatement", "(I)V"⟩ ⟨"ShareHouseModel", "forStatement", "(I)V"⟩ ∈ lg_tbl := tp_8 _ (List.mem_of_getElem? (i := 10) rfl)
theorem fS_Mo_keyword : Cond.selects "ShareHouseModel" ⟨"ShareHouseModel", "keyword", "(Ljava/lang/String;)V"⟩ ⟨"ShareHouseModel", "keyword", "(Ljava/lang/String;)V"⟩ ∈ lg_tbl := tp_8 _ (List.mem_of_getElem? (i := 11) rfl)
theorem fS_Mo_inputItem : Cond.selects "ShareHouseModel" ⟨"ShareHouseModel", "inputItem", "(I)V"⟩ ⟨"ShareHouseModel", "inputItem", "(I)V"⟩ ∈ lg_tbl := tp_8 _ (List.mem_of_getElem? (i := 12) rfl)
theorem fS_Mo_defItem : Cond.selects "ShareHouseModel" ⟨"ShareHouseModel", "defItem", "(I)V"⟩ ⟨"ShareHouseModel", "defItem", "(I)V"⟩ ∈ lg_tbl := tp_8 _ (List.mem_of_getElem? (i := 13) rfl)
theorem fS_Mo_outputItem : Cond.selects "ShareHouseModel" ⟨"ShareHouseModel", "outputItem", "(I)V"⟩ ⟨"ShareHouseModel", "outputItem", "(I)V"⟩ ∈ lg_tbl := tp_8 _ (List.mem_of_getElem? (i := 14) rfl)
theorem fS_Mo_assignment : Cond.selects "ShareHouseModel" ⟨"ShareHouseModel", "assignment", "(I)V"⟩ ⟨"ShareHouseModel", "assignment", "(I)V"⟩ ∈ lg_tbl := tp_8 _ (List.mem_of_getElem? (i := 15) rfl)
theorem fS_Mo_sorts : Cond.selects "ShareHouseModel" ⟨"ShareHouseModel", "sorts", "()V"⟩ ⟨"ShareHouseModel", "sorts", "()V"⟩ ∈ lg_tbl := tp_9 _ (List.mem_of_getElem? (i := 0) rfl)
theorem fS_Mo_operandSort : Cond.selects "ShareHouseModel" ⟨"ShareHouseModel", "operandSort", "(I)V"⟩ ⟨"ShareHouseModel", "operandSort", "(I)V"⟩ ∈ lg_tbl := tp_9 _ (List.mem_of_getElem? (i := 1) rfl)
theorem fS_Mo_pile : Cond.selects "ShareHouseModel" ⟨"ShareHouseModel", "pile", "(IIZ)V"⟩ ⟨"ShareHouseModel", "pile", "(IIZ)V"⟩ ∈ lg_tbl := tp_9 _ (List.mem_of_getElem? (i := 2) rfl)
theorem fS_Mo_used : Cond.selects "ShareHouseModel" ⟨"ShareHouseModel", "used", "(I)I"⟩ ⟨"ShareHouseModel", "used", "(I)I"⟩ ∈ lg_tbl := tp_9 _ (List.mem_of_getElem? (i := 3) rfl)
theorem fS_Mo_visible : Cond.selects "ShareHouseModel" ⟨"ShareHouseModel", "visible", "(I)I"⟩ ⟨"ShareHouseModel", "visible", "(I)I"⟩ ∈ lg_tbl := tp_9 _ (List.mem_of_getElem? (i := 4) rfl)
theorem fS_Mo_refer : Cond.selects "ShareHouseModel" ⟨"ShareHouseModel", "refer", "(II)V"⟩ ⟨"ShareHouseModel", "refer", "(II)V"⟩ ∈ lg_tbl := tp_9 _ (List.mem_of_getElem? (i := 5) rfl)
theorem fS_Mo_must : Cond.selects "ShareHouseModel" ⟨"ShareHouseModel", "must", "(I)V"⟩ ⟨"ShareHouseModel", "must", "(I)V"⟩ ∈ lg_tbl := tp_9 _ (List.mem_of_getElem? (i := 6) rfl)
theorem fS_Mo_bitSort : Cond.selects "ShareHouseModel" ⟨"ShareHouseModel", "bitSort", "(I)V"⟩ ⟨"ShareHouseModel", "bitSort", "(I)V"⟩ ∈ lg_tbl := tp_9 _ (List.mem_of_getElem? (i := 7) rfl)
theorem fS_Mo_mustPublic : Cond.selects "ShareHouseModel" ⟨"ShareHouseModel", "mustPublic", "()V"⟩ ⟨"ShareHouseModel", "mustPublic", "()V"⟩ ∈ lg_tbl := tp_9 _ (List.mem_of_getElem? (i := 8) rfl)
theorem fS_Mo_unarySort : Cond.selects "ShareHouseModel" ⟨"ShareHouseModel", "unarySort", "(I)V"⟩ ⟨"ShareHouseModel", "unarySort", "(I)V"⟩ ∈ lg_tbl := tp_9 _ (List.mem_of_getElem? (i := 9) rfl)
theorem fS_Mo_binarySort : Cond.selects "ShareHouseModel" ⟨"ShareHouseModel", "binarySort", "(I)V"⟩ ⟨"ShareHouseModel", "binarySort", "(I)V"⟩ ∈ lg_tbl := tp_9 _ (List.mem_of_getElem? (i := 10) rfl)
theorem fS_Mo_selectSort : Cond.selects "ShareHouseModel" ⟨"ShareHouseModel", "selectSort", "(I)V"⟩ ⟨"ShareHouseModel", "selectSort", "(I)V"⟩ ∈ lg_tbl := tp_9 _ (List.mem_of_getElem? (i := 11) rfl)
theorem fS_Mo_statementSort : Cond.selects "ShareHouseModel" ⟨"ShareHouseModel", "statementSort", "(I)V"⟩ ⟨"ShareHouseModel", "statementSort", "(I)V"⟩ ∈ lg_tbl := tp_9 _ (List.mem_of_getElem? (i := 12) rfl)
theorem fS_Mo_comes : Cond.selects "ShareHouseModel" ⟨"ShareHouseModel", "comes", "(I)V"⟩ ⟨"ShareHouseModel", "comes", "(I)V"⟩ ∈ lg_tbl := tp_9 _ (List.mem_of_getElem? (i := 13) rfl)
theorem fS_Mo_paramSort : Cond.selects "ShareHouseModel" ⟨"ShareHouseModel", "paramSort", "(I)V"⟩ ⟨"ShareHouseModel", "paramSort", "(I)V"⟩ ∈ lg_tbl := tp_9 _ (List.mem_of_getElem? (i := 14) rfl)
theorem fS_Mo_symbol : Cond.selects "ShareHouseModel" ⟨"ShareHouseModel", "symbol", "(IIIII)I"⟩ ⟨"ShareHouseModel", "symbol", "(IIIII)I"⟩ ∈ lg_tbl := tp_9 _ (List.mem_of_getElem? (i := 15) rfl)
theorem fS_Mo_assigned : Cond.selects "ShareHouseModel" ⟨"ShareHouseModel", "assigned", "(I)V"⟩ ⟨"ShareHouseModel", "assigned", "(I)V"⟩ ∈ lg_tbl := tp_10 _ (List.mem_of_getElem? (i := 0) rfl)
theorem fS_Mo_elementSort : Cond.selects "ShareHouseModel" ⟨"ShareHouseModel", "elementSort", "(I)V"⟩ ⟨"ShareHouseModel", "elementSort", "(I)V"⟩ ∈ lg_tbl := tp_10 _ (List.mem_of_getElem? (i := 1) rfl)
theorem fS_Mo_build : Cond.selects "ShareHouseModel" ⟨"ShareHouseModel", "build", "()V"⟩ ⟨"ShareHouseModel", "build", "()V"⟩ ∈ lg_tbl := tp_10 _ (List.mem_of_getElem? (i := 2) rfl)
theorem fS_Mo_inputsOfAll : Cond.selects "ShareHouseModel" ⟨"ShareHouseModel", "inputsOfAll", "()V"⟩ ⟨"ShareHouseModel", "inputsOfAll", "()V"⟩ ∈ lg_tbl := tp_10 _ (List.mem_of_getElem? (i := 3) rfl)
theorem fS_Mo_widthOf : Cond.selects "ShareHouseModel" ⟨"ShareHouseModel", "widthOf", "(I)I"⟩ ⟨"ShareHouseModel", "widthOf", "(I)I"⟩ ∈ lg_tbl := tp_10 _ (List.mem_of_getElem? (i := 4) rfl)
theorem fS_Mo_operand : Cond.selects "ShareHouseModel" ⟨"ShareHouseModel", "operand", "(I)I"⟩ ⟨"ShareHouseModel", "operand", "(I)I"⟩ ∈ lg_tbl := tp_10 _ (List.mem_of_getElem? (i := 5) rfl)
theorem fS_Mo_step : Cond.selects "ShareHouseModel" ⟨"ShareHouseModel", "step", "()V"⟩ ⟨"ShareHouseModel", "step", "()V"⟩ ∈ lg_tbl := tp_10 _ (List.mem_of_getElem? (i := 6) rfl)
theorem fS_Mo_statementPlace : Cond.selects "ShareHouseModel" ⟨"ShareHouseModel", "statementPlace", "()I"⟩ ⟨"ShareHouseModel", "statementPlace", "()I"⟩ ∈ lg_tbl := tp_10 _ (List.mem_of_getElem? (i := 7) rfl)
theorem fS_Mo_constantZ : Cond.selects "ShareHouseModel" ⟨"ShareHouseModel", "constantZ", "(JI)V"⟩ ⟨"ShareHouseModel", "constantZ", "(JI)V"⟩ ∈ lg_tbl := tp_10 _ (List.mem_of_getElem? (i := 8) rfl)
theorem fS_Mo_pushZ : Cond.selects "ShareHouseModel" ⟨"ShareHouseModel", "pushZ", "(I)V"⟩ ⟨"ShareHouseModel", "pushZ", "(I)V"⟩ ∈ lg_tbl := tp_10 _ (List.mem_of_getElem? (i := 9) rfl)
theorem fS_Mo_named : Cond.selects "ShareHouseModel" ⟨"ShareHouseModel", "named", "(I)V"⟩ ⟨"ShareHouseModel", "named", "(I)V"⟩ ∈ lg_tbl := tp_10 _ (List.mem_of_getElem? (i := 10) rfl)
theorem fS_Mo_indexed : Cond.selects "ShareHouseModel" ⟨"ShareHouseModel", "indexed", "(I)V"⟩ ⟨"ShareHouseModel", "indexed", "(I)V"⟩ ∈ lg_tbl := tp_10 _ (List.mem_of_getElem? (i := 11) rfl)
theorem fS_Mo_worthOf : Cond.selects "ShareHouseModel" ⟨"ShareHouseModel", "worthOf", "(I)J"⟩ ⟨"ShareHouseModel", "worthOf", "(I)J"⟩ ∈ lg_tbl := tp_10 _ (List.mem_of_getElem? (i := 12) rfl)
theorem fS_Mo_elementBit : Cond.selects "ShareHouseModel" ⟨"ShareHouseModel", "elementBit", "(III)I"⟩ ⟨"ShareHouseModel", "elementBit", "(III)I"⟩ ∈ lg_tbl := tp_10 _ (List.mem_of_getElem? (i := 13) rfl)
theorem fS_Mo_popX : Cond.selects "ShareHouseModel" ⟨"ShareHouseModel", "popX", "(I)V"⟩ ⟨"ShareHouseModel", "popX", "(I)V"⟩ ∈ lg_tbl := tp_10 _ (List.mem_of_getElem? (i := 14) rfl)
theorem fS_Mo_isIndex : Cond.selects "ShareHouseModel" ⟨"ShareHouseModel", "isIndex", "(I)I"⟩ ⟨"ShareHouseModel", "isIndex", "(I)I"⟩ ∈ lg_tbl := tp_10 _ (List.mem_of_getElem? (i := 15) rfl)
theorem fS_Mo_equal : Cond.selects "ShareHouseModel" ⟨"ShareHouseModel", "equal", "(I)I"⟩ ⟨"ShareHouseModel", "equal", "(I)I"⟩ ∈ lg_tbl := tp_11 _ (List.mem_of_getElem? (i := 0) rfl)
theorem fS_Mo_xor : Cond.selects "ShareHouseModel" ⟨"ShareHouseModel", "xor", "(II)I"⟩ ⟨"ShareHouseModel", "xor", "(II)I"⟩ ∈ lg_tbl := tp_11 _ (List.mem_of_getElem? (i := 1) rfl)
theorem fS_Mo_levelOf : Cond.selects "ShareHouseModel" ⟨"ShareHouseModel", "levelOf", "(I)I"⟩ ⟨"ShareHouseModel", "levelOf", "(I)I"⟩ ∈ lg_tbl := tp_11 _ (List.mem_of_getElem? (i := 2) rfl)
theorem fS_Mo_newGate : Cond.selects "ShareHouseModel" ⟨"ShareHouseModel", "newGate", "(IIII)I"⟩ ⟨"ShareHouseModel", "newGate", "(IIII)I"⟩ ∈ lg_tbl := tp_11 _ (List.mem_of_getElem? (i := 3) rfl)
theorem fS_Mo_and : Cond.selects "ShareHouseModel" ⟨"ShareHouseModel", "and", "(II)I"⟩ ⟨"ShareHouseModel", "and", "(II)I"⟩ ∈ lg_tbl := tp_11 _ (List.mem_of_getElem? (i := 4) rfl)
theorem fS_Mo_bodyOf : Cond.selects "ShareHouseModel" ⟨"ShareHouseModel", "bodyOf", "(I)I"⟩ ⟨"ShareHouseModel", "bodyOf", "(I)I"⟩ ∈ lg_tbl := tp_11 _ (List.mem_of_getElem? (i := 5) rfl)
theorem fS_Mo_unary : Cond.selects "ShareHouseModel" ⟨"ShareHouseModel", "unary", "(I)V"⟩ ⟨"ShareHouseModel", "unary", "(I)V"⟩ ∈ lg_tbl := tp_11 _ (List.mem_of_getElem? (i := 6) rfl)
theorem fS_Mo_sum : Cond.selects "ShareHouseModel" ⟨"ShareHouseModel", "sum", "(II)V"⟩ ⟨"ShareHouseModel", "sum", "(II)V"⟩ ∈ lg_tbl := tp_11 _ (List.mem_of_getElem? (i := 7) rfl)
theorem fS_Mo_binary : Cond.selects "ShareHouseModel" ⟨"ShareHouseModel", "binary", "(I)V"⟩ ⟨"ShareHouseModel", "binary", "(I)V"⟩ ∈ lg_tbl := tp_11 _ (List.mem_of_getElem? (i := 8) rfl)
theorem fS_Mo_popY : Cond.selects "ShareHouseModel" ⟨"ShareHouseModel", "popY", "(I)V"⟩ ⟨"ShareHouseModel", "popY", "(I)V"⟩ ∈ lg_tbl := tp_11 _ (List.mem_of_getElem? (i := 9) rfl)
theorem fS_Mo_less : Cond.selects "ShareHouseModel" ⟨"ShareHouseModel", "less", "()I"⟩ ⟨"ShareHouseModel", "less", "()I"⟩ ∈ lg_tbl := tp_11 _ (List.mem_of_getElem? (i := 10) rfl)
theorem fS_Mo_swap : Cond.selects "ShareHouseModel" ⟨"ShareHouseModel", "swap", "()V"⟩ ⟨"ShareHouseModel", "swap", "()V"⟩ ∈ lg_tbl := tp_11 _ (List.mem_of_getElem? (i := 11) rfl)
theorem fS_Mo_multiply : Cond.selects "ShareHouseModel" ⟨"ShareHouseModel", "multiply", "()V"⟩ ⟨"ShareHouseModel", "multiply", "()V"⟩ ∈ lg_tbl := tp_11 _ (List.mem_of_getElem? (i := 12) rfl)
theorem fS_Mo_divide : Cond.selects "ShareHouseModel" ⟨"ShareHouseModel", "divide", "()V"⟩ ⟨"ShareHouseModel", "divide", "()V"⟩ ∈ lg_tbl := tp_11 _ (List.mem_of_getElem? (i := 13) rfl)
theorem fS_Mo_mux : Cond.selects "ShareHouseModel" ⟨"ShareHouseModel", "mux", "(III)I"⟩ ⟨"ShareHouseModel", "mux", "(III)I"⟩ ∈ lg_tbl := tp_11 _ (List.mem_of_getElem? (i := 14) rfl)
theorem fS_Mo_statement : Cond.selects "ShareHouseModel" ⟨"ShareHouseModel", "statement", "(I)I"⟩ ⟨"ShareHouseModel", "statement", "(I)I"⟩ ∈ lg_tbl := tp_11 _ (List.mem_of_getElem? (i := 15) rfl)
theorem fS_Mo_variable : Cond.selects "ShareHouseModel" ⟨"ShareHouseModel", "variable", "(I)V"⟩ ⟨"ShareHouseModel", "variable", "(I)V"⟩ ∈ lg_tbl := tp_12 _ (List.mem_of_getElem? (i := 0) rfl)
theorem fS_Mo_setElement : Cond.selects "ShareHouseModel" ⟨"ShareHouseModel", "setElement", "(I)V"⟩ ⟨"ShareHouseModel", "setElement", "(I)V"⟩ ∈ lg_tbl := tp_12 _ (List.mem_of_getElem? (i := 1) rfl)
theorem fS_Mo_keepVars : Cond.selects "ShareHouseModel" ⟨"ShareHouseModel", "keepVars", "([II)V"⟩ ⟨"ShareHouseModel", "keepVars", "([II)V"⟩ ∈ lg_tbl := tp_12 _ (List.mem_of_getElem? (i := 2) rfl)
theorem fS_Mo_bringVars : Cond.selects "ShareHouseModel" ⟨"ShareHouseModel", "bringVars", "([II)V"⟩ ⟨"ShareHouseModel", "bringVars", "([II)V"⟩ ∈ lg_tbl := tp_12 _ (List.mem_of_getElem? (i := 3) rfl)
theorem fS_Mo_endOfIf : Cond.selects "ShareHouseModel" ⟨"ShareHouseModel", "endOfIf", "()V"⟩ ⟨"ShareHouseModel", "endOfIf", "()V"⟩ ∈ lg_tbl := tp_12 _ (List.mem_of_getElem? (i := 4) rfl)
theorem fS_Mo_levels : Cond.selects "ShareHouseModel" ⟨"ShareHouseModel", "levels", "()V"⟩ ⟨"ShareHouseModel", "levels", "()V"⟩ ∈ lg_tbl := tp_12 _ (List.mem_of_getElem? (i := 5) rfl)
theorem fS_Mo_done : Cond.selects "ShareHouseModel" ⟨"ShareHouseModel", "done", "()I"⟩ ⟨"ShareHouseModel", "done", "()I"⟩ ∈ lg_tbl := tp_12 _ (List.mem_of_getElem? (i := 6) rfl)
theorem fS_Mo_shareAll : Cond.selects "ShareHouseModel" ⟨"ShareHouseModel", "shareAll", "()V"⟩ ⟨"ShareHouseModel", "shareAll", "()V"⟩ ∈ lg_tbl := tp_12 _ (List.mem_of_getElem? (i := 7) rfl)
theorem fS_Mo_draw : Cond.selects "ShareHouseModel" ⟨"ShareHouseModel", "draw", "()I"⟩ ⟨"ShareHouseModel", "draw", "()I"⟩ ∈ lg_tbl := tp_12 _ (List.mem_of_getElem? (i := 8) rfl)
theorem fS_Mo_shareOf : Cond.selects "ShareHouseModel" ⟨"ShareHouseModel", "shareOf", "(I)I"⟩ ⟨"ShareHouseModel", "shareOf", "(I)I"⟩ ∈ lg_tbl := tp_12 _ (List.mem_of_getElem? (i := 9) rfl)
theorem fS_Mo_sendRound : Cond.selects "ShareHouseModel" ⟨"ShareHouseModel", "sendRound", "(I)V"⟩ ⟨"ShareHouseModel", "sendRound", "(I)V"⟩ ∈ lg_tbl := tp_12 _ (List.mem_of_getElem? (i := 10) rfl)
theorem fS_Mo_lengthOf : Cond.selects "ShareHouseModel" ⟨"ShareHouseModel", "lengthOf", "(II)I"⟩ ⟨"ShareHouseModel", "lengthOf", "(II)I"⟩ ∈ lg_tbl := tp_12 _ (List.mem_of_getElem? (i := 11) rfl)
theorem fS_Mo_sentBit : Cond.selects "ShareHouseModel" ⟨"ShareHouseModel", "sentBit", "(IIII)I"⟩ ⟨"ShareHouseModel", "sentBit", "(IIII)I"⟩ ∈ lg_tbl := tp_12 _ (List.mem_of_getElem? (i := 12) rfl)
theorem fS_Mo_takeMessage : Cond.selects "ShareHouseModel" ⟨"ShareHouseModel", "takeMessage", "(I)I"⟩ ⟨"ShareHouseModel", "takeMessage", "(I)I"⟩ ∈ lg_tbl := tp_12 _ (List.mem_of_getElem? (i := 13) rfl)
theorem fS_Mo_viewBits : Cond.selects "ShareHouseModel" ⟨"ShareHouseModel", "viewBits", "(I)I"⟩ ⟨"ShareHouseModel", "viewBits", "(I)I"⟩ ∈ lg_tbl := tp_12 _ (List.mem_of_getElem? (i := 14) rfl)
theorem fS_Mo_mean : Cond.selects "ShareHouseModel" ⟨"ShareHouseModel", "mean", "()V"⟩ ⟨"ShareHouseModel", "mean", "()V"⟩ ∈ lg_tbl := tp_12 _ (List.mem_of_getElem? (i := 15) rfl)
theorem fS_Mo_meanOperand : Cond.selects "ShareHouseModel" ⟨"ShareHouseModel", "meanOperand", "(I)I"⟩ ⟨"ShareHouseModel", "meanOperand", "(I)I"⟩ ∈ lg_tbl := tp_13 _ (List.mem_of_getElem? (i := 0) rfl)
theorem fS_Mo_pushWord : Cond.selects "ShareHouseModel" ⟨"ShareHouseModel", "pushWord", "(J)V"⟩ ⟨"ShareHouseModel", "pushWord", "(J)V"⟩ ∈ lg_tbl := tp_13 _ (List.mem_of_getElem? (i := 1) rfl)
theorem fS_Mo_inputWord : Cond.selects "ShareHouseModel" ⟨"ShareHouseModel", "inputWord", "(I)J"⟩ ⟨"ShareHouseModel", "inputWord", "(I)J"⟩ ∈ lg_tbl := tp_13 _ (List.mem_of_getElem? (i := 2) rfl)
theorem fS_Mo_meanBinary : Cond.selects "ShareHouseModel" ⟨"ShareHouseModel", "meanBinary", "(IJJ)J"⟩ ⟨"ShareHouseModel", "meanBinary", "(IJJ)J"⟩ ∈ lg_tbl := tp_13 _ (List.mem_of_getElem? (i := 3) rfl)
theorem fS_Mo_signed : Cond.selects "ShareHouseModel" ⟨"ShareHouseModel", "signed", "(J)J"⟩ ⟨"ShareHouseModel", "signed", "(J)J"⟩ ∈ lg_tbl := tp_13 _ (List.mem_of_getElem? (i := 4) rfl)
theorem fS_Mo_meanStatement : Cond.selects "ShareHouseModel" ⟨"ShareHouseModel", "meanStatement", "(I)I"⟩ ⟨"ShareHouseModel", "meanStatement", "(I)I"⟩ ∈ lg_tbl := tp_13 _ (List.mem_of_getElem? (i := 5) rfl)
theorem fACn : Cond.native arraycopyName ∈ lg_tbl := tt_3 _ (List.mem_of_getElem? (i := 145) rfl) rfl
theorem fACs : Cond.static arraycopyName ∈ lg_tbl := tt_3 _ (List.mem_of_getElem? (i := 144) rfl) rfl
theorem fACi : Cond.initialized "java/lang/System" ∈ lg_tbl := tt_1 _ (List.mem_of_getElem? (i := 15) rfl) rfl
def zf0 (n w : Nat) (I : Nat → Int32) (J : Nat → Int64) : List Value := [.int (nI n), .int (nI w), .ref 33, .ref 34, .int (I 4), .ref 35, .ref 40, .ref 49, .ref 56, .ref 66, .ref 71, .ref 77, .ref 91, .ref 97, .int (I 14), .int (I 15), .int (I 16)]
def zc0 (n w : Nat) (I : Nat → Int32) (J : Nat → Int64) : ip_E := .inr (11, zf0 n w I J)
def zc1 (n w : Nat) (I : Nat → Int32) (J : Nat → Int64) : ip_E := .inl (.byte, 20, .inl I)
def zc2 (n w : Nat) (I : Nat → Int32) (J : Nat → Int64) : ip_E := .inl (.byte, 4000, .inl I)
def zf3 (n w : Nat) (I : Nat → Int32) (J : Nat → Int64) : List Value := [.ref 36, .ref 37, .ref 38, .ref 39, .int (I 4), .int (I 5), .int (if I 5 = 0 then -1 else I 6)]
def zc3 (n w : Nat) (I : Nat → Int32) (J : Nat → Int64) : ip_E := .inr (2, zf3 n w I J)
def zc4 (n w : Nat) (I : Nat → Int32) (J : Nat → Int64) : ip_E := .inl (.int, 4000, .inl I)
def zc5 (n w : Nat) (I : Nat → Int32) (J : Nat → Int64) : ip_E := .inl (.int, 4000, .inl I)
def zc6 (n w : Nat) (I : Nat → Int32) (J : Nat → Int64) : ip_E := .inl (.int, 4000, .inl I)
def zc7 (n w : Nat) (I : Nat → Int32) (J : Nat → Int64) : ip_E := .inl (.int, 4000, .inl I)
def zf8 (n w : Nat) (I : Nat → Int32) (J : Nat → Int64) : List Value := [.ref 34, .int (I 1), .ref 41, .ref 42, .ref 43, .ref 44, .ref 45, .ref 46, .ref 47, .int (I 9), .ref 48, .int (I 11), .int (I 12)]
def zc8 (n w : Nat) (I : Nat → Int32) (J : Nat → Int64) : ip_E := .inr (6, zf8 n w I J)
def zc9 (n w : Nat) (I : Nat → Int32) (J : Nat → Int64) : ip_E := .inl (.int, 800, .inl I)
def zc10 (n w : Nat) (I : Nat → Int32) (J : Nat → Int64) : ip_E := .inl (.int, 800, .inl I)
def zc11 (n w : Nat) (I : Nat → Int32) (J : Nat → Int64) : ip_E := .inl (.int, 800, .inl I)
def zc12 (n w : Nat) (I : Nat → Int32) (J : Nat → Int64) : ip_E := .inl (.int, 800, .inl I)
def zc13 (n w : Nat) (I : Nat → Int32) (J : Nat → Int64) : ip_E := .inl (.int, 800, .inl I)
def zc14 (n w : Nat) (I : Nat → Int32) (J : Nat → Int64) : ip_E := .inl (.int, 800, .inl I)
def zc15 (n w : Nat) (I : Nat → Int32) (J : Nat → Int64) : ip_E := .inl (.int, 800, .inl I)
def zc16 (n w : Nat) (I : Nat → Int32) (J : Nat → Int64) : ip_E := .inl (.int, 800, .inl I)
def zf17 (n w : Nat) (I : Nat → Int32) (J : Nat → Int64) : List Value := [.ref 50, .ref 51, .ref 52, .ref 53, .ref 54, .ref 55, .int (I 6), .int (I 7)]
def zc17 (n w : Nat) (I : Nat → Int32) (J : Nat → Int64) : ip_E := .inr (4, zf17 n w I J)
def zc18 (n w : Nat) (I : Nat → Int32) (J : Nat → Int64) : ip_E := .inl (.int, 256, .inl I)
def zc19 (n w : Nat) (I : Nat → Int32) (J : Nat → Int64) : ip_E := .inl (.int, 256, .inl I)
def zc20 (n w : Nat) (I : Nat → Int32) (J : Nat → Int64) : ip_E := .inl (.int, 256, .inl I)
def zc21 (n w : Nat) (I : Nat → Int32) (J : Nat → Int64) : ip_E := .inl (.int, 256, .inl I)
def zc22 (n w : Nat) (I : Nat → Int32) (J : Nat → Int64) : ip_E := .inl (.int, 256, .inl I)
def zc23 (n w : Nat) (I : Nat → Int32) (J : Nat → Int64) : ip_E := .inl (.int, n, .inl I)
def zf24 (n w : Nat) (I : Nat → Int32) (J : Nat → Int64) : List Value := [.ref 57, .ref 58, .ref 59, .ref 60, .int (I 4), .int (I 5), .int (I 6), .int (I 7), .int (I 8), .ref 61, .ref 62, .int (I 11), .ref 63, .ref 64, .ref 65]
def zc24 (n w : Nat) (I : Nat → Int32) (J : Nat → Int64) : ip_E := .inr (1, zf24 n w I J)
def zc25 (n w : Nat) (I : Nat → Int32) (J : Nat → Int64) : ip_E := .inl (.int, 40000, .inl I)
def zc26 (n w : Nat) (I : Nat → Int32) (J : Nat → Int64) : ip_E := .inl (.int, 40000, .inl I)
def zc27 (n w : Nat) (I : Nat → Int32) (J : Nat → Int64) : ip_E := .inl (.int, 40000, .inl I)
def zc28 (n w : Nat) (I : Nat → Int32) (J : Nat → Int64) : ip_E := .inl (.int, 40000, .inl I)
def zc29 (n w : Nat) (I : Nat → Int32) (J : Nat → Int64) : ip_E := .inl (.int, 40000, .inl I)
def zc30 (n w : Nat) (I : Nat → Int32) (J : Nat → Int64) : ip_E := .inl (.int, 2003, .inl I)
def zc31 (n w : Nat) (I : Nat → Int32) (J : Nat → Int64) : ip_E := .inl (.int, 445, .inl I)
def zc32 (n w : Nat) (I : Nat → Int32) (J : Nat → Int64) : ip_E := .inl (.int, (444 * w), .inl I)
def zc33 (n w : Nat) (I : Nat → Int32) (J : Nat → Int64) : ip_E := .inl (.int, (256 * w + 40000), .inl I)
def zf34 (n w : Nat) (I : Nat → Int32) (J : Nat → Int64) : List Value := [.ref 70, .ref 35, .ref 40, .ref 49, .int (nI n), .int (nI w), .ref 67, .ref 68, .ref 69, .int (I 9), .int (I 10)]
def zc34 (n w : Nat) (I : Nat → Int32) (J : Nat → Int64) : ip_E := .inr (8, zf34 n w I J)
def zc35 (n w : Nat) (I : Nat → Int32) (J : Nat → Int64) : ip_E := .inl (.int, 310, .inl I)
def zc36 (n w : Nat) (I : Nat → Int32) (J : Nat → Int64) : ip_E := .inl (.int, 310, .inl I)
def zc37 (n w : Nat) (I : Nat → Int32) (J : Nat → Int64) : ip_E := .inl (.int, 310, .inl I)
def zf38 (n w : Nat) (I : Nat → Int32) (J : Nat → Int64) : List Value := [.ref 34, .int (I 1), .int (I 2), .int (I 3), .int (I 4)]
def zc38 (n w : Nat) (I : Nat → Int32) (J : Nat → Int64) : ip_E := .inr (10, zf38 n w I J)
def zf39 (n w : Nat) (I : Nat → Int32) (J : Nat → Int64) : List Value := [.ref 35, .ref 40, .ref 72, .int (I 3), .ref 73, .int (I 5), .ref 74, .ref 75, .ref 76, .int (I 9), .int (I 10)]
def zc39 (n w : Nat) (I : Nat → Int32) (J : Nat → Int64) : ip_E := .inr (9, zf39 n w I J)
def zc40 (n w : Nat) (I : Nat → Int32) (J : Nat → Int64) : ip_E := .inl (.int, 372, .inl I)
def zc41 (n w : Nat) (I : Nat → Int32) (J : Nat → Int64) : ip_E := .inl (.int, 31, .inl I)
def zc42 (n w : Nat) (I : Nat → Int32) (J : Nat → Int64) : ip_E := .inl (.int, 31, .inl I)
def zc43 (n w : Nat) (I : Nat → Int32) (J : Nat → Int64) : ip_E := .inl (.int, 31, .inl I)
def zc44 (n w : Nat) (I : Nat → Int32) (J : Nat → Int64) : ip_E := .inl (.int, 31, .inl I)
def zf45 (n w : Nat) (I : Nat → Int32) (J : Nat → Int64) : List Value := [.ref 35, .ref 40, .ref 49, .ref 56, .ref 82, .int (nI w), .ref 88, .ref 89, .int (I 8), .ref 90, .ref 78, .ref 79, .int (I 12), .int (I 13), .ref 80, .ref 81, .int (I 16), .int (I 17), .int (I 18)]
def zc45 (n w : Nat) (I : Nat → Int32) (J : Nat → Int64) : ip_E := .inr (0, zf45 n w I J)
def zc46 (n w : Nat) (I : Nat → Int32) (J : Nat → Int64) : ip_E := .inl (.int, 285, .inl I)
def zc47 (n w : Nat) (I : Nat → Int32) (J : Nat → Int64) : ip_E := .inl (.int, 285, .inl I)
def zc48 (n w : Nat) (I : Nat → Int32) (J : Nat → Int64) : ip_E := .inl (.long, 800, .inr (.inl J))
def zc49 (n w : Nat) (I : Nat → Int32) (J : Nat → Int64) : ip_E := .inl (.long, 800, .inr (.inl J))
def zf50 (n w : Nat) (I : Nat → Int32) (J : Nat → Int64) : List Value := [.ref 56, .int (nI w), .ref 83, .ref 84, .ref 85, .ref 86, .ref 87]
def zc50 (n w : Nat) (I : Nat → Int32) (J : Nat → Int64) : ip_E := .inr (5, zf50 n w I J)
def zc51 (n w : Nat) (I : Nat → Int32) (J : Nat → Int64) : ip_E := .inl (.int, w, .inl I)
def zc52 (n w : Nat) (I : Nat → Int32) (J : Nat → Int64) : ip_E := .inl (.int, w, .inl I)
def zc53 (n w : Nat) (I : Nat → Int32) (J : Nat → Int64) : ip_E := .inl (.int, w, .inl I)
def zc54 (n w : Nat) (I : Nat → Int32) (J : Nat → Int64) : ip_E := .inl (.int, (w + 1), .inl I)
def zc55 (n w : Nat) (I : Nat → Int32) (J : Nat → Int64) : ip_E := .inl (.int, w, .inl I)
def zc56 (n w : Nat) (I : Nat → Int32) (J : Nat → Int64) : ip_E := .inl (.int, w, .inl I)
def zc57 (n w : Nat) (I : Nat → Int32) (J : Nat → Int64) : ip_E := .inl (.int, (9682 * w), .inl I)
def zc58 (n w : Nat) (I : Nat → Int32) (J : Nat → Int64) : ip_E := .inl (.int, (256 * w), .inl I)
def zf59 (n w : Nat) (I : Nat → Int32) (J : Nat → Int64) : List Value := [.int (nI n), .ref 92, .int (I 2), .int (I 3), .int (I 4), .ref 96, .ref 93, .ref 94, .ref 95]
def zc59 (n w : Nat) (I : Nat → Int32) (J : Nat → Int64) : ip_E := .inr (3, zf59 n w I J)
def zc60 (n w : Nat) (I : Nat → Int32) (J : Nat → Int64) : ip_E := .inl (.byte, 2000, .inl I)
def zc61 (n w : Nat) (I : Nat → Int32) (J : Nat → Int64) : ip_E := .inl (.int, 40000, .inl I)
def zc62 (n w : Nat) (I : Nat → Int32) (J : Nat → Int64) : ip_E := .inl (.int, 40000, .inl I)
def zc63 (n w : Nat) (I : Nat → Int32) (J : Nat → Int64) : ip_E := .inl (.int, 40000, .inl I)
def zc64 (n w : Nat) (I : Nat → Int32) (J : Nat → Int64) : ip_E := .inl (.int, (256 * w + 40000), .inl I)
def zf65 (n w : Nat) (I : Nat → Int32) (J : Nat → Int64) : List Value := [.int (nI n), .ref 56, .ref 49, .ref 91, .ref 98, .ref 99, .ref 100, .ref 101, .ref 102, .ref 103, .int (I 10), .int (I 11), .int (I 12), .ref 104, .int (((nI n) - 1) * 2002)]
def zc65 (n w : Nat) (I : Nat → Int32) (J : Nat → Int64) : ip_E := .inr (7, zf65 n w I J)
def zc66 (n w : Nat) (I : Nat → Int32) (J : Nat → Int64) : ip_E := .inl (.int, n, .inl I)
def zc67 (n w : Nat) (I : Nat → Int32) (J : Nat → Int64) : ip_E := .inl (.int, n, .inl I)
def zc68 (n w : Nat) (I : Nat → Int32) (J : Nat → Int64) : ip_E := .inl (.int, n, .inl I)
def zc69 (n w : Nat) (I : Nat → Int32) (J : Nat → Int64) : ip_E := .inl (.int, n, .inl I)
def zc70 (n w : Nat) (I : Nat → Int32) (J : Nat → Int64) : ip_E := .inl (.int, n, .inl I)
def zc71 (n w : Nat) (I : Nat → Int32) (J : Nat → Int64) : ip_E := .inl (.int, (2 * n * (n - 1)), .inl I)
def zc72 (n w : Nat) (I : Nat → Int32) (J : Nat → Int64) : ip_E := .inl (.int, (n * ((n - 1) * 2002)), .inl I)
def zf73 (n w : Nat) (I : Nat → Int32) (J : Nat → Int64) : List Value := [.int (nI n), .int (nI w), .long ((1 <<< (((nI w) : Int32).toInt64 &&& 63)) - 1), .ref 106, .ref 107, .int (I 5), .int (I 6), .int (I 7), .int (if I 7 = 0 then -1 else I 8), .int (I 9), .ref 108, .ref 109, .long (J 12), .int (I 13), .ref 110, .ref 111, .ref 112, .ref 113, .ref 114, .int (I 19), .int (I 20), .ref 115, .ref 116, .ref 117, .ref 118, .int (I 25), .int (I 26), .ref 119, .ref 120, .int (I 29), .int (I 30), .int (I 31), .int (I 32), .ref 121, .int (I 34), .ref 122, .ref 123, .ref 124, .ref 125, .ref 126, .ref 127, .ref 128, .ref 129, .int (I 43), .ref 130, .ref 131, .ref 132, .int (I 47), .ref 133, .int (I 49), .ref 134, .ref 135, .ref 136, .ref 137, .ref 138, .ref 139, .int (I 56), .ref 140, .ref 141, .int (I 59), .int (I 60), .int (I 61), .int (I 62), .int (I 63), .ref 142, .int (I 65), .int (I 66), .int (I 67), .int (I 68), .int (I 69), .int (I 70), .ref 143, .ref 144, .ref 145, .ref 146, .int (I 75), .ref 147, .ref 148, .ref 149, .ref 150, .ref 151, .ref 152, .ref 153, .int (I 83), .ref 154, .int (I 85), .ref 155, .ref 156, .ref 157, .ref 158, .ref 159, .ref 160, .ref 161, .ref 162, .int (I 94), .ref 163, .ref 164, .int (I 97), .ref 165, .ref 166, .ref 167, .int (I 101), .ref 168, .ref 169, .ref 170, .ref 171, .ref 172, .ref 173, .ref 174, .ref 175, .int (I 110), .ref 176, .ref 177, .ref 178, .ref 179, .int (I 115), .ref 180, .ref 181, .int (I 118), .int (I 119), .int (I 120), .int (I 121), .int (I 122), .ref 182, .int (I 124), .ref 183, .ref 184, .ref 185, .ref 186, .ref 187, .ref 188, .int (I 131), .ref 189, .ref 190, .ref 191, .ref 192, .ref 193, .ref 194, .ref 195, .int (I 139), .int (I 140), .ref 196, .ref 197, .ref 198, .ref 199, .int (I 145)]
def zc73 (n w : Nat) (I : Nat → Int32) (J : Nat → Int64) : ip_E := .inr (12, zf73 n w I J)
def zc74 (n w : Nat) (I : Nat → Int32) (J : Nat → Int64) : ip_E := .inl (.int, 20, .inl I)
def zc75 (n w : Nat) (I : Nat → Int32) (J : Nat → Int64) : ip_E := .inl (.int, 4000, .inl I)
def zc76 (n w : Nat) (I : Nat → Int32) (J : Nat → Int64) : ip_E := .inl (.int, 2000, .inl I)
def zc77 (n w : Nat) (I : Nat → Int32) (J : Nat → Int64) : ip_E := .inl (.int, 2000, .inl I)
def zc78 (n w : Nat) (I : Nat → Int32) (J : Nat → Int64) : ip_E := .inl (.int, 12000, .inl I)
def zc79 (n w : Nat) (I : Nat → Int32) (J : Nat → Int64) : ip_E := .inl (.int, 12000, .inl I)
def zc80 (n w : Nat) (I : Nat → Int32) (J : Nat → Int64) : ip_E := .inl (.int, 12000, .inl I)
def zc81 (n w : Nat) (I : Nat → Int32) (J : Nat → Int64) : ip_E := .inl (.int, 12000, .inl I)
def zc82 (n w : Nat) (I : Nat → Int32) (J : Nat → Int64) : ip_E := .inl (.long, 12000, .inr (.inl J))
def zc83 (n w : Nat) (I : Nat → Int32) (J : Nat → Int64) : ip_E := .inl (.int, 4100, .inl I)
def zc84 (n w : Nat) (I : Nat → Int32) (J : Nat → Int64) : ip_E := .inl (.int, 4100, .inl I)
def zc85 (n w : Nat) (I : Nat → Int32) (J : Nat → Int64) : ip_E := .inl (.int, 4100, .inl I)
def zc86 (n w : Nat) (I : Nat → Int32) (J : Nat → Int64) : ip_E := .inl (.int, 4100, .inl I)
def zc87 (n w : Nat) (I : Nat → Int32) (J : Nat → Int64) : ip_E := .inl (.int, 70, .inl I)
def zc88 (n w : Nat) (I : Nat → Int32) (J : Nat → Int64) : ip_E := .inl (.int, 70, .inl I)
def zc89 (n w : Nat) (I : Nat → Int32) (J : Nat → Int64) : ip_E := .inl (.int, 12000, .inl I)
def zc90 (n w : Nat) (I : Nat → Int32) (J : Nat → Int64) : ip_E := .inl (.int, 2500, .inl I)
def zc91 (n w : Nat) (I : Nat → Int32) (J : Nat → Int64) : ip_E := .inl (.int, 2500, .inl I)
def zc92 (n w : Nat) (I : Nat → Int32) (J : Nat → Int64) : ip_E := .inl (.int, 2500, .inl I)
def zc93 (n w : Nat) (I : Nat → Int32) (J : Nat → Int64) : ip_E := .inl (.int, 2500, .inl I)
def zc94 (n w : Nat) (I : Nat → Int32) (J : Nat → Int64) : ip_E := .inl (.int, 2500, .inl I)
def zc95 (n w : Nat) (I : Nat → Int32) (J : Nat → Int64) : ip_E := .inl (.boolean, 2500, .inl I)
def zc96 (n w : Nat) (I : Nat → Int32) (J : Nat → Int64) : ip_E := .inl (.int, 2500, .inl I)
def zc97 (n w : Nat) (I : Nat → Int32) (J : Nat → Int64) : ip_E := .inl (.int, 2500, .inl I)
def zc98 (n w : Nat) (I : Nat → Int32) (J : Nat → Int64) : ip_E := .inl (.int, 4200, .inl I)
def zc99 (n w : Nat) (I : Nat → Int32) (J : Nat → Int64) : ip_E := .inl (.int, 4200, .inl I)
def zc100 (n w : Nat) (I : Nat → Int32) (J : Nat → Int64) : ip_E := .inl (.boolean, 4200, .inl I)
def zc101 (n w : Nat) (I : Nat → Int32) (J : Nat → Int64) : ip_E := .inl (.int, 70, .inl I)
def zc102 (n w : Nat) (I : Nat → Int32) (J : Nat → Int64) : ip_E := .inl (.int, 12000, .inl I)
def zc103 (n w : Nat) (I : Nat → Int32) (J : Nat → Int64) : ip_E := .inl (.int, 12000, .inl I)
def zc104 (n w : Nat) (I : Nat → Int32) (J : Nat → Int64) : ip_E := .inl (.int, 12000, .inl I)
def zc105 (n w : Nat) (I : Nat → Int32) (J : Nat → Int64) : ip_E := .inl (.int, 12000, .inl I)
def zc106 (n w : Nat) (I : Nat → Int32) (J : Nat → Int64) : ip_E := .inl (.int, 12000, .inl I)
def zc107 (n w : Nat) (I : Nat → Int32) (J : Nat → Int64) : ip_E := .inl (.boolean, 12000, .inl I)
def zc108 (n w : Nat) (I : Nat → Int32) (J : Nat → Int64) : ip_E := .inl (.int, 400, .inl I)
def zc109 (n w : Nat) (I : Nat → Int32) (J : Nat → Int64) : ip_E := .inl (.int, 400, .inl I)
def zc110 (n w : Nat) (I : Nat → Int32) (J : Nat → Int64) : ip_E := .inl (.int, 1000, .inl I)
def zc111 (n w : Nat) (I : Nat → Int32) (J : Nat → Int64) : ip_E := .inl (.int, 40000, .inl I)
def zc112 (n w : Nat) (I : Nat → Int32) (J : Nat → Int64) : ip_E := .inl (.int, 40000, .inl I)
def zc113 (n w : Nat) (I : Nat → Int32) (J : Nat → Int64) : ip_E := .inl (.int, 40000, .inl I)
def zc114 (n w : Nat) (I : Nat → Int32) (J : Nat → Int64) : ip_E := .inl (.int, 40000, .inl I)
def zc115 (n w : Nat) (I : Nat → Int32) (J : Nat → Int64) : ip_E := .inl (.int, 256, .inl I)
def zc116 (n w : Nat) (I : Nat → Int32) (J : Nat → Int64) : ip_E := .inl (.int, 256, .inl I)
def zc117 (n w : Nat) (I : Nat → Int32) (J : Nat → Int64) : ip_E := .inl (.int, 256, .inl I)
def zc118 (n w : Nat) (I : Nat → Int32) (J : Nat → Int64) : ip_E := .inl (.long, 256, .inr (.inl J))
def zc119 (n w : Nat) (I : Nat → Int32) (J : Nat → Int64) : ip_E := .inl (.long, 256, .inr (.inl J))
def zc120 (n w : Nat) (I : Nat → Int32) (J : Nat → Int64) : ip_E := .inl (.int, 500, .inl I)
def zc121 (n w : Nat) (I : Nat → Int32) (J : Nat → Int64) : ip_E := .inl (.int, 16000, .inl I)
def zc122 (n w : Nat) (I : Nat → Int32) (J : Nat → Int64) : ip_E := .inl (.int, 134400, .inl I)
def zc123 (n w : Nat) (I : Nat → Int32) (J : Nat → Int64) : ip_E := .inl (.int, 40, .inl I)
def zc124 (n w : Nat) (I : Nat → Int32) (J : Nat → Int64) : ip_E := .inl (.int, 40, .inl I)
def zc125 (n w : Nat) (I : Nat → Int32) (J : Nat → Int64) : ip_E := .inl (.int, 40, .inl I)
def zc126 (n w : Nat) (I : Nat → Int32) (J : Nat → Int64) : ip_E := .inl (.int, 40, .inl I)
def zc127 (n w : Nat) (I : Nat → Int32) (J : Nat → Int64) : ip_E := .inl (.int, 40, .inl I)
def zc128 (n w : Nat) (I : Nat → Int32) (J : Nat → Int64) : ip_E := .inl (.int, 40, .inl I)
def zc129 (n w : Nat) (I : Nat → Int32) (J : Nat → Int64) : ip_E := .inl (.int, 40, .inl I)
def zc130 (n w : Nat) (I : Nat → Int32) (J : Nat → Int64) : ip_E := .inl (.int, 40, .inl I)
def zc131 (n w : Nat) (I : Nat → Int32) (J : Nat → Int64) : ip_E := .inl (.int, 80, .inl I)
def zc132 (n w : Nat) (I : Nat → Int32) (J : Nat → Int64) : ip_E := .inl (.int, 8192, .inl I)
def zc133 (n w : Nat) (I : Nat → Int32) (J : Nat → Int64) : ip_E := .inl (.int, 300, .inl I)
def zc134 (n w : Nat) (I : Nat → Int32) (J : Nat → Int64) : ip_E := .inl (.int, 300, .inl I)
def zc135 (n w : Nat) (I : Nat → Int32) (J : Nat → Int64) : ip_E := .inl (.int, 300, .inl I)
def zc136 (n w : Nat) (I : Nat → Int32) (J : Nat → Int64) : ip_E := .inl (.int, 40, .inl I)
def zc137 (n w : Nat) (I : Nat → Int32) (J : Nat → Int64) : ip_E := .inl (.int, 40, .inl I)
def zc138 (n w : Nat) (I : Nat → Int32) (J : Nat → Int64) : ip_E := .inl (.boolean, 40, .inl I)
def zc139 (n w : Nat) (I : Nat → Int32) (J : Nat → Int64) : ip_E := .inl (.int, 327680, .inl I)
def zc140 (n w : Nat) (I : Nat → Int32) (J : Nat → Int64) : ip_E := .inl (.int, 327680, .inl I)
def zc141 (n w : Nat) (I : Nat → Int32) (J : Nat → Int64) : ip_E := .inl (.long, 12000, .inr (.inl J))
def zc142 (n w : Nat) (I : Nat → Int32) (J : Nat → Int64) : ip_E := .inl (.long, 12000, .inr (.inl J))
def zc143 (n w : Nat) (I : Nat → Int32) (J : Nat → Int64) : ip_E := .inl (.int, 12000, .inl I)
def zc144 (n w : Nat) (I : Nat → Int32) (J : Nat → Int64) : ip_E := .inl (.int, 400, .inl I)
def zc145 (n w : Nat) (I : Nat → Int32) (J : Nat → Int64) : ip_E := .inl (.int, 400, .inl I)
def zc146 (n w : Nat) (I : Nat → Int32) (J : Nat → Int64) : ip_E := .inl (.int, 40, .inl I)
def zc147 (n w : Nat) (I : Nat → Int32) (J : Nat → Int64) : ip_E := .inl (.long, 4200, .inr (.inl J))
def zc148 (n w : Nat) (I : Nat → Int32) (J : Nat → Int64) : ip_E := .inl (.long, 256, .inr (.inl J))
def zc149 (n w : Nat) (I : Nat → Int32) (J : Nat → Int64) : ip_E := .inl (.long, 500, .inr (.inl J))
def zc150 (n w : Nat) (I : Nat → Int32) (J : Nat → Int64) : ip_E := .inl (.int, 2000, .inl I)
def zc151 (n w : Nat) (I : Nat → Int32) (J : Nat → Int64) : ip_E := .inl (.int, 48192, .inl I)
def zc152 (n w : Nat) (I : Nat → Int32) (J : Nat → Int64) : ip_E := .inl (.int, 40000, .inl I)
def zc153 (n w : Nat) (I : Nat → Int32) (J : Nat → Int64) : ip_E := .inl (.int, 40000, .inl I)
def zc154 (n w : Nat) (I : Nat → Int32) (J : Nat → Int64) : ip_E := .inl (.int, 40000, .inl I)
def zc155 (n w : Nat) (I : Nat → Int32) (J : Nat → Int64) : ip_E := .inl (.int, 2003, .inl I)
def zc156 (n w : Nat) (I : Nat → Int32) (J : Nat → Int64) : ip_E := .inl (.int, 40000, .inl I)
def zc157 (n w : Nat) (I : Nat → Int32) (J : Nat → Int64) : ip_E := .inl (.int, 16, .inl I)
def zc158 (n w : Nat) (I : Nat → Int32) (J : Nat → Int64) : ip_E := .inl (.int, 16, .inl I)
def zc159 (n w : Nat) (I : Nat → Int32) (J : Nat → Int64) : ip_E := .inl (.int, 16, .inl I)
def zc160 (n w : Nat) (I : Nat → Int32) (J : Nat → Int64) : ip_E := .inl (.int, 16, .inl I)
def zc161 (n w : Nat) (I : Nat → Int32) (J : Nat → Int64) : ip_E := .inl (.int, 16, .inl I)
def zc162 (n w : Nat) (I : Nat → Int32) (J : Nat → Int64) : ip_E := .inl (.int, 481000, .inl I)
def zc163 (n w : Nat) (I : Nat → Int32) (J : Nat → Int64) : ip_E := .inl (.int, 481000, .inl I)
def zc164 (n w : Nat) (I : Nat → Int32) (J : Nat → Int64) : ip_E := .inl (.int, 1000, .inl I)
def zc165 (n w : Nat) (I : Nat → Int32) (J : Nat → Int64) : ip_E := .inl (.int, 1000, .inl I)
def zc166 (n w : Nat) (I : Nat → Int32) (J : Nat → Int64) : ip_E := .inl (.int, 1000, .inl I)
def zc167 (n w : Nat) (I : Nat → Int32) (J : Nat → Int64) : ip_E := .inl (.int, 16, .inl I)
def zc (n w : Nat) : zC := fun I J c => bif Nat.blt c 84 then (bif Nat.blt c 42 then (bif Nat.blt c 21 then (bif Nat.blt c 10 then (bif Nat.blt c 5 then (bif Nat.blt c 2 then (bif Nat.blt c 1 then (zc0 n w I J) else (zc1 n w I J)) else (bif Nat.blt c 3 then (zc2 n w I J) else (bif Nat.blt c 4 then (zc3 n w I J) else (zc4 n w I J)))) else (bif Nat.blt c 7 then (bif Nat.blt c 6 then (zc5 n w I J) else (zc6 n w I J)) else (bif Nat.blt c 8 then (zc7 n w I J) else (bif Nat.blt c 9 then (zc8 n w I J) else (zc9 n w I J))))) else (bif Nat.blt c 15 then (bif Nat.blt c 12 then (bif Nat.blt c 11 then (zc10 n w I J) else (zc11 n w I J)) else (bif Nat.blt c 13 then (zc12 n w I J) else (bif Nat.blt c 14 then (zc13 n w I J) else (zc14 n w I J)))) else (bif Nat.blt c 18 then (bif Nat.blt c 16 then (zc15 n w I J) else (bif Nat.blt c 17 then (zc16 n w I J) else (zc17 n w I J))) else (bif Nat.blt c 19 then (zc18 n w I J) else (bif Nat.blt c 20 then (zc19 n w I J) else (zc20 n w I J)))))) else (bif Nat.blt c 31 then (bif Nat.blt c 26 then (bif Nat.blt c 23 then (bif Nat.blt c 22 then (zc21 n w I J) else (zc22 n w I J)) else (bif Nat.blt c 24 then (zc23 n w I J) else (bif Nat.blt c 25 then (zc24 n w I J) else (zc25 n w I J)))) else (bif Nat.blt c 28 then (bif Nat.blt c 27 then (zc26 n w I J) else (zc27 n w I J)) else (bif Nat.blt c 29 then (zc28 n w I J) else (bif Nat.blt c 30 then (zc29 n w I J) else (zc30 n w I J))))) else (bif Nat.blt c 36 then (bif Nat.blt c 33 then (bif Nat.blt c 32 then (zc31 n w I J) else (zc32 n w I J)) else (bif Nat.blt c 34 then (zc33 n w I J) else (bif Nat.blt c 35 then (zc34 n w I J) else (zc35 n w I J)))) else (bif Nat.blt c 39 then (bif Nat.blt c 37 then (zc36 n w I J) else (bif Nat.blt c 38 then (zc37 n w I J) else (zc38 n w I J))) else (bif Nat.blt c 40 then (zc39 n w I J) else (bif Nat.blt c 41 then (zc40 n w I J) else (zc41 n w I J))))))) else (bif Nat.blt c 63 then (bif Nat.blt c 52 then (bif Nat.blt c 47 then (bif Nat.blt c 44 then (bif Nat.blt c 43 then (zc42 n w I J) else (zc43 n w I J)) else (bif Nat.blt c 45 then (zc44 n w I J) else (bif Nat.blt c 46 then (zc45 n w I J) else (zc46 n w I J)))) else (bif Nat.blt c 49 then (bif Nat.blt c 48 then (zc47 n w I J) else (zc48 n w I J)) else (bif Nat.blt c 50 then (zc49 n w I J) else (bif Nat.blt c 51 then (zc50 n w I J) else (zc51 n w I J))))) else (bif Nat.blt c 57 then (bif Nat.blt c 54 then (bif Nat.blt c 53 then (zc52 n w I J) else (zc53 n w I J)) else (bif Nat.blt c 55 then (zc54 n w I J) else (bif Nat.blt c 56 then (zc55 n w I J) else (zc56 n w I J)))) else (bif Nat.blt c 60 then (bif Nat.blt c 58 then (zc57 n w I J) else (bif Nat.blt c 59 then (zc58 n w I J) else (zc59 n w I J))) else (bif Nat.blt c 61 then (zc60 n w I J) else (bif Nat.blt c 62 then (zc61 n w I J) else (zc62 n w I J)))))) else (bif Nat.blt c 73 then (bif Nat.blt c 68 then (bif Nat.blt c 65 then (bif Nat.blt c 64 then (zc63 n w I J) else (zc64 n w I J)) else (bif Nat.blt c 66 then (zc65 n w I J) else (bif Nat.blt c 67 then (zc66 n w I J) else (zc67 n w I J)))) else (bif Nat.blt c 70 then (bif Nat.blt c 69 then (zc68 n w I J) else (zc69 n w I J)) else (bif Nat.blt c 71 then (zc70 n w I J) else (bif Nat.blt c 72 then (zc71 n w I J) else (zc72 n w I J))))) else (bif Nat.blt c 78 then (bif Nat.blt c 75 then (bif Nat.blt c 74 then (zc73 n w I J) else (zc74 n w I J)) else (bif Nat.blt c 76 then (zc75 n w I J) else (bif Nat.blt c 77 then (zc76 n w I J) else (zc77 n w I J)))) else (bif Nat.blt c 81 then (bif Nat.blt c 79 then (zc78 n w I J) else (bif Nat.blt c 80 then (zc79 n w I J) else (zc80 n w I J))) else (bif Nat.blt c 82 then (zc81 n w I J) else (bif Nat.blt c 83 then (zc82 n w I J) else (zc83 n w I J)))))))) else (bif Nat.blt c 126 then (bif Nat.blt c 105 then (bif Nat.blt c 94 then (bif Nat.blt c 89 then (bif Nat.blt c 86 then (bif Nat.blt c 85 then (zc84 n w I J) else (zc85 n w I J)) else (bif Nat.blt c 87 then (zc86 n w I J) else (bif Nat.blt c 88 then (zc87 n w I J) else (zc88 n w I J)))) else (bif Nat.blt c 91 then (bif Nat.blt c 90 then (zc89 n w I J) else (zc90 n w I J)) else (bif Nat.blt c 92 then (zc91 n w I J) else (bif Nat.blt c 93 then (zc92 n w I J) else (zc93 n w I J))))) else (bif Nat.blt c 99 then (bif Nat.blt c 96 then (bif Nat.blt c 95 then (zc94 n w I J) else (zc95 n w I J)) else (bif Nat.blt c 97 then (zc96 n w I J) else (bif Nat.blt c 98 then (zc97 n w I J) else (zc98 n w I J)))) else (bif Nat.blt c 102 then (bif Nat.blt c 100 then (zc99 n w I J) else (bif Nat.blt c 101 then (zc100 n w I J) else (zc101 n w I J))) else (bif Nat.blt c 103 then (zc102 n w I J) else (bif Nat.blt c 104 then (zc103 n w I J) else (zc104 n w I J)))))) else (bif Nat.blt c 115 then (bif Nat.blt c 110 then (bif Nat.blt c 107 then (bif Nat.blt c 106 then (zc105 n w I J) else (zc106 n w I J)) else (bif Nat.blt c 108 then (zc107 n w I J) else (bif Nat.blt c 109 then (zc108 n w I J) else (zc109 n w I J)))) else (bif Nat.blt c 112 then (bif Nat.blt c 111 then (zc110 n w I J) else (zc111 n w I J)) else (bif Nat.blt c 113 then (zc112 n w I J) else (bif Nat.blt c 114 then (zc113 n w I J) else (zc114 n w I J))))) else (bif Nat.blt c 120 then (bif Nat.blt c 117 then (bif Nat.blt c 116 then (zc115 n w I J) else (zc116 n w I J)) else (bif Nat.blt c 118 then (zc117 n w I J) else (bif Nat.blt c 119 then (zc118 n w I J) else (zc119 n w I J)))) else (bif Nat.blt c 123 then (bif Nat.blt c 121 then (zc120 n w I J) else (bif Nat.blt c 122 then (zc121 n w I J) else (zc122 n w I J))) else (bif Nat.blt c 124 then (zc123 n w I J) else (bif Nat.blt c 125 then (zc124 n w I J) else (zc125 n w I J))))))) else (bif Nat.blt c 147 then (bif Nat.blt c 136 then (bif Nat.blt c 131 then (bif Nat.blt c 128 then (bif Nat.blt c 127 then (zc126 n w I J) else (zc127 n w I J)) else (bif Nat.blt c 129 then (zc128 n w I J) else (bif Nat.blt c 130 then (zc129 n w I J) else (zc130 n w I J)))) else (bif Nat.blt c 133 then (bif Nat.blt c 132 then (zc131 n w I J) else (zc132 n w I J)) else (bif Nat.blt c 134 then (zc133 n w I J) else (bif Nat.blt c 135 then (zc134 n w I J) else (zc135 n w I J))))) else (bif Nat.blt c 141 then (bif Nat.blt c 138 then (bif Nat.blt c 137 then (zc136 n w I J) else (zc137 n w I J)) else (bif Nat.blt c 139 then (zc138 n w I J) else (bif Nat.blt c 140 then (zc139 n w I J) else (zc140 n w I J)))) else (bif Nat.blt c 144 then (bif Nat.blt c 142 then (zc141 n w I J) else (bif Nat.blt c 143 then (zc142 n w I J) else (zc143 n w I J))) else (bif Nat.blt c 145 then (zc144 n w I J) else (bif Nat.blt c 146 then (zc145 n w I J) else (zc146 n w I J)))))) else (bif Nat.blt c 157 then (bif Nat.blt c 152 then (bif Nat.blt c 149 then (bif Nat.blt c 148 then (zc147 n w I J) else (zc148 n w I J)) else (bif Nat.blt c 150 then (zc149 n w I J) else (bif Nat.blt c 151 then (zc150 n w I J) else (zc151 n w I J)))) else (bif Nat.blt c 154 then (bif Nat.blt c 153 then (zc152 n w I J) else (zc153 n w I J)) else (bif Nat.blt c 155 then (zc154 n w I J) else (bif Nat.blt c 156 then (zc155 n w I J) else (zc156 n w I J))))) else (bif Nat.blt c 162 then (bif Nat.blt c 159 then (bif Nat.blt c 158 then (zc157 n w I J) else (zc158 n w I J)) else (bif Nat.blt c 160 then (zc159 n w I J) else (bif Nat.blt c 161 then (zc160 n w I J) else (zc161 n w I J)))) else (bif Nat.blt c 165 then (bif Nat.blt c 163 then (zc162 n w I J) else (bif Nat.blt c 164 then (zc163 n w I J) else (zc164 n w I J))) else (bif Nat.blt c 166 then (zc165 n w I J) else (bif Nat.blt c 167 then (zc166 n w I J) else (zc167 n w I J))))))))
theorem zo_0 (n w : Nat) (I : Nat → Int32) (J : Nat → Int64) : zc n w I J 0 = .inr (11, zf0 n w I J) := rfl
theorem zg_0_4 (n w : Nat) (I : Nat → Int32) (J : Nat → Int64) : (zf0 n w I J)[4]? = some (.int (I 4)) := rfl
set_option maxRecDepth 100000 in
theorem zs_0_4 (n w : Nat) (I : Nat → Int32) (J : Nat → Int64) (x : Int32) : zc n w (upd I 4 x) J 0 = .inr (11, (zf0 n w I J).set 4 (.int x)) := rfl
theorem zn_0_4 (n w : Nat) (I : Nat → Int32) (J : Nat → Int64) : 4 < (zf0 n w I J).length := Nat.le_of_ble_eq_true rfl
theorem zg_0_14 (n w : Nat) (I : Nat → Int32) (J : Nat → Int64) : (zf0 n w I J)[14]? = some (.int (I 14)) := rfl
set_option maxRecDepth 100000 in
theorem zs_0_14 (n w : Nat) (I : Nat → Int32) (J : Nat → Int64) (x : Int32) : zc n w (upd I 14 x) J 0 = .inr (11, (zf0 n w I J).set 14 (.int x)) := rfl
theorem zn_0_14 (n w : Nat) (I : Nat → Int32) (J : Nat → Int64) : 14 < (zf0 n w I J).length := Nat.le_of_ble_eq_true rfl
theorem zg_0_15 (n w : Nat) (I : Nat → Int32) (J : Nat → Int64) : (zf0 n w I J)[15]? = some (.int (I 15)) := rfl
set_option maxRecDepth 100000 in
theorem zs_0_15 (n w : Nat) (I : Nat → Int32) (J : Nat → Int64) (x : Int32) : zc n w (upd I 15 x) J 0 = .inr (11, (zf0 n w I J).set 15 (.int x)) := rfl
theorem zn_0_15 (n w : Nat) (I : Nat → Int32) (J : Nat → Int64) : 15 < (zf0 n w I J).length := Nat.le_of_ble_eq_true rfl
theorem zg_0_16 (n w : Nat) (I : Nat → Int32) (J : Nat → Int64) : (zf0 n w I J)[16]? = some (.int (I 16)) := rfl
set_option maxRecDepth 100000 in
theorem zs_0_16 (n w : Nat) (I : Nat → Int32) (J : Nat → Int64) (x : Int32) : zc n w (upd I 16 x) J 0 = .inr (11, (zf0 n w I J).set 16 (.int x)) := rfl
theorem zn_0_16 (n w : Nat) (I : Nat → Int32) (J : Nat → Int64) : 16 < (zf0 n w I J).length := Nat.le_of_ble_eq_true rfl
theorem zo_3 (n w : Nat) (I : Nat → Int32) (J : Nat → Int64) : zc n w I J 3 = .inr (2, zf3 n w I J) := rfl
theorem zg_3_4 (n w : Nat) (I : Nat → Int32) (J : Nat → Int64) : (zf3 n w I J)[4]? = some (.int (I 4)) := rfl
set_option maxRecDepth 100000 in
theorem zs_3_4 (n w : Nat) (I : Nat → Int32) (J : Nat → Int64) (x : Int32) : zc n w (upd I 4 x) J 3 = .inr (2, (zf3 n w I J).set 4 (.int x)) := rfl
theorem zn_3_4 (n w : Nat) (I : Nat → Int32) (J : Nat → Int64) : 4 < (zf3 n w I J).length := Nat.le_of_ble_eq_true rfl
theorem zg_3_5 (n w : Nat) (I : Nat → Int32) (J : Nat → Int64) : (zf3 n w I J)[5]? = some (.int (I 5)) := rfl
theorem zn_3_5 (n w : Nat) (I : Nat → Int32) (J : Nat → Int64) : 5 < (zf3 n w I J).length := Nat.le_of_ble_eq_true rfl
theorem zg_3_6 (n w : Nat) (I : Nat → Int32) (J : Nat → Int64) : (zf3 n w I J)[6]? = some (.int (if I 5 = 0 then -1 else I 6)) := rfl
set_option maxRecDepth 100000 in
theorem zw_3a (n w : Nat) (I : Nat → Int32) (J : Nat → Int64) (x y : Int32) : zc n w (upd (upd I 5 x) 6 y) J 3 = .inr (2, ((zf3 n w I J).set 5 (.int x)).set 6 (.int (if x = 0 then -1 else y))) := rfl
theorem zw_3 (n w : Nat) (I : Nat → Int32) (J : Nat → Int64) {x y : Int32} (h : x = 0 → y = -1) : zc n w (upd (upd I 5 x) 6 y) J 3 = .inr (2, ((zf3 n w I J).set 5 (.int x)).set 6 (.int y)) := by
  have e : (if x = 0 then (-1 : Int32) else y) = y := by
    by_cases q : x = 0
    · rw [if_pos q, h q]
    · rw [if_neg q]
  rw [zw_3a, e]
theorem zn_3_6 (n w : Nat) (I : Nat → Int32) (J : Nat → Int64) : 6 < (zf3 n w I J).length := Nat.le_of_ble_eq_true rfl
theorem zo_8 (n w : Nat) (I : Nat → Int32) (J : Nat → Int64) : zc n w I J 8 = .inr (6, zf8 n w I J) := rfl
theorem zg_8_1 (n w : Nat) (I : Nat → Int32) (J : Nat → Int64) : (zf8 n w I J)[1]? = some (.int (I 1)) := rfl
set_option maxRecDepth 100000 in
theorem zs_8_1 (n w : Nat) (I : Nat → Int32) (J : Nat → Int64) (x : Int32) : zc n w (upd I 1 x) J 8 = .inr (6, (zf8 n w I J).set 1 (.int x)) := rfl
theorem zn_8_1 (n w : Nat) (I : Nat → Int32) (J : Nat → Int64) : 1 < (zf8 n w I J).length := Nat.le_of_ble_eq_true rfl
theorem zg_8_9 (n w : Nat) (I : Nat → Int32) (J : Nat → Int64) : (zf8 n w I J)[9]? = some (.int (I 9)) := rfl
set_option maxRecDepth 100000 in
theorem zs_8_9 (n w : Nat) (I : Nat → Int32) (J : Nat → Int64) (x : Int32) : zc n w (upd I 9 x) J 8 = .inr (6, (zf8 n w I J).set 9 (.int x)) := rfl
theorem zn_8_9 (n w : Nat) (I : Nat → Int32) (J : Nat → Int64) : 9 < (zf8 n w I J).length := Nat.le_of_ble_eq_true rfl
theorem zg_8_11 (n w : Nat) (I : Nat → Int32) (J : Nat → Int64) : (zf8 n w I J)[11]? = some (.int (I 11)) := rfl
set_option maxRecDepth 100000 in
theorem zs_8_11 (n w : Nat) (I : Nat → Int32) (J : Nat → Int64) (x : Int32) : zc n w (upd I 11 x) J 8 = .inr (6, (zf8 n w I J).set 11 (.int x)) := rfl
theorem zn_8_11 (n w : Nat) (I : Nat → Int32) (J : Nat → Int64) : 11 < (zf8 n w I J).length := Nat.le_of_ble_eq_true rfl
theorem zg_8_12 (n w : Nat) (I : Nat → Int32) (J : Nat → Int64) : (zf8 n w I J)[12]? = some (.int (I 12)) := rfl
set_option maxRecDepth 100000 in
theorem zs_8_12 (n w : Nat) (I : Nat → Int32) (J : Nat → Int64) (x : Int32) : zc n w (upd I 12 x) J 8 = .inr (6, (zf8 n w I J).set 12 (.int x)) := rfl
theorem zn_8_12 (n w : Nat) (I : Nat → Int32) (J : Nat → Int64) : 12 < (zf8 n w I J).length := Nat.le_of_ble_eq_true rfl
theorem zo_17 (n w : Nat) (I : Nat → Int32) (J : Nat → Int64) : zc n w I J 17 = .inr (4, zf17 n w I J) := rfl
theorem zg_17_6 (n w : Nat) (I : Nat → Int32) (J : Nat → Int64) : (zf17 n w I J)[6]? = some (.int (I 6)) := rfl
set_option maxRecDepth 100000 in
theorem zs_17_6 (n w : Nat) (I : Nat → Int32) (J : Nat → Int64) (x : Int32) : zc n w (upd I 6 x) J 17 = .inr (4, (zf17 n w I J).set 6 (.int x)) := rfl
theorem zn_17_6 (n w : Nat) (I : Nat → Int32) (J : Nat → Int64) : 6 < (zf17 n w I J).length := Nat.le_of_ble_eq_true rfl
theorem zg_17_7 (n w : Nat) (I : Nat → Int32) (J : Nat → Int64) : (zf17 n w I J)[7]? = some (.int (I 7)) := rfl
set_option maxRecDepth 100000 in
theorem zs_17_7 (n w : Nat) (I : Nat → Int32) (J : Nat → Int64) (x : Int32) : zc n w (upd I 7 x) J 17 = .inr (4, (zf17 n w I J).set 7 (.int x)) := rfl
theorem zn_17_7 (n w : Nat) (I : Nat → Int32) (J : Nat → Int64) : 7 < (zf17 n w I J).length := Nat.le_of_ble_eq_true rfl
theorem zo_24 (n w : Nat) (I : Nat → Int32) (J : Nat → Int64) : zc n w I J 24 = .inr (1, zf24 n w I J) := rfl
theorem zg_24_4 (n w : Nat) (I : Nat → Int32) (J : Nat → Int64) : (zf24 n w I J)[4]? = some (.int (I 4)) := rfl
set_option maxRecDepth 100000 in
theorem zs_24_4 (n w : Nat) (I : Nat → Int32) (J : Nat → Int64) (x : Int32) : zc n w (upd I 4 x) J 24 = .inr (1, (zf24 n w I J).set 4 (.int x)) := rfl
theorem zn_24_4 (n w : Nat) (I : Nat → Int32) (J : Nat → Int64) : 4 < (zf24 n w I J).length := Nat.le_of_ble_eq_true rfl
theorem zg_24_5 (n w : Nat) (I : Nat → Int32) (J : Nat → Int64) : (zf24 n w I J)[5]? = some (.int (I 5)) := rfl
set_option maxRecDepth 100000 in
theorem zs_24_5 (n w : Nat) (I : Nat → Int32) (J : Nat → Int64) (x : Int32) : zc n w (upd I 5 x) J 24 = .inr (1, (zf24 n w I J).set 5 (.int x)) := rfl
theorem zn_24_5 (n w : Nat) (I : Nat → Int32) (J : Nat → Int64) : 5 < (zf24 n w I J).length := Nat.le_of_ble_eq_true rfl
theorem zg_24_6 (n w : Nat) (I : Nat → Int32) (J : Nat → Int64) : (zf24 n w I J)[6]? = some (.int (I 6)) := rfl
set_option maxRecDepth 100000 in
theorem zs_24_6 (n w : Nat) (I : Nat → Int32) (J : Nat → Int64) (x : Int32) : zc n w (upd I 6 x) J 24 = .inr (1, (zf24 n w I J).set 6 (.int x)) := rfl
theorem zn_24_6 (n w : Nat) (I : Nat → Int32) (J : Nat → Int64) : 6 < (zf24 n w I J).length := Nat.le_of_ble_eq_true rfl
theorem zg_24_7 (n w : Nat) (I : Nat → Int32) (J : Nat → Int64) : (zf24 n w I J)[7]? = some (.int (I 7)) := rfl
set_option maxRecDepth 100000 in
theorem zs_24_7 (n w : Nat) (I : Nat → Int32) (J : Nat → Int64) (x : Int32) : zc n w (upd I 7 x) J 24 = .inr (1, (zf24 n w I J).set 7 (.int x)) := rfl
theorem zn_24_7 (n w : Nat) (I : Nat → Int32) (J : Nat → Int64) : 7 < (zf24 n w I J).length := Nat.le_of_ble_eq_true rfl
theorem zg_24_8 (n w : Nat) (I : Nat → Int32) (J : Nat → Int64) : (zf24 n w I J)[8]? = some (.int (I 8)) := rfl
set_option maxRecDepth 100000 in
theorem zs_24_8 (n w : Nat) (I : Nat → Int32) (J : Nat → Int64) (x : Int32) : zc n w (upd I 8 x) J 24 = .inr (1, (zf24 n w I J).set 8 (.int x)) := rfl
theorem zn_24_8 (n w : Nat) (I : Nat → Int32) (J : Nat → Int64) : 8 < (zf24 n w I J).length := Nat.le_of_ble_eq_true rfl
theorem zg_24_11 (n w : Nat) (I : Nat → Int32) (J : Nat → Int64) : (zf24 n w I J)[11]? = some (.int (I 11)) := rfl
set_option maxRecDepth 100000 in
theorem zs_24_11 (n w : Nat) (I : Nat → Int32) (J : Nat → Int64) (x : Int32) : zc n w (upd I 11 x) J 24 = .inr (1, (zf24 n w I J).set 11 (.int x)) := rfl
theorem zn_24_11 (n w : Nat) (I : Nat → Int32) (J : Nat → Int64) : 11 < (zf24 n w I J).length := Nat.le_of_ble_eq_true rfl
theorem zo_34 (n w : Nat) (I : Nat → Int32) (J : Nat → Int64) : zc n w I J 34 = .inr (8, zf34 n w I J) := rfl
theorem zg_34_9 (n w : Nat) (I : Nat → Int32) (J : Nat → Int64) : (zf34 n w I J)[9]? = some (.int (I 9)) := rfl
set_option maxRecDepth 100000 in
theorem zs_34_9 (n w : Nat) (I : Nat → Int32) (J : Nat → Int64) (x : Int32) : zc n w (upd I 9 x) J 34 = .inr (8, (zf34 n w I J).set 9 (.int x)) := rfl
theorem zn_34_9 (n w : Nat) (I : Nat → Int32) (J : Nat → Int64) : 9 < (zf34 n w I J).length := Nat.le_of_ble_eq_true rfl
theorem zg_34_10 (n w : Nat) (I : Nat → Int32) (J : Nat → Int64) : (zf34 n w I J)[10]? = some (.int (I 10)) := rfl
set_option maxRecDepth 100000 in
theorem zs_34_10 (n w : Nat) (I : Nat → Int32) (J : Nat → Int64) (x : Int32) : zc n w (upd I 10 x) J 34 = .inr (8, (zf34 n w I J).set 10 (.int x)) := rfl
theorem zn_34_10 (n w : Nat) (I : Nat → Int32) (J : Nat → Int64) : 10 < (zf34 n w I J).length := Nat.le_of_ble_eq_true rfl
theorem zo_38 (n w : Nat) (I : Nat → Int32) (J : Nat → Int64) : zc n w I J 38 = .inr (10, zf38 n w I J) := rfl
theorem zg_38_1 (n w : Nat) (I : Nat → Int32) (J : Nat → Int64) : (zf38 n w I J)[1]? = some (.int (I 1)) := rfl
set_option maxRecDepth 100000 in
theorem zs_38_1 (n w : Nat) (I : Nat → Int32) (J : Nat → Int64) (x : Int32) : zc n w (upd I 1 x) J 38 = .inr (10, (zf38 n w I J).set 1 (.int x)) := rfl
theorem zn_38_1 (n w : Nat) (I : Nat → Int32) (J : Nat → Int64) : 1 < (zf38 n w I J).length := Nat.le_of_ble_eq_true rfl
theorem zg_38_2 (n w : Nat) (I : Nat → Int32) (J : Nat → Int64) : (zf38 n w I J)[2]? = some (.int (I 2)) := rfl
set_option maxRecDepth 100000 in
theorem zs_38_2 (n w : Nat) (I : Nat → Int32) (J : Nat → Int64) (x : Int32) : zc n w (upd I 2 x) J 38 = .inr (10, (zf38 n w I J).set 2 (.int x)) := rfl
theorem zn_38_2 (n w : Nat) (I : Nat → Int32) (J : Nat → Int64) : 2 < (zf38 n w I J).length := Nat.le_of_ble_eq_true rfl
theorem zg_38_3 (n w : Nat) (I : Nat → Int32) (J : Nat → Int64) : (zf38 n w I J)[3]? = some (.int (I 3)) := rfl
set_option maxRecDepth 100000 in
theorem zs_38_3 (n w : Nat) (I : Nat → Int32) (J : Nat → Int64) (x : Int32) : zc n w (upd I 3 x) J 38 = .inr (10, (zf38 n w I J).set 3 (.int x)) := rfl
theorem zn_38_3 (n w : Nat) (I : Nat → Int32) (J : Nat → Int64) : 3 < (zf38 n w I J).length := Nat.le_of_ble_eq_true rfl
theorem zg_38_4 (n w : Nat) (I : Nat → Int32) (J : Nat → Int64) : (zf38 n w I J)[4]? = some (.int (I 4)) := rfl
set_option maxRecDepth 100000 in
theorem zs_38_4 (n w : Nat) (I : Nat → Int32) (J : Nat → Int64) (x : Int32) : zc n w (upd I 4 x) J 38 = .inr (10, (zf38 n w I J).set 4 (.int x)) := rfl
theorem zn_38_4 (n w : Nat) (I : Nat → Int32) (J : Nat → Int64) : 4 < (zf38 n w I J).length := Nat.le_of_ble_eq_true rfl
theorem zo_39 (n w : Nat) (I : Nat → Int32) (J : Nat → Int64) : zc n w I J 39 = .inr (9, zf39 n w I J) := rfl
theorem zg_39_3 (n w : Nat) (I : Nat → Int32) (J : Nat → Int64) : (zf39 n w I J)[3]? = some (.int (I 3)) := rfl
set_option maxRecDepth 100000 in
theorem zs_39_3 (n w : Nat) (I : Nat → Int32) (J : Nat → Int64) (x : Int32) : zc n w (upd I 3 x) J 39 = .inr (9, (zf39 n w I J).set 3 (.int x)) := rfl
theorem zn_39_3 (n w : Nat) (I : Nat → Int32) (J : Nat → Int64) : 3 < (zf39 n w I J).length := Nat.le_of_ble_eq_true rfl
theorem zg_39_5 (n w : Nat) (I : Nat → Int32) (J : Nat → Int64) : (zf39 n w I J)[5]? = some (.int (I 5)) := rfl
set_option maxRecDepth 100000 in
theorem zs_39_5 (n w : Nat) (I : Nat → Int32) (J : Nat → Int64) (x : Int32) : zc n w (upd I 5 x) J 39 = .inr (9, (zf39 n w I J).set 5 (.int x)) := rfl
theorem zn_39_5 (n w : Nat) (I : Nat → Int32) (J : Nat → Int64) : 5 < (zf39 n w I J).length := Nat.le_of_ble_eq_true rfl
theorem zg_39_9 (n w : Nat) (I : Nat → Int32) (J : Nat → Int64) : (zf39 n w I J)[9]? = some (.int (I 9)) := rfl
set_option maxRecDepth 100000 in
theorem zs_39_9 (n w : Nat) (I : Nat → Int32) (J : Nat → Int64) (x : Int32) : zc n w (upd I 9 x) J 39 = .inr (9, (zf39 n w I J).set 9 (.int x)) := rfl
theorem zn_39_9 (n w : Nat) (I : Nat → Int32) (J : Nat → Int64) : 9 < (zf39 n w I J).length := Nat.le_of_ble_eq_true rfl
theorem zg_39_10 (n w : Nat) (I : Nat → Int32) (J : Nat → Int64) : (zf39 n w I J)[10]? = some (.int (I 10)) := rfl
set_option maxRecDepth 100000 in
theorem zs_39_10 (n w : Nat) (I : Nat → Int32) (J : Nat → Int64) (x : Int32) : zc n w (upd I 10 x) J 39 = .inr (9, (zf39 n w I J).set 10 (.int x)) := rfl
theorem zn_39_10 (n w : Nat) (I : Nat → Int32) (J : Nat → Int64) : 10 < (zf39 n w I J).length := Nat.le_of_ble_eq_true rfl
theorem zo_45 (n w : Nat) (I : Nat → Int32) (J : Nat → Int64) : zc n w I J 45 = .inr (0, zf45 n w I J) := rfl
theorem zg_45_8 (n w : Nat) (I : Nat → Int32) (J : Nat → Int64) : (zf45 n w I J)[8]? = some (.int (I 8)) := rfl
set_option maxRecDepth 100000 in
theorem zs_45_8 (n w : Nat) (I : Nat → Int32) (J : Nat → Int64) (x : Int32) : zc n w (upd I 8 x) J 45 = .inr (0, (zf45 n w I J).set 8 (.int x)) := rfl
theorem zn_45_8 (n w : Nat) (I : Nat → Int32) (J : Nat → Int64) : 8 < (zf45 n w I J).length := Nat.le_of_ble_eq_true rfl
theorem zg_45_12 (n w : Nat) (I : Nat → Int32) (J : Nat → Int64) : (zf45 n w I J)[12]? = some (.int (I 12)) := rfl
set_option maxRecDepth 100000 in
theorem zs_45_12 (n w : Nat) (I : Nat → Int32) (J : Nat → Int64) (x : Int32) : zc n w (upd I 12 x) J 45 = .inr (0, (zf45 n w I J).set 12 (.int x)) := rfl
theorem zn_45_12 (n w : Nat) (I : Nat → Int32) (J : Nat → Int64) : 12 < (zf45 n w I J).length := Nat.le_of_ble_eq_true rfl
theorem zg_45_13 (n w : Nat) (I : Nat → Int32) (J : Nat → Int64) : (zf45 n w I J)[13]? = some (.int (I 13)) := rfl
set_option maxRecDepth 100000 in
theorem zs_45_13 (n w : Nat) (I : Nat → Int32) (J : Nat → Int64) (x : Int32) : zc n w (upd I 13 x) J 45 = .inr (0, (zf45 n w I J).set 13 (.int x)) := rfl
theorem zn_45_13 (n w : Nat) (I : Nat → Int32) (J : Nat → Int64) : 13 < (zf45 n w I J).length := Nat.le_of_ble_eq_true rfl
theorem zg_45_16 (n w : Nat) (I : Nat → Int32) (J : Nat → Int64) : (zf45 n w I J)[16]? = some (.int (I 16)) := rfl
set_option maxRecDepth 100000 in
theorem zs_45_16 (n w : Nat) (I : Nat → Int32) (J : Nat → Int64) (x : Int32) : zc n w (upd I 16 x) J 45 = .inr (0, (zf45 n w I J).set 16 (.int x)) := rfl
theorem zn_45_16 (n w : Nat) (I : Nat → Int32) (J : Nat → Int64) : 16 < (zf45 n w I J).length := Nat.le_of_ble_eq_true rfl
theorem zg_45_17 (n w : Nat) (I : Nat → Int32) (J : Nat → Int64) : (zf45 n w I J)[17]? = some (.int (I 17)) := rfl
set_option maxRecDepth 100000 in
theorem zs_45_17 (n w : Nat) (I : Nat → Int32) (J : Nat → Int64) (x : Int32) : zc n w (upd I 17 x) J 45 = .inr (0, (zf45 n w I J).set 17 (.int x)) := rfl
theorem zn_45_17 (n w : Nat) (I : Nat → Int32) (J : Nat → Int64) : 17 < (zf45 n w I J).length := Nat.le_of_ble_eq_true rfl
theorem zg_45_18 (n w : Nat) (I : Nat → Int32) (J : Nat → Int64) : (zf45 n w I J)[18]? = some (.int (I 18)) := rfl
set_option maxRecDepth 100000 in
theorem zs_45_18 (n w : Nat) (I : Nat → Int32) (J : Nat → Int64) (x : Int32) : zc n w (upd I 18 x) J 45 = .inr (0, (zf45 n w I J).set 18 (.int x)) := rfl
theorem zn_45_18 (n w : Nat) (I : Nat → Int32) (J : Nat → Int64) : 18 < (zf45 n w I J).length := Nat.le_of_ble_eq_true rfl
theorem zo_50 (n w : Nat) (I : Nat → Int32) (J : Nat → Int64) : zc n w I J 50 = .inr (5, zf50 n w I J) := rfl
theorem zo_59 (n w : Nat) (I : Nat → Int32) (J : Nat → Int64) : zc n w I J 59 = .inr (3, zf59 n w I J) := rfl
theorem zg_59_2 (n w : Nat) (I : Nat → Int32) (J : Nat → Int64) : (zf59 n w I J)[2]? = some (.int (I 2)) := rfl
set_option maxRecDepth 100000 in
theorem zs_59_2 (n w : Nat) (I : Nat → Int32) (J : Nat → Int64) (x : Int32) : zc n w (upd I 2 x) J 59 = .inr (3, (zf59 n w I J).set 2 (.int x)) := rfl
theorem zn_59_2 (n w : Nat) (I : Nat → Int32) (J : Nat → Int64) : 2 < (zf59 n w I J).length := Nat.le_of_ble_eq_true rfl
theorem zg_59_3 (n w : Nat) (I : Nat → Int32) (J : Nat → Int64) : (zf59 n w I J)[3]? = some (.int (I 3)) := rfl
set_option maxRecDepth 100000 in
theorem zs_59_3 (n w : Nat) (I : Nat → Int32) (J : Nat → Int64) (x : Int32) : zc n w (upd I 3 x) J 59 = .inr (3, (zf59 n w I J).set 3 (.int x)) := rfl
theorem zn_59_3 (n w : Nat) (I : Nat → Int32) (J : Nat → Int64) : 3 < (zf59 n w I J).length := Nat.le_of_ble_eq_true rfl
theorem zg_59_4 (n w : Nat) (I : Nat → Int32) (J : Nat → Int64) : (zf59 n w I J)[4]? = some (.int (I 4)) := rfl
set_option maxRecDepth 100000 in
theorem zs_59_4 (n w : Nat) (I : Nat → Int32) (J : Nat → Int64) (x : Int32) : zc n w (upd I 4 x) J 59 = .inr (3, (zf59 n w I J).set 4 (.int x)) := rfl
theorem zn_59_4 (n w : Nat) (I : Nat → Int32) (J : Nat → Int64) : 4 < (zf59 n w I J).length := Nat.le_of_ble_eq_true rfl
theorem zo_65 (n w : Nat) (I : Nat → Int32) (J : Nat → Int64) : zc n w I J 65 = .inr (7, zf65 n w I J) := rfl
theorem zg_65_10 (n w : Nat) (I : Nat → Int32) (J : Nat → Int64) : (zf65 n w I J)[10]? = some (.int (I 10)) := rfl
set_option maxRecDepth 100000 in
theorem zs_65_10 (n w : Nat) (I : Nat → Int32) (J : Nat → Int64) (x : Int32) : zc n w (upd I 10 x) J 65 = .inr (7, (zf65 n w I J).set 10 (.int x)) := rfl
theorem zn_65_10 (n w : Nat) (I : Nat → Int32) (J : Nat → Int64) : 10 < (zf65 n w I J).length := Nat.le_of_ble_eq_true rfl
theorem zg_65_11 (n w : Nat) (I : Nat → Int32) (J : Nat → Int64) : (zf65 n w I J)[11]? = some (.int (I 11)) := rfl
set_option maxRecDepth 100000 in
theorem zs_65_11 (n w : Nat) (I : Nat → Int32) (J : Nat → Int64) (x : Int32) : zc n w (upd I 11 x) J 65 = .inr (7, (zf65 n w I J).set 11 (.int x)) := rfl
theorem zn_65_11 (n w : Nat) (I : Nat → Int32) (J : Nat → Int64) : 11 < (zf65 n w I J).length := Nat.le_of_ble_eq_true rfl
theorem zg_65_12 (n w : Nat) (I : Nat → Int32) (J : Nat → Int64) : (zf65 n w I J)[12]? = some (.int (I 12)) := rfl
set_option maxRecDepth 100000 in
theorem zs_65_12 (n w : Nat) (I : Nat → Int32) (J : Nat → Int64) (x : Int32) : zc n w (upd I 12 x) J 65 = .inr (7, (zf65 n w I J).set 12 (.int x)) := rfl
theorem zn_65_12 (n w : Nat) (I : Nat → Int32) (J : Nat → Int64) : 12 < (zf65 n w I J).length := Nat.le_of_ble_eq_true rfl
theorem zo_73 (n w : Nat) (I : Nat → Int32) (J : Nat → Int64) : zc n w I J 73 = .inr (12, zf73 n w I J) := rfl
theorem zg_73_5 (n w : Nat) (I : Nat → Int32) (J : Nat → Int64) : (zf73 n w I J)[5]? = some (.int (I 5)) := rfl
set_option maxRecDepth 100000 in
theorem zs_73_5 (n w : Nat) (I : Nat → Int32) (J : Nat → Int64) (x : Int32) : zc n w (upd I 5 x) J 73 = .inr (12, (zf73 n w I J).set 5 (.int x)) := rfl
theorem zn_73_5 (n w : Nat) (I : Nat → Int32) (J : Nat → Int64) : 5 < (zf73 n w I J).length := Nat.le_of_ble_eq_true rfl
theorem zg_73_6 (n w : Nat) (I : Nat → Int32) (J : Nat → Int64) : (zf73 n w I J)[6]? = some (.int (I 6)) := rfl
set_option maxRecDepth 100000 in
theorem zs_73_6 (n w : Nat) (I : Nat → Int32) (J : Nat → Int64) (x : Int32) : zc n w (upd I 6 x) J 73 = .inr (12, (zf73 n w I J).set 6 (.int x)) := rfl
theorem zn_73_6 (n w : Nat) (I : Nat → Int32) (J : Nat → Int64) : 6 < (zf73 n w I J).length := Nat.le_of_ble_eq_true rfl
theorem zg_73_7 (n w : Nat) (I : Nat → Int32) (J : Nat → Int64) : (zf73 n w I J)[7]? = some (.int (I 7)) := rfl
theorem zn_73_7 (n w : Nat) (I : Nat → Int32) (J : Nat → Int64) : 7 < (zf73 n w I J).length := Nat.le_of_ble_eq_true rfl
theorem zg_73_8 (n w : Nat) (I : Nat → Int32) (J : Nat → Int64) : (zf73 n w I J)[8]? = some (.int (if I 7 = 0 then -1 else I 8)) := rfl
set_option maxRecDepth 100000 in
theorem zw_73a (n w : Nat) (I : Nat → Int32) (J : Nat → Int64) (x y : Int32) : zc n w (upd (upd I 7 x) 8 y) J 73 = .inr (12, ((zf73 n w I J).set 7 (.int x)).set 8 (.int (if x = 0 then -1 else y))) := rfl
theorem zw_73 (n w : Nat) (I : Nat → Int32) (J : Nat → Int64) {x y : Int32} (h : x = 0 → y = -1) : zc n w (upd (upd I 7 x) 8 y) J 73 = .inr (12, ((zf73 n w I J).set 7 (.int x)).set 8 (.int y)) := by
  have e : (if x = 0 then (-1 : Int32) else y) = y := by
    by_cases q : x = 0
    · rw [if_pos q, h q]
    · rw [if_neg q]
  rw [zw_73a, e]
theorem zn_73_8 (n w : Nat) (I : Nat → Int32) (J : Nat → Int64) : 8 < (zf73 n w I J).length := Nat.le_of_ble_eq_true rfl
theorem zg_73_9 (n w : Nat) (I : Nat → Int32) (J : Nat → Int64) : (zf73 n w I J)[9]? = some (.int (I 9)) := rfl
set_option maxRecDepth 100000 in
theorem zs_73_9 (n w : Nat) (I : Nat → Int32) (J : Nat → Int64) (x : Int32) : zc n w (upd I 9 x) J 73 = .inr (12, (zf73 n w I J).set 9 (.int x)) := rfl
theorem zn_73_9 (n w : Nat) (I : Nat → Int32) (J : Nat → Int64) : 9 < (zf73 n w I J).length := Nat.le_of_ble_eq_true rfl
theorem zg_73_12 (n w : Nat) (I : Nat → Int32) (J : Nat → Int64) : (zf73 n w I J)[12]? = some (.long (J 12)) := rfl
set_option maxRecDepth 100000 in
theorem zs_73_12 (n w : Nat) (I : Nat → Int32) (J : Nat → Int64) (x : Int64) : zc n w I (vp_updL J 12 x) 73 = .inr (12, (zf73 n w I J).set 12 (.long x)) := rfl
theorem zn_73_12 (n w : Nat) (I : Nat → Int32) (J : Nat → Int64) : 12 < (zf73 n w I J).length := Nat.le_of_ble_eq_true rfl
theorem zg_73_13 (n w : Nat) (I : Nat → Int32) (J : Nat → Int64) : (zf73 n w I J)[13]? = some (.int (I 13)) := rfl
set_option maxRecDepth 100000 in
theorem zs_73_13 (n w : Nat) (I : Nat → Int32) (J : Nat → Int64) (x : Int32) : zc n w (upd I 13 x) J 73 = .inr (12, (zf73 n w I J).set 13 (.int x)) := rfl
theorem zn_73_13 (n w : Nat) (I : Nat → Int32) (J : Nat → Int64) : 13 < (zf73 n w I J).length := Nat.le_of_ble_eq_true rfl
theorem zg_73_19 (n w : Nat) (I : Nat → Int32) (J : Nat → Int64) : (zf73 n w I J)[19]? = some (.int (I 19)) := rfl
set_option maxRecDepth 100000 in
theorem zs_73_19 (n w : Nat) (I : Nat → Int32) (J : Nat → Int64) (x : Int32) : zc n w (upd I 19 x) J 73 = .inr (12, (zf73 n w I J).set 19 (.int x)) := rfl
theorem zn_73_19 (n w : Nat) (I : Nat → Int32) (J : Nat → Int64) : 19 < (zf73 n w I J).length := Nat.le_of_ble_eq_true rfl
theorem zg_73_20 (n w : Nat) (I : Nat → Int32) (J : Nat → Int64) : (zf73 n w I J)[20]? = some (.int (I 20)) := rfl
set_option maxRecDepth 100000 in
theorem zs_73_20 (n w : Nat) (I : Nat → Int32) (J : Nat → Int64) (x : Int32) : zc n w (upd I 20 x) J 73 = .inr (12, (zf73 n w I J).set 20 (.int x)) := rfl
theorem zn_73_20 (n w : Nat) (I : Nat → Int32) (J : Nat → Int64) : 20 < (zf73 n w I J).length := Nat.le_of_ble_eq_true rfl
theorem zg_73_25 (n w : Nat) (I : Nat → Int32) (J : Nat → Int64) : (zf73 n w I J)[25]? = some (.int (I 25)) := rfl
set_option maxRecDepth 100000 in
theorem zs_73_25 (n w : Nat) (I : Nat → Int32) (J : Nat → Int64) (x : Int32) : zc n w (upd I 25 x) J 73 = .inr (12, (zf73 n w I J).set 25 (.int x)) := rfl
theorem zn_73_25 (n w : Nat) (I : Nat → Int32) (J : Nat → Int64) : 25 < (zf73 n w I J).length := Nat.le_of_ble_eq_true rfl
theorem zg_73_26 (n w : Nat) (I : Nat → Int32) (J : Nat → Int64) : (zf73 n w I J)[26]? = some (.int (I 26)) := rfl
set_option maxRecDepth 100000 in
theorem zs_73_26 (n w : Nat) (I : Nat → Int32) (J : Nat → Int64) (x : Int32) : zc n w (upd I 26 x) J 73 = .inr (12, (zf73 n w I J).set 26 (.int x)) := rfl
theorem zn_73_26 (n w : Nat) (I : Nat → Int32) (J : Nat → Int64) : 26 < (zf73 n w I J).length := Nat.le_of_ble_eq_true rfl
theorem zg_73_29 (n w : Nat) (I : Nat → Int32) (J : Nat → Int64) : (zf73 n w I J)[29]? = some (.int (I 29)) := rfl
set_option maxRecDepth 100000 in
theorem zs_73_29 (n w : Nat) (I : Nat → Int32) (J : Nat → Int64) (x : Int32) : zc n w (upd I 29 x) J 73 = .inr (12, (zf73 n w I J).set 29 (.int x)) := rfl
theorem zn_73_29 (n w : Nat) (I : Nat → Int32) (J : Nat → Int64) : 29 < (zf73 n w I J).length := Nat.le_of_ble_eq_true rfl
theorem zg_73_30 (n w : Nat) (I : Nat → Int32) (J : Nat → Int64) : (zf73 n w I J)[30]? = some (.int (I 30)) := rfl
set_option maxRecDepth 100000 in
theorem zs_73_30 (n w : Nat) (I : Nat → Int32) (J : Nat → Int64) (x : Int32) : zc n w (upd I 30 x) J 73 = .inr (12, (zf73 n w I J).set 30 (.int x)) := rfl
theorem zn_73_30 (n w : Nat) (I : Nat → Int32) (J : Nat → Int64) : 30 < (zf73 n w I J).length := Nat.le_of_ble_eq_true rfl
theorem zg_73_31 (n w : Nat) (I : Nat → Int32) (J : Nat → Int64) : (zf73 n w I J)[31]? = some (.int (I 31)) := rfl
set_option maxRecDepth 100000 in
theorem zs_73_31 (n w : Nat) (I : Nat → Int32) (J : Nat → Int64) (x : Int32) : zc n w (upd I 31 x) J 73 = .inr (12, (zf73 n w I J).set 31 (.int x)) := rfl
theorem zn_73_31 (n w : Nat) (I : Nat → Int32) (J : Nat → Int64) : 31 < (zf73 n w I J).length := Nat.le_of_ble_eq_true rfl
theorem zg_73_32 (n w : Nat) (I : Nat → Int32) (J : Nat → Int64) : (zf73 n w I J)[32]? = some (.int (I 32)) := rfl
set_option maxRecDepth 100000 in
theorem zs_73_32 (n w : Nat) (I : Nat → Int32) (J : Nat → Int64) (x : Int32) : zc n w (upd I 32 x) J 73 = .inr (12, (zf73 n w I J).set 32 (.int x)) := rfl
theorem zn_73_32 (n w : Nat) (I : Nat → Int32) (J : Nat → Int64) : 32 < (zf73 n w I J).length := Nat.le_of_ble_eq_true rfl
theorem zg_73_34 (n w : Nat) (I : Nat → Int32) (J : Nat → Int64) : (zf73 n w I J)[34]? = some (.int (I 34)) := rfl
set_option maxRecDepth 100000 in
theorem zs_73_34 (n w : Nat) (I : Nat → Int32) (J : Nat → Int64) (x : Int32) : zc n w (upd I 34 x) J 73 = .inr (12, (zf73 n w I J).set 34 (.int x)) := rfl
theorem zn_73_34 (n w : Nat) (I : Nat → Int32) (J : Nat → Int64) : 34 < (zf73 n w I J).length := Nat.le_of_ble_eq_true rfl
theorem zg_73_43 (n w : Nat) (I : Nat → Int32) (J : Nat → Int64) : (zf73 n w I J)[43]? = some (.int (I 43)) := rfl
set_option maxRecDepth 100000 in
theorem zs_73_43 (n w : Nat) (I : Nat → Int32) (J : Nat → Int64) (x : Int32) : zc n w (upd I 43 x) J 73 = .inr (12, (zf73 n w I J).set 43 (.int x)) := rfl
theorem zn_73_43 (n w : Nat) (I : Nat → Int32) (J : Nat → Int64) : 43 < (zf73 n w I J).length := Nat.le_of_ble_eq_true rfl
theorem zg_73_47 (n w : Nat) (I : Nat → Int32) (J : Nat → Int64) : (zf73 n w I J)[47]? = some (.int (I 47)) := rfl
set_option maxRecDepth 100000 in
theorem zs_73_47 (n w : Nat) (I : Nat → Int32) (J : Nat → Int64) (x : Int32) : zc n w (upd I 47 x) J 73 = .inr (12, (zf73 n w I J).set 47 (.int x)) := rfl
theorem zn_73_47 (n w : Nat) (I : Nat → Int32) (J : Nat → Int64) : 47 < (zf73 n w I J).length := Nat.le_of_ble_eq_true rfl
theorem zg_73_49 (n w : Nat) (I : Nat → Int32) (J : Nat → Int64) : (zf73 n w I J)[49]? = some (.int (I 49)) := rfl
set_option maxRecDepth 100000 in
theorem zs_73_49 (n w : Nat) (I : Nat → Int32) (J : Nat → Int64) (x : Int32) : zc n w (upd I 49 x) J 73 = .inr (12, (zf73 n w I J).set 49 (.int x)) := rfl
theorem zn_73_49 (n w : Nat) (I : Nat → Int32) (J : Nat → Int64) : 49 < (zf73 n w I J).length := Nat.le_of_ble_eq_true rfl
theorem zg_73_56 (n w : Nat) (I : Nat → Int32) (J : Nat → Int64) : (zf73 n w I J)[56]? = some (.int (I 56)) := rfl
set_option maxRecDepth 100000 in
theorem zs_73_56 (n w : Nat) (I : Nat → Int32) (J : Nat → Int64) (x : Int32) : zc n w (upd I 56 x) J 73 = .inr (12, (zf73 n w I J).set 56 (.int x)) := rfl
theorem zn_73_56 (n w : Nat) (I : Nat → Int32) (J : Nat → Int64) : 56 < (zf73 n w I J).length := Nat.le_of_ble_eq_true rfl
theorem zg_73_59 (n w : Nat) (I : Nat → Int32) (J : Nat → Int64) : (zf73 n w I J)[59]? = some (.int (I 59)) := rfl
set_option maxRecDepth 100000 in
theorem zs_73_59 (n w : Nat) (I : Nat → Int32) (J : Nat → Int64) (x : Int32) : zc n w (upd I 59 x) J 73 = .inr (12, (zf73 n w I J).set 59 (.int x)) := rfl
theorem zn_73_59 (n w : Nat) (I : Nat → Int32) (J : Nat → Int64) : 59 < (zf73 n w I J).length := Nat.le_of_ble_eq_true rfl
theorem zg_73_60 (n w : Nat) (I : Nat → Int32) (J : Nat → Int64) : (zf73 n w I J)[60]? = some (.int (I 60)) := rfl
set_option maxRecDepth 100000 in
theorem zs_73_60 (n w : Nat) (I : Nat → Int32) (J : Nat → Int64) (x : Int32) : zc n w (upd I 60 x) J 73 = .inr (12, (zf73 n w I J).set 60 (.int x)) := rfl
theorem zn_73_60 (n w : Nat) (I : Nat → Int32) (J : Nat → Int64) : 60 < (zf73 n w I J).length := Nat.le_of_ble_eq_true rfl
theorem zg_73_61 (n w : Nat) (I : Nat → Int32) (J : Nat → Int64) : (zf73 n w I J)[61]? = some (.int (I 61)) := rfl
set_option maxRecDepth 100000 in
theorem zs_73_61 (n w : Nat) (I : Nat → Int32) (J : Nat → Int64) (x : Int32) : zc n w (upd I 61 x) J 73 = .inr (12, (zf73 n w I J).set 61 (.int x)) := rfl
theorem zn_73_61 (n w : Nat) (I : Nat → Int32) (J : Nat → Int64) : 61 < (zf73 n w I J).length := Nat.le_of_ble_eq_true rfl
theorem zg_73_62 (n w : Nat) (I : Nat → Int32) (J : Nat → Int64) : (zf73 n w I J)[62]? = some (.int (I 62)) := rfl
set_option maxRecDepth 100000 in
theorem zs_73_62 (n w : Nat) (I : Nat → Int32) (J : Nat → Int64) (x : Int32) : zc n w (upd I 62 x) J 73 = .inr (12, (zf73 n w I J).set 62 (.int x)) := rfl
theorem zn_73_62 (n w : Nat) (I : Nat → Int32) (J : Nat → Int64) : 62 < (zf73 n w I J).length := Nat.le_of_ble_eq_true rfl
theorem zg_73_63 (n w : Nat) (I : Nat → Int32) (J : Nat → Int64) : (zf73 n w I J)[63]? = some (.int (I 63)) := rfl
set_option maxRecDepth 100000 in
theorem zs_73_63 (n w : Nat) (I : Nat → Int32) (J : Nat → Int64) (x : Int32) : zc n w (upd I 63 x) J 73 = .inr (12, (zf73 n w I J).set 63 (.int x)) := rfl
theorem zn_73_63 (n w : Nat) (I : Nat → Int32) (J : Nat → Int64) : 63 < (zf73 n w I J).length := Nat.le_of_ble_eq_true rfl
theorem zg_73_65 (n w : Nat) (I : Nat → Int32) (J : Nat → Int64) : (zf73 n w I J)[65]? = some (.int (I 65)) := rfl
set_option maxRecDepth 100000 in
theorem zs_73_65 (n w : Nat) (I : Nat → Int32) (J : Nat → Int64) (x : Int32) : zc n w (upd I 65 x) J 73 = .inr (12, (zf73 n w I J).set 65 (.int x)) := rfl
theorem zn_73_65 (n w : Nat) (I : Nat → Int32) (J : Nat → Int64) : 65 < (zf73 n w I J).length := Nat.le_of_ble_eq_true rfl
theorem zg_73_66 (n w : Nat) (I : Nat → Int32) (J : Nat → Int64) : (zf73 n w I J)[66]? = some (.int (I 66)) := rfl
set_option maxRecDepth 100000 in
theorem zs_73_66 (n w : Nat) (I : Nat → Int32) (J : Nat → Int64) (x : Int32) : zc n w (upd I 66 x) J 73 = .inr (12, (zf73 n w I J).set 66 (.int x)) := rfl
theorem zn_73_66 (n w : Nat) (I : Nat → Int32) (J : Nat → Int64) : 66 < (zf73 n w I J).length := Nat.le_of_ble_eq_true rfl
theorem zg_73_67 (n w : Nat) (I : Nat → Int32) (J : Nat → Int64) : (zf73 n w I J)[67]? = some (.int (I 67)) := rfl
set_option maxRecDepth 100000 in
theorem zs_73_67 (n w : Nat) (I : Nat → Int32) (J : Nat → Int64) (x : Int32) : zc n w (upd I 67 x) J 73 = .inr (12, (zf73 n w I J).set 67 (.int x)) := rfl
theorem zn_73_67 (n w : Nat) (I : Nat → Int32) (J : Nat → Int64) : 67 < (zf73 n w I J).length := Nat.le_of_ble_eq_true rfl
theorem zg_73_68 (n w : Nat) (I : Nat → Int32) (J : Nat → Int64) : (zf73 n w I J)[68]? = some (.int (I 68)) := rfl
set_option maxRecDepth 100000 in
theorem zs_73_68 (n w : Nat) (I : Nat → Int32) (J : Nat → Int64) (x : Int32) : zc n w (upd I 68 x) J 73 = .inr (12, (zf73 n w I J).set 68 (.int x)) := rfl
theorem zn_73_68 (n w : Nat) (I : Nat → Int32) (J : Nat → Int64) : 68 < (zf73 n w I J).length := Nat.le_of_ble_eq_true rfl
theorem zg_73_69 (n w : Nat) (I : Nat → Int32) (J : Nat → Int64) : (zf73 n w I J)[69]? = some (.int (I 69)) := rfl
set_option maxRecDepth 100000 in
theorem zs_73_69 (n w : Nat) (I : Nat → Int32) (J : Nat → Int64) (x : Int32) : zc n w (upd I 69 x) J 73 = .inr (12, (zf73 n w I J).set 69 (.int x)) := rfl
theorem zn_73_69 (n w : Nat) (I : Nat → Int32) (J : Nat → Int64) : 69 < (zf73 n w I J).length := Nat.le_of_ble_eq_true rfl
theorem zg_73_70 (n w : Nat) (I : Nat → Int32) (J : Nat → Int64) : (zf73 n w I J)[70]? = some (.int (I 70)) := rfl
set_option maxRecDepth 100000 in
theorem zs_73_70 (n w : Nat) (I : Nat → Int32) (J : Nat → Int64) (x : Int32) : zc n w (upd I 70 x) J 73 = .inr (12, (zf73 n w I J).set 70 (.int x)) := rfl
theorem zn_73_70 (n w : Nat) (I : Nat → Int32) (J : Nat → Int64) : 70 < (zf73 n w I J).length := Nat.le_of_ble_eq_true rfl
theorem zg_73_75 (n w : Nat) (I : Nat → Int32) (J : Nat → Int64) : (zf73 n w I J)[75]? = some (.int (I 75)) := rfl
set_option maxRecDepth 100000 in
theorem zs_73_75 (n w : Nat) (I : Nat → Int32) (J : Nat → Int64) (x : Int32) : zc n w (upd I 75 x) J 73 = .inr (12, (zf73 n w I J).set 75 (.int x)) := rfl
theorem zn_73_75 (n w : Nat) (I : Nat → Int32) (J : Nat → Int64) : 75 < (zf73 n w I J).length := Nat.le_of_ble_eq_true rfl
theorem zg_73_83 (n w : Nat) (I : Nat → Int32) (J : Nat → Int64) : (zf73 n w I J)[83]? = some (.int (I 83)) := rfl
set_option maxRecDepth 100000 in
theorem zs_73_83 (n w : Nat) (I : Nat → Int32) (J : Nat → Int64) (x : Int32) : zc n w (upd I 83 x) J 73 = .inr (12, (zf73 n w I J).set 83 (.int x)) := rfl
theorem zn_73_83 (n w : Nat) (I : Nat → Int32) (J : Nat → Int64) : 83 < (zf73 n w I J).length := Nat.le_of_ble_eq_true rfl
theorem zg_73_85 (n w : Nat) (I : Nat → Int32) (J : Nat → Int64) : (zf73 n w I J)[85]? = some (.int (I 85)) := rfl
set_option maxRecDepth 100000 in
theorem zs_73_85 (n w : Nat) (I : Nat → Int32) (J : Nat → Int64) (x : Int32) : zc n w (upd I 85 x) J 73 = .inr (12, (zf73 n w I J).set 85 (.int x)) := rfl
theorem zn_73_85 (n w : Nat) (I : Nat → Int32) (J : Nat → Int64) : 85 < (zf73 n w I J).length := Nat.le_of_ble_eq_true rfl
theorem zg_73_94 (n w : Nat) (I : Nat → Int32) (J : Nat → Int64) : (zf73 n w I J)[94]? = some (.int (I 94)) := rfl
set_option maxRecDepth 100000 in
theorem zs_73_94 (n w : Nat) (I : Nat → Int32) (J : Nat → Int64) (x : Int32) : zc n w (upd I 94 x) J 73 = .inr (12, (zf73 n w I J).set 94 (.int x)) := rfl
theorem zn_73_94 (n w : Nat) (I : Nat → Int32) (J : Nat → Int64) : 94 < (zf73 n w I J).length := Nat.le_of_ble_eq_true rfl
theorem zg_73_97 (n w : Nat) (I : Nat → Int32) (J : Nat → Int64) : (zf73 n w I J)[97]? = some (.int (I 97)) := rfl
set_option maxRecDepth 100000 in
theorem zs_73_97 (n w : Nat) (I : Nat → Int32) (J : Nat → Int64) (x : Int32) : zc n w (upd I 97 x) J 73 = .inr (12, (zf73 n w I J).set 97 (.int x)) := rfl
theorem zn_73_97 (n w : Nat) (I : Nat → Int32) (J : Nat → Int64) : 97 < (zf73 n w I J).length := Nat.le_of_ble_eq_true rfl
theorem zg_73_101 (n w : Nat) (I : Nat → Int32) (J : Nat → Int64) : (zf73 n w I J)[101]? = some (.int (I 101)) := rfl
set_option maxRecDepth 100000 in
theorem zs_73_101 (n w : Nat) (I : Nat → Int32) (J : Nat → Int64) (x : Int32) : zc n w (upd I 101 x) J 73 = .inr (12, (zf73 n w I J).set 101 (.int x)) := rfl
theorem zn_73_101 (n w : Nat) (I : Nat → Int32) (J : Nat → Int64) : 101 < (zf73 n w I J).length := Nat.le_of_ble_eq_true rfl
theorem zg_73_110 (n w : Nat) (I : Nat → Int32) (J : Nat → Int64) : (zf73 n w I J)[110]? = some (.int (I 110)) := rfl
set_option maxRecDepth 100000 in
theorem zs_73_110 (n w : Nat) (I : Nat → Int32) (J : Nat → Int64) (x : Int32) : zc n w (upd I 110 x) J 73 = .inr (12, (zf73 n w I J).set 110 (.int x)) := rfl
theorem zn_73_110 (n w : Nat) (I : Nat → Int32) (J : Nat → Int64) : 110 < (zf73 n w I J).length := Nat.le_of_ble_eq_true rfl
theorem zg_73_115 (n w : Nat) (I : Nat → Int32) (J : Nat → Int64) : (zf73 n w I J)[115]? = some (.int (I 115)) := rfl
set_option maxRecDepth 100000 in
theorem zs_73_115 (n w : Nat) (I : Nat → Int32) (J : Nat → Int64) (x : Int32) : zc n w (upd I 115 x) J 73 = .inr (12, (zf73 n w I J).set 115 (.int x)) := rfl
theorem zn_73_115 (n w : Nat) (I : Nat → Int32) (J : Nat → Int64) : 115 < (zf73 n w I J).length := Nat.le_of_ble_eq_true rfl
theorem zg_73_118 (n w : Nat) (I : Nat → Int32) (J : Nat → Int64) : (zf73 n w I J)[118]? = some (.int (I 118)) := rfl
set_option maxRecDepth 100000 in
theorem zs_73_118 (n w : Nat) (I : Nat → Int32) (J : Nat → Int64) (x : Int32) : zc n w (upd I 118 x) J 73 = .inr (12, (zf73 n w I J).set 118 (.int x)) := rfl
theorem zn_73_118 (n w : Nat) (I : Nat → Int32) (J : Nat → Int64) : 118 < (zf73 n w I J).length := Nat.le_of_ble_eq_true rfl
theorem zg_73_119 (n w : Nat) (I : Nat → Int32) (J : Nat → Int64) : (zf73 n w I J)[119]? = some (.int (I 119)) := rfl
set_option maxRecDepth 100000 in
theorem zs_73_119 (n w : Nat) (I : Nat → Int32) (J : Nat → Int64) (x : Int32) : zc n w (upd I 119 x) J 73 = .inr (12, (zf73 n w I J).set 119 (.int x)) := rfl
theorem zn_73_119 (n w : Nat) (I : Nat → Int32) (J : Nat → Int64) : 119 < (zf73 n w I J).length := Nat.le_of_ble_eq_true rfl
theorem zg_73_120 (n w : Nat) (I : Nat → Int32) (J : Nat → Int64) : (zf73 n w I J)[120]? = some (.int (I 120)) := rfl
set_option maxRecDepth 100000 in
theorem zs_73_120 (n w : Nat) (I : Nat → Int32) (J : Nat → Int64) (x : Int32) : zc n w (upd I 120 x) J 73 = .inr (12, (zf73 n w I J).set 120 (.int x)) := rfl
theorem zn_73_120 (n w : Nat) (I : Nat → Int32) (J : Nat → Int64) : 120 < (zf73 n w I J).length := Nat.le_of_ble_eq_true rfl
theorem zg_73_121 (n w : Nat) (I : Nat → Int32) (J : Nat → Int64) : (zf73 n w I J)[121]? = some (.int (I 121)) := rfl
set_option maxRecDepth 100000 in
theorem zs_73_121 (n w : Nat) (I : Nat → Int32) (J : Nat → Int64) (x : Int32) : zc n w (upd I 121 x) J 73 = .inr (12, (zf73 n w I J).set 121 (.int x)) := rfl
theorem zn_73_121 (n w : Nat) (I : Nat → Int32) (J : Nat → Int64) : 121 < (zf73 n w I J).length := Nat.le_of_ble_eq_true rfl
theorem zg_73_122 (n w : Nat) (I : Nat → Int32) (J : Nat → Int64) : (zf73 n w I J)[122]? = some (.int (I 122)) := rfl
set_option maxRecDepth 100000 in
theorem zs_73_122 (n w : Nat) (I : Nat → Int32) (J : Nat → Int64) (x : Int32) : zc n w (upd I 122 x) J 73 = .inr (12, (zf73 n w I J).set 122 (.int x)) := rfl
theorem zn_73_122 (n w : Nat) (I : Nat → Int32) (J : Nat → Int64) : 122 < (zf73 n w I J).length := Nat.le_of_ble_eq_true rfl
theorem zg_73_124 (n w : Nat) (I : Nat → Int32) (J : Nat → Int64) : (zf73 n w I J)[124]? = some (.int (I 124)) := rfl
set_option maxRecDepth 100000 in
theorem zs_73_124 (n w : Nat) (I : Nat → Int32) (J : Nat → Int64) (x : Int32) : zc n w (upd I 124 x) J 73 = .inr (12, (zf73 n w I J).set 124 (.int x)) := rfl
theorem zn_73_124 (n w : Nat) (I : Nat → Int32) (J : Nat → Int64) : 124 < (zf73 n w I J).length := Nat.le_of_ble_eq_true rfl
theorem zg_73_131 (n w : Nat) (I : Nat → Int32) (J : Nat → Int64) : (zf73 n w I J)[131]? = some (.int (I 131)) := rfl
set_option maxRecDepth 100000 in
theorem zs_73_131 (n w : Nat) (I : Nat → Int32) (J : Nat → Int64) (x : Int32) : zc n w (upd I 131 x) J 73 = .inr (12, (zf73 n w I J).set 131 (.int x)) := rfl
theorem zn_73_131 (n w : Nat) (I : Nat → Int32) (J : Nat → Int64) : 131 < (zf73 n w I J).length := Nat.le_of_ble_eq_true rfl
theorem zg_73_139 (n w : Nat) (I : Nat → Int32) (J : Nat → Int64) : (zf73 n w I J)[139]? = some (.int (I 139)) := rfl
set_option maxRecDepth 100000 in
theorem zs_73_139 (n w : Nat) (I : Nat → Int32) (J : Nat → Int64) (x : Int32) : zc n w (upd I 139 x) J 73 = .inr (12, (zf73 n w I J).set 139 (.int x)) := rfl
theorem zn_73_139 (n w : Nat) (I : Nat → Int32) (J : Nat → Int64) : 139 < (zf73 n w I J).length := Nat.le_of_ble_eq_true rfl
theorem zg_73_140 (n w : Nat) (I : Nat → Int32) (J : Nat → Int64) : (zf73 n w I J)[140]? = some (.int (I 140)) := rfl
set_option maxRecDepth 100000 in
theorem zs_73_140 (n w : Nat) (I : Nat → Int32) (J : Nat → Int64) (x : Int32) : zc n w (upd I 140 x) J 73 = .inr (12, (zf73 n w I J).set 140 (.int x)) := rfl
theorem zn_73_140 (n w : Nat) (I : Nat → Int32) (J : Nat → Int64) : 140 < (zf73 n w I J).length := Nat.le_of_ble_eq_true rfl
theorem zg_73_145 (n w : Nat) (I : Nat → Int32) (J : Nat → Int64) : (zf73 n w I J)[145]? = some (.int (I 145)) := rfl
set_option maxRecDepth 100000 in
theorem zs_73_145 (n w : Nat) (I : Nat → Int32) (J : Nat → Int64) (x : Int32) : zc n w (upd I 145 x) J 73 = .inr (12, (zf73 n w I J).set 145 (.int x)) := rfl
theorem zn_73_145 (n w : Nat) (I : Nat → Int32) (J : Nat → Int64) : 145 < (zf73 n w I J).length := Nat.le_of_ble_eq_true rfl
def z0 : zS := (fun c k => if c = 3 ∧ k = 6 then (-1) else if c = 59 ∧ k = 4 then 1 else if c = 73 ∧ k = 8 then (-1) else if c = 73 ∧ k = 120 then 1 else 0, fun _ _ => 0)
def zMv (l : Launch) (Gr : zG) (zc : zC) (K : Nat) (M : ip_M) (d : Nat) (As : List Value) (S : zS) (R : zS → Prop) : Prop := zM l Gr zc K M d As S (fun v S' => v = none ∧ R S')
def zMi (l : Launch) (Gr : zG) (zc : zC) (K : Nat) (M : ip_M) (d : Nat) (As : List Value) (S : zS) (R : Int32 → zS → Prop) : Prop := zM l Gr zc K M d As S (fun v S' => ∃ x, v = some (.int x) ∧ R x S')
def zMl (l : Launch) (Gr : zG) (zc : zC) (K : Nat) (M : ip_M) (d : Nat) (As : List Value) (S : zS) (R : Int64 → zS → Prop) : Prop := zM l Gr zc K M d As S (fun v S' => ∃ x, v = some (.long x) ∧ R x S')
section ZD
variable {l : Launch} {Gr : zG} {zc : zC} {K : Nat} {M : ip_M} {d : Nat} {As : List Value} {S : zS}
theorem z_mv {R : zS → Prop} (hM : ip_okM lg_tbl M) (hr : M.2.2.2 = none) (hn : (ip_ent0 As).length ≤ M.2.2.1) (k : zW l Gr zc K M d 0 (ip_ent As M.2.2.1) [] S (fun v S' => v = none ∧ R S')) : zMv l Gr zc K M d As S R :=
  z_ofW hM hn (z_imp k (fun v S' q => ⟨by rw [hr, q.1]; trivial, q⟩))
theorem z_mi {R : Int32 → zS → Prop} (hM : ip_okM lg_tbl M) (hr : M.2.2.2 = some .int) (hn : (ip_ent0 As).length ≤ M.2.2.1) (k : zW l Gr zc K M d 0 (ip_ent As M.2.2.1) [] S (fun v S' => ∃ x, v = some (.int x) ∧ R x S')) : zMi l Gr zc K M d As S R :=
  z_ofW hM hn (z_imp k (fun v S' q => ⟨by obtain ⟨x, rfl, _⟩ := q; rw [hr]; exact ⟨rfl, by decide⟩, q⟩))
theorem z_mb {R : Int32 → zS → Prop} (hM : ip_okM lg_tbl M) (hr : M.2.2.2 = some .boolean) (hn : (ip_ent0 As).length ≤ M.2.2.1) (k : zW l Gr zc K M d 0 (ip_ent As M.2.2.1) [] S (fun v S' => ∃ x, v = some (.int x) ∧ (x = 0 ∨ x = 1) ∧ R x S')) : zMi l Gr zc K M d As S R :=
  z_ofW hM hn (z_imp k (fun v S' q => by
    obtain ⟨x, rfl, h, r⟩ := q
    refine ⟨?_, x, rfl, r⟩
    rw [hr]
    rcases h with rfl | rfl <;> exact ⟨rfl, by decide⟩))
theorem z_ml {R : Int64 → zS → Prop} (hM : ip_okM lg_tbl M) (hr : M.2.2.2 = some .long) (hn : (ip_ent0 As).length ≤ M.2.2.1) (k : zW l Gr zc K M d 0 (ip_ent As M.2.2.1) [] S (fun v S' => ∃ x, v = some (.long x) ∧ R x S')) : zMl l Gr zc K M d As S R :=
  z_ofW hM hn (z_imp k (fun v S' q => ⟨by obtain ⟨x, rfl, _⟩ := q; rw [hr]; trivial, q⟩))
theorem zMv_imp {R R' : zS → Prop} (k : zMv l Gr zc K M d As S R') (h : ∀ S', R' S' → R S') : zMv l Gr zc K M d As S R := zM_imp k (fun v S' q => ⟨q.1, h _ q.2⟩)
theorem zMi_imp {R R' : Int32 → zS → Prop} (k : zMi l Gr zc K M d As S R') (h : ∀ v S', R' v S' → R v S') : zMi l Gr zc K M d As S R := zM_imp k (fun v S' q => by obtain ⟨x, e, r⟩ := q; exact ⟨x, e, h _ _ r⟩)
theorem zMl_imp {R R' : Int64 → zS → Prop} (k : zMl l Gr zc K M d As S R') (h : ∀ v S', R' v S' → R v S') : zMl l Gr zc K M d As S R := zM_imp k (fun v S' q => by obtain ⟨x, e, r⟩ := q; exact ⟨x, e, h _ _ r⟩)
end ZD
