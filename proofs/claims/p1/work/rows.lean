section
-- ===== PART A: goes FIRST, ahead of the names: the tables' words, and 'selects' of the private methods out of them =====
/-- a private method of a class that the tables say can be made, by its rows of tables_1 -/
def lw_okq (q : MethodName × Nat) : Prop := (q.1.cls ≠ "java/lang/invoke/MethodHandle" ∧ q.1.cls ≠ "java/lang/invoke/VarHandle") ∧ Cond.instantiable q.1.cls q.2 ∈ tables_1 ∧ Cond.privateMethod q.1 ∈ tables_1 ∧ Cond.instanceMethod q.1 ∈ tables_1
theorem lw_p0 : lw_okq (⟨"ShareHouse", "putReady", "(II)V"⟩, 17) := ⟨⟨by decide +kernel, by decide +kernel⟩, List.mem_of_getElem? (i := 23) (by decide +kernel), List.mem_of_getElem? (i := 617) (by decide +kernel), List.mem_of_getElem? (i := 618) (by decide +kernel)⟩
theorem lw_p1 : lw_okq (⟨"ShareHouse$Words", "skipBlanks", "()V"⟩, 5) := ⟨⟨by decide +kernel, by decide +kernel⟩, List.mem_of_getElem? (i := 272) (by decide +kernel), List.mem_of_getElem? (i := 665) (by decide +kernel), List.mem_of_getElem? (i := 666) (by decide +kernel)⟩
theorem lw_p2 : lw_okq (⟨"ShareHouse$Words", "wordKind", "()I"⟩, 5) := ⟨⟨by decide +kernel, by decide +kernel⟩, List.mem_of_getElem? (i := 272) (by decide +kernel), List.mem_of_getElem? (i := 675) (by decide +kernel), List.mem_of_getElem? (i := 676) (by decide +kernel)⟩
theorem lw_p3 : lw_okq (⟨"ShareHouse$Reader", "readInput", "()V"⟩, 11) := ⟨⟨by decide +kernel, by decide +kernel⟩, List.mem_of_getElem? (i := 266) (by decide +kernel), List.mem_of_getElem? (i := 731) (by decide +kernel), List.mem_of_getElem? (i := 732) (by decide +kernel)⟩
theorem lw_p4 : lw_okq (⟨"ShareHouse$Reader", "takeName", "()I"⟩, 11) := ⟨⟨by decide +kernel, by decide +kernel⟩, List.mem_of_getElem? (i := 266) (by decide +kernel), List.mem_of_getElem? (i := 736) (by decide +kernel), List.mem_of_getElem? (i := 737) (by decide +kernel)⟩
theorem lw_p5 : lw_okq (⟨"ShareHouse$Reader", "expect", "(I)V"⟩, 11) := ⟨⟨by decide +kernel, by decide +kernel⟩, List.mem_of_getElem? (i := 266) (by decide +kernel), List.mem_of_getElem? (i := 744) (by decide +kernel), List.mem_of_getElem? (i := 745) (by decide +kernel)⟩
theorem lw_p6 : lw_okq (⟨"ShareHouse$Reader", "takeNumber", "(JJ)J"⟩, 11) := ⟨⟨by decide +kernel, by decide +kernel⟩, List.mem_of_getElem? (i := 266) (by decide +kernel), List.mem_of_getElem? (i := 748) (by decide +kernel), List.mem_of_getElem? (i := 749) (by decide +kernel)⟩
theorem lw_p7 : lw_okq (⟨"ShareHouse$Reader", "takeTyped", "(III)I"⟩, 11) := ⟨⟨by decide +kernel, by decide +kernel⟩, List.mem_of_getElem? (i := 266) (by decide +kernel), List.mem_of_getElem? (i := 759) (by decide +kernel), List.mem_of_getElem? (i := 760) (by decide +kernel)⟩
theorem lw_p8 : lw_okq (⟨"ShareHouse$Reader", "takeSort", "()I"⟩, 11) := ⟨⟨by decide +kernel, by decide +kernel⟩, List.mem_of_getElem? (i := 266) (by decide +kernel), List.mem_of_getElem? (i := 763) (by decide +kernel), List.mem_of_getElem? (i := 764) (by decide +kernel)⟩
theorem lw_p9 : lw_okq (⟨"ShareHouse$Names", "stopOf", "(I)I"⟩, 13) := ⟨⟨by decide +kernel, by decide +kernel⟩, List.mem_of_getElem? (i := 84) (by decide +kernel), List.mem_of_getElem? (i := 788) (by decide +kernel), List.mem_of_getElem? (i := 789) (by decide +kernel)⟩
theorem lw_p10 : lw_okq (⟨"ShareHouse$Reader", "readDef", "()V"⟩, 11) := ⟨⟨by decide +kernel, by decide +kernel⟩, List.mem_of_getElem? (i := 266) (by decide +kernel), List.mem_of_getElem? (i := 811) (by decide +kernel), List.mem_of_getElem? (i := 812) (by decide +kernel)⟩
theorem lw_p11 : lw_okq (⟨"ShareHouse$Reader", "readParam", "(I)V"⟩, 11) := ⟨⟨by decide +kernel, by decide +kernel⟩, List.mem_of_getElem? (i := 266) (by decide +kernel), List.mem_of_getElem? (i := 815) (by decide +kernel), List.mem_of_getElem? (i := 816) (by decide +kernel)⟩
theorem lw_p12 : lw_okq (⟨"ShareHouse$Reader", "readExpr", "(I)V"⟩, 11) := ⟨⟨by decide +kernel, by decide +kernel⟩, List.mem_of_getElem? (i := 266) (by decide +kernel), List.mem_of_getElem? (i := 819) (by decide +kernel), List.mem_of_getElem? (i := 820) (by decide +kernel)⟩
theorem lw_p13 : lw_okq (⟨"ShareHouse$Reader", "readChoice", "(I)V"⟩, 11) := ⟨⟨by decide +kernel, by decide +kernel⟩, List.mem_of_getElem? (i := 266) (by decide +kernel), List.mem_of_getElem? (i := 823) (by decide +kernel), List.mem_of_getElem? (i := 824) (by decide +kernel)⟩
theorem lw_p14 : lw_okq (⟨"ShareHouse$Reader", "readFactor", "(I)V"⟩, 11) := ⟨⟨by decide +kernel, by decide +kernel⟩, List.mem_of_getElem? (i := 266) (by decide +kernel), List.mem_of_getElem? (i := 827) (by decide +kernel), List.mem_of_getElem? (i := 828) (by decide +kernel)⟩
theorem lw_p15 : lw_okq (⟨"ShareHouse$Reader", "opens", "(II)Z"⟩, 11) := ⟨⟨by decide +kernel, by decide +kernel⟩, List.mem_of_getElem? (i := 266) (by decide +kernel), List.mem_of_getElem? (i := 831) (by decide +kernel), List.mem_of_getElem? (i := 832) (by decide +kernel)⟩
def lw_privs_1 : List (MethodName × Nat) := [(⟨"ShareHouse", "putReady", "(II)V"⟩, 17), (⟨"ShareHouse$Words", "skipBlanks", "()V"⟩, 5), (⟨"ShareHouse$Words", "wordKind", "()I"⟩, 5), (⟨"ShareHouse$Reader", "readInput", "()V"⟩, 11), (⟨"ShareHouse$Reader", "takeName", "()I"⟩, 11), (⟨"ShareHouse$Reader", "expect", "(I)V"⟩, 11), (⟨"ShareHouse$Reader", "takeNumber", "(JJ)J"⟩, 11), (⟨"ShareHouse$Reader", "takeTyped", "(III)I"⟩, 11), (⟨"ShareHouse$Reader", "takeSort", "()I"⟩, 11), (⟨"ShareHouse$Names", "stopOf", "(I)I"⟩, 13), (⟨"ShareHouse$Reader", "readDef", "()V"⟩, 11), (⟨"ShareHouse$Reader", "readParam", "(I)V"⟩, 11), (⟨"ShareHouse$Reader", "readExpr", "(I)V"⟩, 11), (⟨"ShareHouse$Reader", "readChoice", "(I)V"⟩, 11), (⟨"ShareHouse$Reader", "readFactor", "(I)V"⟩, 11), (⟨"ShareHouse$Reader", "opens", "(II)Z"⟩, 11)]
theorem lw_r1 : ∀ q ∈ lw_privs_1, lw_okq q := List.forall_mem_cons.mpr ⟨lw_p0, List.forall_mem_cons.mpr ⟨lw_p1, List.forall_mem_cons.mpr ⟨lw_p2, List.forall_mem_cons.mpr ⟨lw_p3, List.forall_mem_cons.mpr ⟨lw_p4, List.forall_mem_cons.mpr ⟨lw_p5, List.forall_mem_cons.mpr ⟨lw_p6, List.forall_mem_cons.mpr ⟨lw_p7, List.forall_mem_cons.mpr ⟨lw_p8, List.forall_mem_cons.mpr ⟨lw_p9, List.forall_mem_cons.mpr ⟨lw_p10, List.forall_mem_cons.mpr ⟨lw_p11, List.forall_mem_cons.mpr ⟨lw_p12, List.forall_mem_cons.mpr ⟨lw_p13, List.forall_mem_cons.mpr ⟨lw_p14, List.forall_mem_cons.mpr ⟨lw_p15, fun _ h => absurd h List.not_mem_nil⟩⟩⟩⟩⟩⟩⟩⟩⟩⟩⟩⟩⟩⟩⟩⟩
theorem lw_p16 : lw_okq (⟨"ShareHouse$Reader", "readNamed", "(I)V"⟩, 11) := ⟨⟨by decide +kernel, by decide +kernel⟩, List.mem_of_getElem? (i := 266) (by decide +kernel), List.mem_of_getElem? (i := 836) (by decide +kernel), List.mem_of_getElem? (i := 837) (by decide +kernel)⟩
theorem lw_p17 : lw_okq (⟨"ShareHouse$Reader", "readIndex", "(II)V"⟩, 11) := ⟨⟨by decide +kernel, by decide +kernel⟩, List.mem_of_getElem? (i := 266) (by decide +kernel), List.mem_of_getElem? (i := 840) (by decide +kernel), List.mem_of_getElem? (i := 841) (by decide +kernel)⟩
theorem lw_p18 : lw_okq (⟨"ShareHouse$Reader", "readCall", "(II)V"⟩, 11) := ⟨⟨by decide +kernel, by decide +kernel⟩, List.mem_of_getElem? (i := 266) (by decide +kernel), List.mem_of_getElem? (i := 844) (by decide +kernel), List.mem_of_getElem? (i := 845) (by decide +kernel)⟩
theorem lw_p19 : lw_okq (⟨"ShareHouse$Reader", "readConversion", "(ZI)V"⟩, 11) := ⟨⟨by decide +kernel, by decide +kernel⟩, List.mem_of_getElem? (i := 266) (by decide +kernel), List.mem_of_getElem? (i := 849) (by decide +kernel), List.mem_of_getElem? (i := 850) (by decide +kernel)⟩
theorem lw_p20 : lw_okq (⟨"ShareHouse$Reader", "settle", "(II)V"⟩, 11) := ⟨⟨by decide +kernel, by decide +kernel⟩, List.mem_of_getElem? (i := 266) (by decide +kernel), List.mem_of_getElem? (i := 861) (by decide +kernel), List.mem_of_getElem? (i := 862) (by decide +kernel)⟩
theorem lw_p21 : lw_okq (⟨"ShareHouse$Reader", "readOutput", "()V"⟩, 11) := ⟨⟨by decide +kernel, by decide +kernel⟩, List.mem_of_getElem? (i := 266) (by decide +kernel), List.mem_of_getElem? (i := 865) (by decide +kernel), List.mem_of_getElem? (i := 866) (by decide +kernel)⟩
theorem lw_p22 : lw_okq (⟨"ShareHouse$Reader", "readStatement", "(I)V"⟩, 11) := ⟨⟨by decide +kernel, by decide +kernel⟩, List.mem_of_getElem? (i := 266) (by decide +kernel), List.mem_of_getElem? (i := 869) (by decide +kernel), List.mem_of_getElem? (i := 870) (by decide +kernel)⟩
theorem lw_p23 : lw_okq (⟨"ShareHouse$Reader", "readVar", "(I)V"⟩, 11) := ⟨⟨by decide +kernel, by decide +kernel⟩, List.mem_of_getElem? (i := 266) (by decide +kernel), List.mem_of_getElem? (i := 873) (by decide +kernel), List.mem_of_getElem? (i := 874) (by decide +kernel)⟩
theorem lw_p24 : lw_okq (⟨"ShareHouse$Reader", "readAssignment", "(I)V"⟩, 11) := ⟨⟨by decide +kernel, by decide +kernel⟩, List.mem_of_getElem? (i := 266) (by decide +kernel), List.mem_of_getElem? (i := 877) (by decide +kernel), List.mem_of_getElem? (i := 878) (by decide +kernel)⟩
theorem lw_p25 : lw_okq (⟨"ShareHouse$Reader", "readIf", "(I)V"⟩, 11) := ⟨⟨by decide +kernel, by decide +kernel⟩, List.mem_of_getElem? (i := 266) (by decide +kernel), List.mem_of_getElem? (i := 881) (by decide +kernel), List.mem_of_getElem? (i := 882) (by decide +kernel)⟩
theorem lw_p26 : lw_okq (⟨"ShareHouse$Reader", "readBlock", "(I)V"⟩, 11) := ⟨⟨by decide +kernel, by decide +kernel⟩, List.mem_of_getElem? (i := 266) (by decide +kernel), List.mem_of_getElem? (i := 885) (by decide +kernel), List.mem_of_getElem? (i := 886) (by decide +kernel)⟩
theorem lw_p27 : lw_okq (⟨"ShareHouse$Reader", "readFor", "(I)V"⟩, 11) := ⟨⟨by decide +kernel, by decide +kernel⟩, List.mem_of_getElem? (i := 266) (by decide +kernel), List.mem_of_getElem? (i := 889) (by decide +kernel), List.mem_of_getElem? (i := 890) (by decide +kernel)⟩
theorem lw_p28 : lw_okq (⟨"ShareHouse$Sorts", "checkStatement", "(II)V"⟩, 11) := ⟨⟨by decide +kernel, by decide +kernel⟩, List.mem_of_getElem? (i := 331) (by decide +kernel), List.mem_of_getElem? (i := 897) (by decide +kernel), List.mem_of_getElem? (i := 898) (by decide +kernel)⟩
theorem lw_p29 : lw_okq (⟨"ShareHouse$Sorts", "comeIn", "(I)V"⟩, 11) := ⟨⟨by decide +kernel, by decide +kernel⟩, List.mem_of_getElem? (i := 331) (by decide +kernel), List.mem_of_getElem? (i := 901) (by decide +kernel), List.mem_of_getElem? (i := 902) (by decide +kernel)⟩
theorem lw_p30 : lw_okq (⟨"ShareHouse$Names", "isSame", "(III)Z"⟩, 13) := ⟨⟨by decide +kernel, by decide +kernel⟩, List.mem_of_getElem? (i := 84) (by decide +kernel), List.mem_of_getElem? (i := 909) (by decide +kernel), List.mem_of_getElem? (i := 910) (by decide +kernel)⟩
theorem lw_p31 : lw_okq (⟨"ShareHouse$Sorts", "mustBe", "(II)I"⟩, 11) := ⟨⟨by decide +kernel, by decide +kernel⟩, List.mem_of_getElem? (i := 331) (by decide +kernel), List.mem_of_getElem? (i := 922) (by decide +kernel), List.mem_of_getElem? (i := 923) (by decide +kernel)⟩
def lw_privs_2 : List (MethodName × Nat) := [(⟨"ShareHouse$Reader", "readNamed", "(I)V"⟩, 11), (⟨"ShareHouse$Reader", "readIndex", "(II)V"⟩, 11), (⟨"ShareHouse$Reader", "readCall", "(II)V"⟩, 11), (⟨"ShareHouse$Reader", "readConversion", "(ZI)V"⟩, 11), (⟨"ShareHouse$Reader", "settle", "(II)V"⟩, 11), (⟨"ShareHouse$Reader", "readOutput", "()V"⟩, 11), (⟨"ShareHouse$Reader", "readStatement", "(I)V"⟩, 11), (⟨"ShareHouse$Reader", "readVar", "(I)V"⟩, 11), (⟨"ShareHouse$Reader", "readAssignment", "(I)V"⟩, 11), (⟨"ShareHouse$Reader", "readIf", "(I)V"⟩, 11), (⟨"ShareHouse$Reader", "readBlock", "(I)V"⟩, 11), (⟨"ShareHouse$Reader", "readFor", "(I)V"⟩, 11), (⟨"ShareHouse$Sorts", "checkStatement", "(II)V"⟩, 11), (⟨"ShareHouse$Sorts", "comeIn", "(I)V"⟩, 11), (⟨"ShareHouse$Names", "isSame", "(III)Z"⟩, 13), (⟨"ShareHouse$Sorts", "mustBe", "(II)I"⟩, 11)]
theorem lw_r2 : ∀ q ∈ lw_privs_2, lw_okq q := List.forall_mem_cons.mpr ⟨lw_p16, List.forall_mem_cons.mpr ⟨lw_p17, List.forall_mem_cons.mpr ⟨lw_p18, List.forall_mem_cons.mpr ⟨lw_p19, List.forall_mem_cons.mpr ⟨lw_p20, List.forall_mem_cons.mpr ⟨lw_p21, List.forall_mem_cons.mpr ⟨lw_p22, List.forall_mem_cons.mpr ⟨lw_p23, List.forall_mem_cons.mpr ⟨lw_p24, List.forall_mem_cons.mpr ⟨lw_p25, List.forall_mem_cons.mpr ⟨lw_p26, List.forall_mem_cons.mpr ⟨lw_p27, List.forall_mem_cons.mpr ⟨lw_p28, List.forall_mem_cons.mpr ⟨lw_p29, List.forall_mem_cons.mpr ⟨lw_p30, List.forall_mem_cons.mpr ⟨lw_p31, fun _ h => absurd h List.not_mem_nil⟩⟩⟩⟩⟩⟩⟩⟩⟩⟩⟩⟩⟩⟩⟩⟩
theorem lw_p32 : lw_okq (⟨"ShareHouse$Sorts", "pop", "()I"⟩, 11) := ⟨⟨by decide +kernel, by decide +kernel⟩, List.mem_of_getElem? (i := 331) (by decide +kernel), List.mem_of_getElem? (i := 926) (by decide +kernel), List.mem_of_getElem? (i := 927) (by decide +kernel)⟩
theorem lw_p33 : lw_okq (⟨"ShareHouse$Sorts", "checkTarget", "(IZ)V"⟩, 11) := ⟨⟨by decide +kernel, by decide +kernel⟩, List.mem_of_getElem? (i := 331) (by decide +kernel), List.mem_of_getElem? (i := 938) (by decide +kernel), List.mem_of_getElem? (i := 939) (by decide +kernel)⟩
theorem lw_p34 : lw_okq (⟨"ShareHouse$Sorts", "resolve", "(I)I"⟩, 11) := ⟨⟨by decide +kernel, by decide +kernel⟩, List.mem_of_getElem? (i := 331) (by decide +kernel), List.mem_of_getElem? (i := 942) (by decide +kernel), List.mem_of_getElem? (i := 943) (by decide +kernel)⟩
theorem lw_p35 : lw_okq (⟨"ShareHouse$Sorts", "noteAssigned", "(I)V"⟩, 11) := ⟨⟨by decide +kernel, by decide +kernel⟩, List.mem_of_getElem? (i := 331) (by decide +kernel), List.mem_of_getElem? (i := 950) (by decide +kernel), List.mem_of_getElem? (i := 951) (by decide +kernel)⟩
theorem lw_p36 : lw_okq (⟨"ShareHouse$Sorts", "widen", "(III)V"⟩, 11) := ⟨⟨by decide +kernel, by decide +kernel⟩, List.mem_of_getElem? (i := 331) (by decide +kernel), List.mem_of_getElem? (i := 954) (by decide +kernel), List.mem_of_getElem? (i := 955) (by decide +kernel)⟩
theorem lw_p37 : lw_okq (⟨"ShareHouse$Sorts", "checkFlow", "(II)V"⟩, 11) := ⟨⟨by decide +kernel, by decide +kernel⟩, List.mem_of_getElem? (i := 331) (by decide +kernel), List.mem_of_getElem? (i := 960) (by decide +kernel), List.mem_of_getElem? (i := 961) (by decide +kernel)⟩
theorem lw_p38 : lw_okq (⟨"ShareHouse$Sorts", "openScope", "()V"⟩, 11) := ⟨⟨by decide +kernel, by decide +kernel⟩, List.mem_of_getElem? (i := 331) (by decide +kernel), List.mem_of_getElem? (i := 964) (by decide +kernel), List.mem_of_getElem? (i := 965) (by decide +kernel)⟩
theorem lw_p39 : lw_okq (⟨"ShareHouse$Sorts", "openIf", "()V"⟩, 11) := ⟨⟨by decide +kernel, by decide +kernel⟩, List.mem_of_getElem? (i := 331) (by decide +kernel), List.mem_of_getElem? (i := 968) (by decide +kernel), List.mem_of_getElem? (i := 969) (by decide +kernel)⟩
theorem lw_p40 : lw_okq (⟨"ShareHouse$Sorts", "closeScope", "()V"⟩, 11) := ⟨⟨by decide +kernel, by decide +kernel⟩, List.mem_of_getElem? (i := 331) (by decide +kernel), List.mem_of_getElem? (i := 972) (by decide +kernel), List.mem_of_getElem? (i := 973) (by decide +kernel)⟩
theorem lw_p41 : lw_okq (⟨"ShareHouse$Sorts", "closeIf", "(I)V"⟩, 11) := ⟨⟨by decide +kernel, by decide +kernel⟩, List.mem_of_getElem? (i := 331) (by decide +kernel), List.mem_of_getElem? (i := 981) (by decide +kernel), List.mem_of_getElem? (i := 982) (by decide +kernel)⟩
theorem lw_p42 : lw_okq (⟨"ShareHouse$Sorts", "mustBePublic", "(II)V"⟩, 11) := ⟨⟨by decide +kernel, by decide +kernel⟩, List.mem_of_getElem? (i := 331) (by decide +kernel), List.mem_of_getElem? (i := 985) (by decide +kernel), List.mem_of_getElem? (i := 986) (by decide +kernel)⟩
theorem lw_p43 : lw_okq (⟨"ShareHouse$Sorts", "checkFactor", "(II)V"⟩, 11) := ⟨⟨by decide +kernel, by decide +kernel⟩, List.mem_of_getElem? (i := 331) (by decide +kernel), List.mem_of_getElem? (i := 989) (by decide +kernel), List.mem_of_getElem? (i := 990) (by decide +kernel)⟩
theorem lw_p44 : lw_okq (⟨"ShareHouse$Sorts", "push", "(I)V"⟩, 11) := ⟨⟨by decide +kernel, by decide +kernel⟩, List.mem_of_getElem? (i := 331) (by decide +kernel), List.mem_of_getElem? (i := 993) (by decide +kernel), List.mem_of_getElem? (i := 994) (by decide +kernel)⟩
theorem lw_p45 : lw_okq (⟨"ShareHouse$Sorts", "checkName", "(I)V"⟩, 11) := ⟨⟨by decide +kernel, by decide +kernel⟩, List.mem_of_getElem? (i := 331) (by decide +kernel), List.mem_of_getElem? (i := 998) (by decide +kernel), List.mem_of_getElem? (i := 999) (by decide +kernel)⟩
theorem lw_p46 : lw_okq (⟨"ShareHouse$Sorts", "checkHead", "(IZ)V"⟩, 11) := ⟨⟨by decide +kernel, by decide +kernel⟩, List.mem_of_getElem? (i := 331) (by decide +kernel), List.mem_of_getElem? (i := 1002) (by decide +kernel), List.mem_of_getElem? (i := 1003) (by decide +kernel)⟩
theorem lw_p47 : lw_okq (⟨"ShareHouse$Sorts", "checkSign", "(II)V"⟩, 11) := ⟨⟨by decide +kernel, by decide +kernel⟩, List.mem_of_getElem? (i := 331) (by decide +kernel), List.mem_of_getElem? (i := 1006) (by decide +kernel), List.mem_of_getElem? (i := 1007) (by decide +kernel)⟩
def lw_privs_3 : List (MethodName × Nat) := [(⟨"ShareHouse$Sorts", "pop", "()I"⟩, 11), (⟨"ShareHouse$Sorts", "checkTarget", "(IZ)V"⟩, 11), (⟨"ShareHouse$Sorts", "resolve", "(I)I"⟩, 11), (⟨"ShareHouse$Sorts", "noteAssigned", "(I)V"⟩, 11), (⟨"ShareHouse$Sorts", "widen", "(III)V"⟩, 11), (⟨"ShareHouse$Sorts", "checkFlow", "(II)V"⟩, 11), (⟨"ShareHouse$Sorts", "openScope", "()V"⟩, 11), (⟨"ShareHouse$Sorts", "openIf", "()V"⟩, 11), (⟨"ShareHouse$Sorts", "closeScope", "()V"⟩, 11), (⟨"ShareHouse$Sorts", "closeIf", "(I)V"⟩, 11), (⟨"ShareHouse$Sorts", "mustBePublic", "(II)V"⟩, 11), (⟨"ShareHouse$Sorts", "checkFactor", "(II)V"⟩, 11), (⟨"ShareHouse$Sorts", "push", "(I)V"⟩, 11), (⟨"ShareHouse$Sorts", "checkName", "(I)V"⟩, 11), (⟨"ShareHouse$Sorts", "checkHead", "(IZ)V"⟩, 11), (⟨"ShareHouse$Sorts", "checkSign", "(II)V"⟩, 11)]
theorem lw_r3 : ∀ q ∈ lw_privs_3, lw_okq q := List.forall_mem_cons.mpr ⟨lw_p32, List.forall_mem_cons.mpr ⟨lw_p33, List.forall_mem_cons.mpr ⟨lw_p34, List.forall_mem_cons.mpr ⟨lw_p35, List.forall_mem_cons.mpr ⟨lw_p36, List.forall_mem_cons.mpr ⟨lw_p37, List.forall_mem_cons.mpr ⟨lw_p38, List.forall_mem_cons.mpr ⟨lw_p39, List.forall_mem_cons.mpr ⟨lw_p40, List.forall_mem_cons.mpr ⟨lw_p41, List.forall_mem_cons.mpr ⟨lw_p42, List.forall_mem_cons.mpr ⟨lw_p43, List.forall_mem_cons.mpr ⟨lw_p44, List.forall_mem_cons.mpr ⟨lw_p45, List.forall_mem_cons.mpr ⟨lw_p46, List.forall_mem_cons.mpr ⟨lw_p47, fun _ h => absurd h List.not_mem_nil⟩⟩⟩⟩⟩⟩⟩⟩⟩⟩⟩⟩⟩⟩⟩⟩
theorem lw_p48 : lw_okq (⟨"ShareHouse$Sorts", "checkOperator", "(II)V"⟩, 11) := ⟨⟨by decide +kernel, by decide +kernel⟩, List.mem_of_getElem? (i := 331) (by decide +kernel), List.mem_of_getElem? (i := 1010) (by decide +kernel), List.mem_of_getElem? (i := 1011) (by decide +kernel)⟩
theorem lw_p49 : lw_okq (⟨"ShareHouse$Builder", "buildStatement", "(II)V"⟩, 19) := ⟨⟨by decide +kernel, by decide +kernel⟩, List.mem_of_getElem? (i := 371) (by decide +kernel), List.mem_of_getElem? (i := 1027) (by decide +kernel), List.mem_of_getElem? (i := 1028) (by decide +kernel)⟩
theorem lw_p50 : lw_okq (⟨"ShareHouse$Builder", "goBack", "()V"⟩, 19) := ⟨⟨by decide +kernel, by decide +kernel⟩, List.mem_of_getElem? (i := 371) (by decide +kernel), List.mem_of_getElem? (i := 1031) (by decide +kernel), List.mem_of_getElem? (i := 1032) (by decide +kernel)⟩
theorem lw_p51 : lw_okq (⟨"ShareHouse$Builder", "reserve", "(I)V"⟩, 19) := ⟨⟨by decide +kernel, by decide +kernel⟩, List.mem_of_getElem? (i := 371) (by decide +kernel), List.mem_of_getElem? (i := 1035) (by decide +kernel), List.mem_of_getElem? (i := 1036) (by decide +kernel)⟩
theorem lw_p52 : lw_okq (⟨"ShareHouse$Builder", "keepAll", "(I)V"⟩, 19) := ⟨⟨by decide +kernel, by decide +kernel⟩, List.mem_of_getElem? (i := 371) (by decide +kernel), List.mem_of_getElem? (i := 1040) (by decide +kernel), List.mem_of_getElem? (i := 1041) (by decide +kernel)⟩
theorem lw_p53 : lw_okq (⟨"ShareHouse$Builder", "keep", "(III)V"⟩, 19) := ⟨⟨by decide +kernel, by decide +kernel⟩, List.mem_of_getElem? (i := 371) (by decide +kernel), List.mem_of_getElem? (i := 1045) (by decide +kernel), List.mem_of_getElem? (i := 1046) (by decide +kernel)⟩
theorem lw_p54 : lw_okq (⟨"ShareHouse$Builder", "bitsOf", "(I)I"⟩, 19) := ⟨⟨by decide +kernel, by decide +kernel⟩, List.mem_of_getElem? (i := 371) (by decide +kernel), List.mem_of_getElem? (i := 1049) (by decide +kernel), List.mem_of_getElem? (i := 1050) (by decide +kernel)⟩
theorem lw_p55 : lw_okq (⟨"ShareHouse$Builder", "storeElement", "(I)V"⟩, 19) := ⟨⟨by decide +kernel, by decide +kernel⟩, List.mem_of_getElem? (i := 371) (by decide +kernel), List.mem_of_getElem? (i := 1056) (by decide +kernel), List.mem_of_getElem? (i := 1057) (by decide +kernel)⟩
theorem lw_p56 : lw_okq (⟨"ShareHouse$Circuit", "newGate", "(IIZI)I"⟩, 16) := ⟨⟨by decide +kernel, by decide +kernel⟩, List.mem_of_getElem? (i := 193) (by decide +kernel), List.mem_of_getElem? (i := 1077) (by decide +kernel), List.mem_of_getElem? (i := 1078) (by decide +kernel)⟩
theorem lw_p57 : lw_okq (⟨"ShareHouse$Logic", "all", "(I)I"⟩, 7) := ⟨⟨by decide +kernel, by decide +kernel⟩, List.mem_of_getElem? (i := 377) (by decide +kernel), List.mem_of_getElem? (i := 1081) (by decide +kernel), List.mem_of_getElem? (i := 1082) (by decide +kernel)⟩
theorem lw_p58 : lw_okq (⟨"ShareHouse$Builder", "buildFlow", "(II)V"⟩, 19) := ⟨⟨by decide +kernel, by decide +kernel⟩, List.mem_of_getElem? (i := 371) (by decide +kernel), List.mem_of_getElem? (i := 1098) (by decide +kernel), List.mem_of_getElem? (i := 1099) (by decide +kernel)⟩
theorem lw_p59 : lw_okq (⟨"ShareHouse$Builder", "openIf", "(I)V"⟩, 19) := ⟨⟨by decide +kernel, by decide +kernel⟩, List.mem_of_getElem? (i := 371) (by decide +kernel), List.mem_of_getElem? (i := 1102) (by decide +kernel), List.mem_of_getElem? (i := 1103) (by decide +kernel)⟩
theorem lw_p60 : lw_okq (⟨"ShareHouse$Builder", "turnIf", "(I)V"⟩, 19) := ⟨⟨by decide +kernel, by decide +kernel⟩, List.mem_of_getElem? (i := 371) (by decide +kernel), List.mem_of_getElem? (i := 1106) (by decide +kernel), List.mem_of_getElem? (i := 1107) (by decide +kernel)⟩
theorem lw_p61 : lw_okq (⟨"ShareHouse$Builder", "closeIf", "(I)V"⟩, 19) := ⟨⟨by decide +kernel, by decide +kernel⟩, List.mem_of_getElem? (i := 371) (by decide +kernel), List.mem_of_getElem? (i := 1110) (by decide +kernel), List.mem_of_getElem? (i := 1111) (by decide +kernel)⟩
theorem lw_p62 : lw_okq (⟨"ShareHouse$Builder", "beginLoop", "(I)V"⟩, 19) := ⟨⟨by decide +kernel, by decide +kernel⟩, List.mem_of_getElem? (i := 371) (by decide +kernel), List.mem_of_getElem? (i := 1114) (by decide +kernel), List.mem_of_getElem? (i := 1115) (by decide +kernel)⟩
theorem lw_p63 : lw_okq (⟨"ShareHouse$Builder", "takeNextTurn", "(I)V"⟩, 19) := ⟨⟨by decide +kernel, by decide +kernel⟩, List.mem_of_getElem? (i := 371) (by decide +kernel), List.mem_of_getElem? (i := 1120) (by decide +kernel), List.mem_of_getElem? (i := 1121) (by decide +kernel)⟩
def lw_privs_4 : List (MethodName × Nat) := [(⟨"ShareHouse$Sorts", "checkOperator", "(II)V"⟩, 11), (⟨"ShareHouse$Builder", "buildStatement", "(II)V"⟩, 19), (⟨"ShareHouse$Builder", "goBack", "()V"⟩, 19), (⟨"ShareHouse$Builder", "reserve", "(I)V"⟩, 19), (⟨"ShareHouse$Builder", "keepAll", "(I)V"⟩, 19), (⟨"ShareHouse$Builder", "keep", "(III)V"⟩, 19), (⟨"ShareHouse$Builder", "bitsOf", "(I)I"⟩, 19), (⟨"ShareHouse$Builder", "storeElement", "(I)V"⟩, 19), (⟨"ShareHouse$Circuit", "newGate", "(IIZI)I"⟩, 16), (⟨"ShareHouse$Logic", "all", "(I)I"⟩, 7), (⟨"ShareHouse$Builder", "buildFlow", "(II)V"⟩, 19), (⟨"ShareHouse$Builder", "openIf", "(I)V"⟩, 19), (⟨"ShareHouse$Builder", "turnIf", "(I)V"⟩, 19), (⟨"ShareHouse$Builder", "closeIf", "(I)V"⟩, 19), (⟨"ShareHouse$Builder", "beginLoop", "(I)V"⟩, 19), (⟨"ShareHouse$Builder", "takeNextTurn", "(I)V"⟩, 19)]
theorem lw_r4 : ∀ q ∈ lw_privs_4, lw_okq q := List.forall_mem_cons.mpr ⟨lw_p48, List.forall_mem_cons.mpr ⟨lw_p49, List.forall_mem_cons.mpr ⟨lw_p50, List.forall_mem_cons.mpr ⟨lw_p51, List.forall_mem_cons.mpr ⟨lw_p52, List.forall_mem_cons.mpr ⟨lw_p53, List.forall_mem_cons.mpr ⟨lw_p54, List.forall_mem_cons.mpr ⟨lw_p55, List.forall_mem_cons.mpr ⟨lw_p56, List.forall_mem_cons.mpr ⟨lw_p57, List.forall_mem_cons.mpr ⟨lw_p58, List.forall_mem_cons.mpr ⟨lw_p59, List.forall_mem_cons.mpr ⟨lw_p60, List.forall_mem_cons.mpr ⟨lw_p61, List.forall_mem_cons.mpr ⟨lw_p62, List.forall_mem_cons.mpr ⟨lw_p63, fun _ h => absurd h List.not_mem_nil⟩⟩⟩⟩⟩⟩⟩⟩⟩⟩⟩⟩⟩⟩⟩⟩
theorem lw_p64 : lw_okq (⟨"ShareHouse$Builder", "buildFactor", "(II)V"⟩, 19) := ⟨⟨by decide +kernel, by decide +kernel⟩, List.mem_of_getElem? (i := 371) (by decide +kernel), List.mem_of_getElem? (i := 1124) (by decide +kernel), List.mem_of_getElem? (i := 1125) (by decide +kernel)⟩
theorem lw_p65 : lw_okq (⟨"ShareHouse$Builder", "pushNumber", "(J)V"⟩, 19) := ⟨⟨by decide +kernel, by decide +kernel⟩, List.mem_of_getElem? (i := 371) (by decide +kernel), List.mem_of_getElem? (i := 1128) (by decide +kernel), List.mem_of_getElem? (i := 1129) (by decide +kernel)⟩
theorem lw_p66 : lw_okq (⟨"ShareHouse$Builder", "pushNamed", "(I)V"⟩, 19) := ⟨⟨by decide +kernel, by decide +kernel⟩, List.mem_of_getElem? (i := 371) (by decide +kernel), List.mem_of_getElem? (i := 1136) (by decide +kernel), List.mem_of_getElem? (i := 1137) (by decide +kernel)⟩
theorem lw_p67 : lw_okq (⟨"ShareHouse$Builder", "load", "(III)V"⟩, 19) := ⟨⟨by decide +kernel, by decide +kernel⟩, List.mem_of_getElem? (i := 371) (by decide +kernel), List.mem_of_getElem? (i := 1140) (by decide +kernel), List.mem_of_getElem? (i := 1141) (by decide +kernel)⟩
theorem lw_p68 : lw_okq (⟨"ShareHouse$Builder", "literalOf", "(III)I"⟩, 19) := ⟨⟨by decide +kernel, by decide +kernel⟩, List.mem_of_getElem? (i := 371) (by decide +kernel), List.mem_of_getElem? (i := 1144) (by decide +kernel), List.mem_of_getElem? (i := 1145) (by decide +kernel)⟩
theorem lw_p69 : lw_okq (⟨"ShareHouse$Builder", "checkIndex", "(I)V"⟩, 19) := ⟨⟨by decide +kernel, by decide +kernel⟩, List.mem_of_getElem? (i := 371) (by decide +kernel), List.mem_of_getElem? (i := 1148) (by decide +kernel), List.mem_of_getElem? (i := 1149) (by decide +kernel)⟩
theorem lw_p70 : lw_okq (⟨"ShareHouse$Builder", "readElement", "(I)V"⟩, 19) := ⟨⟨by decide +kernel, by decide +kernel⟩, List.mem_of_getElem? (i := 371) (by decide +kernel), List.mem_of_getElem? (i := 1152) (by decide +kernel), List.mem_of_getElem? (i := 1153) (by decide +kernel)⟩
theorem lw_p71 : lw_okq (⟨"ShareHouse$Builder", "call", "(I)V"⟩, 19) := ⟨⟨by decide +kernel, by decide +kernel⟩, List.mem_of_getElem? (i := 371) (by decide +kernel), List.mem_of_getElem? (i := 1158) (by decide +kernel), List.mem_of_getElem? (i := 1159) (by decide +kernel)⟩
theorem lw_p72 : lw_okq (⟨"ShareHouse$Builder", "takeBit", "(I)V"⟩, 19) := ⟨⟨by decide +kernel, by decide +kernel⟩, List.mem_of_getElem? (i := 371) (by decide +kernel), List.mem_of_getElem? (i := 1162) (by decide +kernel), List.mem_of_getElem? (i := 1163) (by decide +kernel)⟩
theorem lw_p73 : lw_okq (⟨"ShareHouse$Builder", "buildSign", "(II)V"⟩, 19) := ⟨⟨by decide +kernel, by decide +kernel⟩, List.mem_of_getElem? (i := 371) (by decide +kernel), List.mem_of_getElem? (i := 1166) (by decide +kernel), List.mem_of_getElem? (i := 1167) (by decide +kernel)⟩
theorem lw_p74 : lw_okq (⟨"ShareHouse$Builder", "choose", "(I)V"⟩, 19) := ⟨⟨by decide +kernel, by decide +kernel⟩, List.mem_of_getElem? (i := 371) (by decide +kernel), List.mem_of_getElem? (i := 1185) (by decide +kernel), List.mem_of_getElem? (i := 1186) (by decide +kernel)⟩
theorem lw_p75 : lw_okq (⟨"ShareHouse$Builder", "buildOperator", "(II)V"⟩, 19) := ⟨⟨by decide +kernel, by decide +kernel⟩, List.mem_of_getElem? (i := 371) (by decide +kernel), List.mem_of_getElem? (i := 1189) (by decide +kernel), List.mem_of_getElem? (i := 1190) (by decide +kernel)⟩
theorem lw_p76 : lw_okq (⟨"ShareHouse$Builder", "buildShift", "(III)V"⟩, 19) := ⟨⟨by decide +kernel, by decide +kernel⟩, List.mem_of_getElem? (i := 371) (by decide +kernel), List.mem_of_getElem? (i := 1201) (by decide +kernel), List.mem_of_getElem? (i := 1202) (by decide +kernel)⟩
theorem lw_p77 : lw_okq (⟨"ShareHouse$Logic", "isKnown", "([II)Z"⟩, 7) := ⟨⟨by decide +kernel, by decide +kernel⟩, List.mem_of_getElem? (i := 377) (by decide +kernel), List.mem_of_getElem? (i := 1218) (by decide +kernel), List.mem_of_getElem? (i := 1219) (by decide +kernel)⟩
theorem lw_p78 : lw_okq (⟨"ShareHouse$Logic", "takeAway", "([II)I"⟩, 7) := ⟨⟨by decide +kernel, by decide +kernel⟩, List.mem_of_getElem? (i := 377) (by decide +kernel), List.mem_of_getElem? (i := 1232) (by decide +kernel), List.mem_of_getElem? (i := 1233) (by decide +kernel)⟩
theorem lw_p79 : lw_okq (⟨"ShareHouse$Builder", "buildBits", "(IIII)V"⟩, 19) := ⟨⟨by decide +kernel, by decide +kernel⟩, List.mem_of_getElem? (i := 371) (by decide +kernel), List.mem_of_getElem? (i := 1237) (by decide +kernel), List.mem_of_getElem? (i := 1238) (by decide +kernel)⟩
def lw_privs_5 : List (MethodName × Nat) := [(⟨"ShareHouse$Builder", "buildFactor", "(II)V"⟩, 19), (⟨"ShareHouse$Builder", "pushNumber", "(J)V"⟩, 19), (⟨"ShareHouse$Builder", "pushNamed", "(I)V"⟩, 19), (⟨"ShareHouse$Builder", "load", "(III)V"⟩, 19), (⟨"ShareHouse$Builder", "literalOf", "(III)I"⟩, 19), (⟨"ShareHouse$Builder", "checkIndex", "(I)V"⟩, 19), (⟨"ShareHouse$Builder", "readElement", "(I)V"⟩, 19), (⟨"ShareHouse$Builder", "call", "(I)V"⟩, 19), (⟨"ShareHouse$Builder", "takeBit", "(I)V"⟩, 19), (⟨"ShareHouse$Builder", "buildSign", "(II)V"⟩, 19), (⟨"ShareHouse$Builder", "choose", "(I)V"⟩, 19), (⟨"ShareHouse$Builder", "buildOperator", "(II)V"⟩, 19), (⟨"ShareHouse$Builder", "buildShift", "(III)V"⟩, 19), (⟨"ShareHouse$Logic", "isKnown", "([II)Z"⟩, 7), (⟨"ShareHouse$Logic", "takeAway", "([II)I"⟩, 7), (⟨"ShareHouse$Builder", "buildBits", "(IIII)V"⟩, 19)]
theorem lw_r5 : ∀ q ∈ lw_privs_5, lw_okq q := List.forall_mem_cons.mpr ⟨lw_p64, List.forall_mem_cons.mpr ⟨lw_p65, List.forall_mem_cons.mpr ⟨lw_p66, List.forall_mem_cons.mpr ⟨lw_p67, List.forall_mem_cons.mpr ⟨lw_p68, List.forall_mem_cons.mpr ⟨lw_p69, List.forall_mem_cons.mpr ⟨lw_p70, List.forall_mem_cons.mpr ⟨lw_p71, List.forall_mem_cons.mpr ⟨lw_p72, List.forall_mem_cons.mpr ⟨lw_p73, List.forall_mem_cons.mpr ⟨lw_p74, List.forall_mem_cons.mpr ⟨lw_p75, List.forall_mem_cons.mpr ⟨lw_p76, List.forall_mem_cons.mpr ⟨lw_p77, List.forall_mem_cons.mpr ⟨lw_p78, List.forall_mem_cons.mpr ⟨lw_p79, fun _ h => absurd h List.not_mem_nil⟩⟩⟩⟩⟩⟩⟩⟩⟩⟩⟩⟩⟩⟩⟩⟩
theorem lw_p80 : lw_okq (⟨"ShareHouse", "lookAtCircuit", "(I)I"⟩, 17) := ⟨⟨by decide +kernel, by decide +kernel⟩, List.mem_of_getElem? (i := 23) (by decide +kernel), List.mem_of_getElem? (i := 1255) (by decide +kernel), List.mem_of_getElem? (i := 1256) (by decide +kernel)⟩
theorem lw_p81 : lw_okq (⟨"ShareHouse", "hasOutput", "(I)Z"⟩, 17) := ⟨⟨by decide +kernel, by decide +kernel⟩, List.mem_of_getElem? (i := 23) (by decide +kernel), List.mem_of_getElem? (i := 1267) (by decide +kernel), List.mem_of_getElem? (i := 1268) (by decide +kernel)⟩
theorem lw_p82 : lw_okq (⟨"ShareHouse$Dealer", "drawBut", "(I)I"⟩, 9) := ⟨⟨by decide +kernel, by decide +kernel⟩, List.mem_of_getElem? (i := 465) (by decide +kernel), List.mem_of_getElem? (i := 1319) (by decide +kernel), List.mem_of_getElem? (i := 1320) (by decide +kernel)⟩
theorem lw_p83 : lw_okq (⟨"ShareHouse$Dealer", "draw", "()I"⟩, 9) := ⟨⟨by decide +kernel, by decide +kernel⟩, List.mem_of_getElem? (i := 465) (by decide +kernel), List.mem_of_getElem? (i := 1323) (by decide +kernel), List.mem_of_getElem? (i := 1324) (by decide +kernel)⟩
theorem lw_p84 : lw_okq (⟨"ShareHouse$Dealer", "sharesOfAnd", "(III)I"⟩, 9) := ⟨⟨by decide +kernel, by decide +kernel⟩, List.mem_of_getElem? (i := 465) (by decide +kernel), List.mem_of_getElem? (i := 1355) (by decide +kernel), List.mem_of_getElem? (i := 1356) (by decide +kernel)⟩
theorem lw_p85 : lw_okq (⟨"ShareHouse$Post", "send", "(I)I"⟩, 15) := ⟨⟨by decide +kernel, by decide +kernel⟩, List.mem_of_getElem? (i := 503) (by decide +kernel), List.mem_of_getElem? (i := 1365) (by decide +kernel), List.mem_of_getElem? (i := 1366) (by decide +kernel)⟩
theorem lw_p86 : lw_okq (⟨"ShareHouse", "isFlying", "(I)Z"⟩, 17) := ⟨⟨by decide +kernel, by decide +kernel⟩, List.mem_of_getElem? (i := 23) (by decide +kernel), List.mem_of_getElem? (i := 1373) (by decide +kernel), List.mem_of_getElem? (i := 1374) (by decide +kernel)⟩
theorem lw_p87 : lw_okq (⟨"ShareHouse$Post", "goOn", "(I)I"⟩, 15) := ⟨⟨by decide +kernel, by decide +kernel⟩, List.mem_of_getElem? (i := 503) (by decide +kernel), List.mem_of_getElem? (i := 1432) (by decide +kernel), List.mem_of_getElem? (i := 1433) (by decide +kernel)⟩
theorem lw_p88 : lw_okq (⟨"ShareHouse", "isAtWork", "(I)Z"⟩, 17) := ⟨⟨by decide +kernel, by decide +kernel⟩, List.mem_of_getElem? (i := 23) (by decide +kernel), List.mem_of_getElem? (i := 1449) (by decide +kernel), List.mem_of_getElem? (i := 1450) (by decide +kernel)⟩
theorem lw_p89 : lw_okq (⟨"ShareHouse$Post", "arrivedBit", "(II)I"⟩, 15) := ⟨⟨by decide +kernel, by decide +kernel⟩, List.mem_of_getElem? (i := 503) (by decide +kernel), List.mem_of_getElem? (i := 1476) (by decide +kernel), List.mem_of_getElem? (i := 1477) (by decide +kernel)⟩
theorem lw_p90 : lw_okq (⟨"ShareHouseModel", "word", "(II)V"⟩, 146) := ⟨⟨by decide +kernel, by decide +kernel⟩, List.mem_of_getElem? (i := 1505) (by decide +kernel), List.mem_of_getElem? (i := 1960) (by decide +kernel), List.mem_of_getElem? (i := 1961) (by decide +kernel)⟩
theorem lw_p91 : lw_okq (⟨"ShareHouseModel", "forget", "()V"⟩, 146) := ⟨⟨by decide +kernel, by decide +kernel⟩, List.mem_of_getElem? (i := 1505) (by decide +kernel), List.mem_of_getElem? (i := 1972) (by decide +kernel), List.mem_of_getElem? (i := 1973) (by decide +kernel)⟩
theorem lw_p92 : lw_okq (⟨"ShareHouseModel", "program", "()V"⟩, 146) := ⟨⟨by decide +kernel, by decide +kernel⟩, List.mem_of_getElem? (i := 1505) (by decide +kernel), List.mem_of_getElem? (i := 1976) (by decide +kernel), List.mem_of_getElem? (i := 1977) (by decide +kernel)⟩
theorem lw_p93 : lw_okq (⟨"ShareHouseModel", "gap", "()V"⟩, 146) := ⟨⟨by decide +kernel, by decide +kernel⟩, List.mem_of_getElem? (i := 1505) (by decide +kernel), List.mem_of_getElem? (i := 1980) (by decide +kernel), List.mem_of_getElem? (i := 1981) (by decide +kernel)⟩
theorem lw_p94 : lw_okq (⟨"ShareHouseModel", "look0", "(I)I"⟩, 146) := ⟨⟨by decide +kernel, by decide +kernel⟩, List.mem_of_getElem? (i := 1505) (by decide +kernel), List.mem_of_getElem? (i := 1984) (by decide +kernel), List.mem_of_getElem? (i := 1985) (by decide +kernel)⟩
theorem lw_p95 : lw_okq (⟨"ShareHouseModel", "fail", "(II)V"⟩, 146) := ⟨⟨by decide +kernel, by decide +kernel⟩, List.mem_of_getElem? (i := 1505) (by decide +kernel), List.mem_of_getElem? (i := 1988) (by decide +kernel), List.mem_of_getElem? (i := 1989) (by decide +kernel)⟩
def lw_privs_6 : List (MethodName × Nat) := [(⟨"ShareHouse", "lookAtCircuit", "(I)I"⟩, 17), (⟨"ShareHouse", "hasOutput", "(I)Z"⟩, 17), (⟨"ShareHouse$Dealer", "drawBut", "(I)I"⟩, 9), (⟨"ShareHouse$Dealer", "draw", "()I"⟩, 9), (⟨"ShareHouse$Dealer", "sharesOfAnd", "(III)I"⟩, 9), (⟨"ShareHouse$Post", "send", "(I)I"⟩, 15), (⟨"ShareHouse", "isFlying", "(I)Z"⟩, 17), (⟨"ShareHouse$Post", "goOn", "(I)I"⟩, 15), (⟨"ShareHouse", "isAtWork", "(I)Z"⟩, 17), (⟨"ShareHouse$Post", "arrivedBit", "(II)I"⟩, 15), (⟨"ShareHouseModel", "word", "(II)V"⟩, 146), (⟨"ShareHouseModel", "forget", "()V"⟩, 146), (⟨"ShareHouseModel", "program", "()V"⟩, 146), (⟨"ShareHouseModel", "gap", "()V"⟩, 146), (⟨"ShareHouseModel", "look0", "(I)I"⟩, 146), (⟨"ShareHouseModel", "fail", "(II)V"⟩, 146)]
theorem lw_r6 : ∀ q ∈ lw_privs_6, lw_okq q := List.forall_mem_cons.mpr ⟨lw_p80, List.forall_mem_cons.mpr ⟨lw_p81, List.forall_mem_cons.mpr ⟨lw_p82, List.forall_mem_cons.mpr ⟨lw_p83, List.forall_mem_cons.mpr ⟨lw_p84, List.forall_mem_cons.mpr ⟨lw_p85, List.forall_mem_cons.mpr ⟨lw_p86, List.forall_mem_cons.mpr ⟨lw_p87, List.forall_mem_cons.mpr ⟨lw_p88, List.forall_mem_cons.mpr ⟨lw_p89, List.forall_mem_cons.mpr ⟨lw_p90, List.forall_mem_cons.mpr ⟨lw_p91, List.forall_mem_cons.mpr ⟨lw_p92, List.forall_mem_cons.mpr ⟨lw_p93, List.forall_mem_cons.mpr ⟨lw_p94, List.forall_mem_cons.mpr ⟨lw_p95, fun _ h => absurd h List.not_mem_nil⟩⟩⟩⟩⟩⟩⟩⟩⟩⟩⟩⟩⟩⟩⟩⟩
theorem lw_p96 : lw_okq (⟨"ShareHouseModel", "isSign", "(I)Z"⟩, 146) := ⟨⟨by decide +kernel, by decide +kernel⟩, List.mem_of_getElem? (i := 1505) (by decide +kernel), List.mem_of_getElem? (i := 1992) (by decide +kernel), List.mem_of_getElem? (i := 1993) (by decide +kernel)⟩
theorem lw_p97 : lw_okq (⟨"ShareHouseModel", "isPair", "()Z"⟩, 146) := ⟨⟨by decide +kernel, by decide +kernel⟩, List.mem_of_getElem? (i := 1505) (by decide +kernel), List.mem_of_getElem? (i := 1996) (by decide +kernel), List.mem_of_getElem? (i := 1997) (by decide +kernel)⟩
theorem lw_p98 : lw_okq (⟨"ShareHouseModel", "closeBlock", "()V"⟩, 146) := ⟨⟨by decide +kernel, by decide +kernel⟩, List.mem_of_getElem? (i := 1505) (by decide +kernel), List.mem_of_getElem? (i := 2000) (by decide +kernel), List.mem_of_getElem? (i := 2001) (by decide +kernel)⟩
theorem lw_p99 : lw_okq (⟨"ShareHouseModel", "put", "(IIII)I"⟩, 146) := ⟨⟨by decide +kernel, by decide +kernel⟩, List.mem_of_getElem? (i := 1505) (by decide +kernel), List.mem_of_getElem? (i := 2004) (by decide +kernel), List.mem_of_getElem? (i := 2005) (by decide +kernel)⟩
theorem lw_p100 : lw_okq (⟨"ShareHouseModel", "isWord", "(Ljava/lang/String;)Z"⟩, 146) := ⟨⟨by decide +kernel, by decide +kernel⟩, List.mem_of_getElem? (i := 1505) (by decide +kernel), List.mem_of_getElem? (i := 2009) (by decide +kernel), List.mem_of_getElem? (i := 2010) (by decide +kernel)⟩
theorem lw_p101 : lw_okq (⟨"ShareHouseModel", "wordEnd", "()I"⟩, 146) := ⟨⟨by decide +kernel, by decide +kernel⟩, List.mem_of_getElem? (i := 1505) (by decide +kernel), List.mem_of_getElem? (i := 2013) (by decide +kernel), List.mem_of_getElem? (i := 2014) (by decide +kernel)⟩
theorem lw_p102 : lw_okq (⟨"ShareHouseModel", "deeper", "(I)V"⟩, 146) := ⟨⟨by decide +kernel, by decide +kernel⟩, List.mem_of_getElem? (i := 1505) (by decide +kernel), List.mem_of_getElem? (i := 2026) (by decide +kernel), List.mem_of_getElem? (i := 2027) (by decide +kernel)⟩
theorem lw_p103 : lw_okq (⟨"ShareHouseModel", "ifStatement", "(I)V"⟩, 146) := ⟨⟨by decide +kernel, by decide +kernel⟩, List.mem_of_getElem? (i := 1505) (by decide +kernel), List.mem_of_getElem? (i := 2030) (by decide +kernel), List.mem_of_getElem? (i := 2031) (by decide +kernel)⟩
theorem lw_p104 : lw_okq (⟨"ShareHouseModel", "sign", "(I)V"⟩, 146) := ⟨⟨by decide +kernel, by decide +kernel⟩, List.mem_of_getElem? (i := 1505) (by decide +kernel), List.mem_of_getElem? (i := 2034) (by decide +kernel), List.mem_of_getElem? (i := 2035) (by decide +kernel)⟩
theorem lw_p105 : lw_okq (⟨"ShareHouseModel", "expression", "()V"⟩, 146) := ⟨⟨by decide +kernel, by decide +kernel⟩, List.mem_of_getElem? (i := 1505) (by decide +kernel), List.mem_of_getElem? (i := 2038) (by decide +kernel), List.mem_of_getElem? (i := 2039) (by decide +kernel)⟩
theorem lw_p106 : lw_okq (⟨"ShareHouseModel", "takeOperand", "()Z"⟩, 146) := ⟨⟨by decide +kernel, by decide +kernel⟩, List.mem_of_getElem? (i := 1505) (by decide +kernel), List.mem_of_getElem? (i := 2042) (by decide +kernel), List.mem_of_getElem? (i := 2043) (by decide +kernel)⟩
theorem lw_p107 : lw_okq (⟨"ShareHouseModel", "push", "(III)V"⟩, 146) := ⟨⟨by decide +kernel, by decide +kernel⟩, List.mem_of_getElem? (i := 1505) (by decide +kernel), List.mem_of_getElem? (i := 2046) (by decide +kernel), List.mem_of_getElem? (i := 2047) (by decide +kernel)⟩
theorem lw_p108 : lw_okq (⟨"ShareHouseModel", "number", "(JJ)V"⟩, 146) := ⟨⟨by decide +kernel, by decide +kernel⟩, List.mem_of_getElem? (i := 1505) (by decide +kernel), List.mem_of_getElem? (i := 2051) (by decide +kernel), List.mem_of_getElem? (i := 2052) (by decide +kernel)⟩
theorem lw_p109 : lw_okq (⟨"ShareHouseModel", "name", "()I"⟩, 146) := ⟨⟨by decide +kernel, by decide +kernel⟩, List.mem_of_getElem? (i := 1505) (by decide +kernel), List.mem_of_getElem? (i := 2061) (by decide +kernel), List.mem_of_getElem? (i := 2062) (by decide +kernel)⟩
theorem lw_p110 : lw_okq (⟨"ShareHouseModel", "isKept", "()Z"⟩, 146) := ⟨⟨by decide +kernel, by decide +kernel⟩, List.mem_of_getElem? (i := 1505) (by decide +kernel), List.mem_of_getElem? (i := 2065) (by decide +kernel), List.mem_of_getElem? (i := 2066) (by decide +kernel)⟩
theorem lw_p111 : lw_okq (⟨"ShareHouseModel", "signsOver", "(I)V"⟩, 146) := ⟨⟨by decide +kernel, by decide +kernel⟩, List.mem_of_getElem? (i := 1505) (by decide +kernel), List.mem_of_getElem? (i := 2076) (by decide +kernel), List.mem_of_getElem? (i := 2077) (by decide +kernel)⟩
def lw_privs_7 : List (MethodName × Nat) := [(⟨"ShareHouseModel", "isSign", "(I)Z"⟩, 146), (⟨"ShareHouseModel", "isPair", "()Z"⟩, 146), (⟨"ShareHouseModel", "closeBlock", "()V"⟩, 146), (⟨"ShareHouseModel", "put", "(IIII)I"⟩, 146), (⟨"ShareHouseModel", "isWord", "(Ljava/lang/String;)Z"⟩, 146), (⟨"ShareHouseModel", "wordEnd", "()I"⟩, 146), (⟨"ShareHouseModel", "deeper", "(I)V"⟩, 146), (⟨"ShareHouseModel", "ifStatement", "(I)V"⟩, 146), (⟨"ShareHouseModel", "sign", "(I)V"⟩, 146), (⟨"ShareHouseModel", "expression", "()V"⟩, 146), (⟨"ShareHouseModel", "takeOperand", "()Z"⟩, 146), (⟨"ShareHouseModel", "push", "(III)V"⟩, 146), (⟨"ShareHouseModel", "number", "(JJ)V"⟩, 146), (⟨"ShareHouseModel", "name", "()I"⟩, 146), (⟨"ShareHouseModel", "isKept", "()Z"⟩, 146), (⟨"ShareHouseModel", "signsOver", "(I)V"⟩, 146)]
theorem lw_r7 : ∀ q ∈ lw_privs_7, lw_okq q := List.forall_mem_cons.mpr ⟨lw_p96, List.forall_mem_cons.mpr ⟨lw_p97, List.forall_mem_cons.mpr ⟨lw_p98, List.forall_mem_cons.mpr ⟨lw_p99, List.forall_mem_cons.mpr ⟨lw_p100, List.forall_mem_cons.mpr ⟨lw_p101, List.forall_mem_cons.mpr ⟨lw_p102, List.forall_mem_cons.mpr ⟨lw_p103, List.forall_mem_cons.mpr ⟨lw_p104, List.forall_mem_cons.mpr ⟨lw_p105, List.forall_mem_cons.mpr ⟨lw_p106, List.forall_mem_cons.mpr ⟨lw_p107, List.forall_mem_cons.mpr ⟨lw_p108, List.forall_mem_cons.mpr ⟨lw_p109, List.forall_mem_cons.mpr ⟨lw_p110, List.forall_mem_cons.mpr ⟨lw_p111, fun _ h => absurd h List.not_mem_nil⟩⟩⟩⟩⟩⟩⟩⟩⟩⟩⟩⟩⟩⟩⟩⟩
theorem lw_p112 : lw_okq (⟨"ShareHouseModel", "operator", "()I"⟩, 146) := ⟨⟨by decide +kernel, by decide +kernel⟩, List.mem_of_getElem? (i := 1505) (by decide +kernel), List.mem_of_getElem? (i := 2080) (by decide +kernel), List.mem_of_getElem? (i := 2081) (by decide +kernel)⟩
theorem lw_p113 : lw_okq (⟨"ShareHouseModel", "isFresh", "()Z"⟩, 146) := ⟨⟨by decide +kernel, by decide +kernel⟩, List.mem_of_getElem? (i := 1505) (by decide +kernel), List.mem_of_getElem? (i := 2084) (by decide +kernel), List.mem_of_getElem? (i := 2085) (by decide +kernel)⟩
theorem lw_p114 : lw_okq (⟨"ShareHouseModel", "reduce", "(II)V"⟩, 146) := ⟨⟨by decide +kernel, by decide +kernel⟩, List.mem_of_getElem? (i := 1505) (by decide +kernel), List.mem_of_getElem? (i := 2091) (by decide +kernel), List.mem_of_getElem? (i := 2092) (by decide +kernel)⟩
theorem lw_p115 : lw_okq (⟨"ShareHouseModel", "closes", "(I)Z"⟩, 146) := ⟨⟨by decide +kernel, by decide +kernel⟩, List.mem_of_getElem? (i := 1505) (by decide +kernel), List.mem_of_getElem? (i := 2095) (by decide +kernel), List.mem_of_getElem? (i := 2096) (by decide +kernel)⟩
theorem lw_p116 : lw_okq (⟨"ShareHouseModel", "reduceAll", "(I)V"⟩, 146) := ⟨⟨by decide +kernel, by decide +kernel⟩, List.mem_of_getElem? (i := 1505) (by decide +kernel), List.mem_of_getElem? (i := 2099) (by decide +kernel), List.mem_of_getElem? (i := 2100) (by decide +kernel)⟩
theorem lw_p117 : lw_okq (⟨"ShareHouseModel", "openBlock", "(II)V"⟩, 146) := ⟨⟨by decide +kernel, by decide +kernel⟩, List.mem_of_getElem? (i := 1505) (by decide +kernel), List.mem_of_getElem? (i := 2103) (by decide +kernel), List.mem_of_getElem? (i := 2104) (by decide +kernel)⟩
theorem lw_p118 : lw_okq (⟨"ShareHouseModel", "endIf", "(I)V"⟩, 146) := ⟨⟨by decide +kernel, by decide +kernel⟩, List.mem_of_getElem? (i := 1505) (by decide +kernel), List.mem_of_getElem? (i := 2107) (by decide +kernel), List.mem_of_getElem? (i := 2108) (by decide +kernel)⟩
theorem lw_p119 : lw_okq (⟨"ShareHouseModel", "varStatement", "(I)V"⟩, 146) := ⟨⟨by decide +kernel, by decide +kernel⟩, List.mem_of_getElem? (i := 1505) (by decide +kernel), List.mem_of_getElem? (i := 2111) (by decide +kernel), List.mem_of_getElem? (i := 2112) (by decide +kernel)⟩
theorem lw_p120 : lw_okq (⟨"ShareHouseModel", "type", "()V"⟩, 146) := ⟨⟨by decide +kernel, by decide +kernel⟩, List.mem_of_getElem? (i := 1505) (by decide +kernel), List.mem_of_getElem? (i := 2115) (by decide +kernel), List.mem_of_getElem? (i := 2116) (by decide +kernel)⟩
theorem lw_p121 : lw_okq (⟨"ShareHouseModel", "sortWord", "()V"⟩, 146) := ⟨⟨by decide +kernel, by decide +kernel⟩, List.mem_of_getElem? (i := 1505) (by decide +kernel), List.mem_of_getElem? (i := 2119) (by decide +kernel), List.mem_of_getElem? (i := 2120) (by decide +kernel)⟩
theorem lw_p122 : lw_okq (⟨"ShareHouseModel", "forStatement", "(I)V"⟩, 146) := ⟨⟨by decide +kernel, by decide +kernel⟩, List.mem_of_getElem? (i := 1505) (by decide +kernel), List.mem_of_getElem? (i := 2126) (by decide +kernel), List.mem_of_getElem? (i := 2127) (by decide +kernel)⟩
theorem lw_p123 : lw_okq (⟨"ShareHouseModel", "keyword", "(Ljava/lang/String;)V"⟩, 146) := ⟨⟨by decide +kernel, by decide +kernel⟩, List.mem_of_getElem? (i := 1505) (by decide +kernel), List.mem_of_getElem? (i := 2130) (by decide +kernel), List.mem_of_getElem? (i := 2131) (by decide +kernel)⟩
theorem lw_p124 : lw_okq (⟨"ShareHouseModel", "inputItem", "(I)V"⟩, 146) := ⟨⟨by decide +kernel, by decide +kernel⟩, List.mem_of_getElem? (i := 1505) (by decide +kernel), List.mem_of_getElem? (i := 2134) (by decide +kernel), List.mem_of_getElem? (i := 2135) (by decide +kernel)⟩
theorem lw_p125 : lw_okq (⟨"ShareHouseModel", "defItem", "(I)V"⟩, 146) := ⟨⟨by decide +kernel, by decide +kernel⟩, List.mem_of_getElem? (i := 1505) (by decide +kernel), List.mem_of_getElem? (i := 2138) (by decide +kernel), List.mem_of_getElem? (i := 2139) (by decide +kernel)⟩
theorem lw_p126 : lw_okq (⟨"ShareHouseModel", "outputItem", "(I)V"⟩, 146) := ⟨⟨by decide +kernel, by decide +kernel⟩, List.mem_of_getElem? (i := 1505) (by decide +kernel), List.mem_of_getElem? (i := 2142) (by decide +kernel), List.mem_of_getElem? (i := 2143) (by decide +kernel)⟩
theorem lw_p127 : lw_okq (⟨"ShareHouseModel", "assignment", "(I)V"⟩, 146) := ⟨⟨by decide +kernel, by decide +kernel⟩, List.mem_of_getElem? (i := 1505) (by decide +kernel), List.mem_of_getElem? (i := 2146) (by decide +kernel), List.mem_of_getElem? (i := 2147) (by decide +kernel)⟩
def lw_privs_8 : List (MethodName × Nat) := [(⟨"ShareHouseModel", "operator", "()I"⟩, 146), (⟨"ShareHouseModel", "isFresh", "()Z"⟩, 146), (⟨"ShareHouseModel", "reduce", "(II)V"⟩, 146), (⟨"ShareHouseModel", "closes", "(I)Z"⟩, 146), (⟨"ShareHouseModel", "reduceAll", "(I)V"⟩, 146), (⟨"ShareHouseModel", "openBlock", "(II)V"⟩, 146), (⟨"ShareHouseModel", "endIf", "(I)V"⟩, 146), (⟨"ShareHouseModel", "varStatement", "(I)V"⟩, 146), (⟨"ShareHouseModel", "type", "()V"⟩, 146), (⟨"ShareHouseModel", "sortWord", "()V"⟩, 146), (⟨"ShareHouseModel", "forStatement", "(I)V"⟩, 146), (⟨"ShareHouseModel", "keyword", "(Ljava/lang/String;)V"⟩, 146), (⟨"ShareHouseModel", "inputItem", "(I)V"⟩, 146), (⟨"ShareHouseModel", "defItem", "(I)V"⟩, 146), (⟨"ShareHouseModel", "outputItem", "(I)V"⟩, 146), (⟨"ShareHouseModel", "assignment", "(I)V"⟩, 146)]
theorem lw_r8 : ∀ q ∈ lw_privs_8, lw_okq q := List.forall_mem_cons.mpr ⟨lw_p112, List.forall_mem_cons.mpr ⟨lw_p113, List.forall_mem_cons.mpr ⟨lw_p114, List.forall_mem_cons.mpr ⟨lw_p115, List.forall_mem_cons.mpr ⟨lw_p116, List.forall_mem_cons.mpr ⟨lw_p117, List.forall_mem_cons.mpr ⟨lw_p118, List.forall_mem_cons.mpr ⟨lw_p119, List.forall_mem_cons.mpr ⟨lw_p120, List.forall_mem_cons.mpr ⟨lw_p121, List.forall_mem_cons.mpr ⟨lw_p122, List.forall_mem_cons.mpr ⟨lw_p123, List.forall_mem_cons.mpr ⟨lw_p124, List.forall_mem_cons.mpr ⟨lw_p125, List.forall_mem_cons.mpr ⟨lw_p126, List.forall_mem_cons.mpr ⟨lw_p127, fun _ h => absurd h List.not_mem_nil⟩⟩⟩⟩⟩⟩⟩⟩⟩⟩⟩⟩⟩⟩⟩⟩
theorem lw_p128 : lw_okq (⟨"ShareHouseModel", "sorts", "()V"⟩, 146) := ⟨⟨by decide +kernel, by decide +kernel⟩, List.mem_of_getElem? (i := 1505) (by decide +kernel), List.mem_of_getElem? (i := 2150) (by decide +kernel), List.mem_of_getElem? (i := 2151) (by decide +kernel)⟩
theorem lw_p129 : lw_okq (⟨"ShareHouseModel", "operandSort", "(I)V"⟩, 146) := ⟨⟨by decide +kernel, by decide +kernel⟩, List.mem_of_getElem? (i := 1505) (by decide +kernel), List.mem_of_getElem? (i := 2154) (by decide +kernel), List.mem_of_getElem? (i := 2155) (by decide +kernel)⟩
theorem lw_p130 : lw_okq (⟨"ShareHouseModel", "pile", "(IIZ)V"⟩, 146) := ⟨⟨by decide +kernel, by decide +kernel⟩, List.mem_of_getElem? (i := 1505) (by decide +kernel), List.mem_of_getElem? (i := 2158) (by decide +kernel), List.mem_of_getElem? (i := 2159) (by decide +kernel)⟩
theorem lw_p131 : lw_okq (⟨"ShareHouseModel", "used", "(I)I"⟩, 146) := ⟨⟨by decide +kernel, by decide +kernel⟩, List.mem_of_getElem? (i := 1505) (by decide +kernel), List.mem_of_getElem? (i := 2162) (by decide +kernel), List.mem_of_getElem? (i := 2163) (by decide +kernel)⟩
theorem lw_p132 : lw_okq (⟨"ShareHouseModel", "visible", "(I)I"⟩, 146) := ⟨⟨by decide +kernel, by decide +kernel⟩, List.mem_of_getElem? (i := 1505) (by decide +kernel), List.mem_of_getElem? (i := 2166) (by decide +kernel), List.mem_of_getElem? (i := 2167) (by decide +kernel)⟩
theorem lw_p133 : lw_okq (⟨"ShareHouseModel", "refer", "(II)V"⟩, 146) := ⟨⟨by decide +kernel, by decide +kernel⟩, List.mem_of_getElem? (i := 1505) (by decide +kernel), List.mem_of_getElem? (i := 2170) (by decide +kernel), List.mem_of_getElem? (i := 2171) (by decide +kernel)⟩
theorem lw_p134 : lw_okq (⟨"ShareHouseModel", "must", "(I)V"⟩, 146) := ⟨⟨by decide +kernel, by decide +kernel⟩, List.mem_of_getElem? (i := 1505) (by decide +kernel), List.mem_of_getElem? (i := 2174) (by decide +kernel), List.mem_of_getElem? (i := 2175) (by decide +kernel)⟩
theorem lw_p135 : lw_okq (⟨"ShareHouseModel", "bitSort", "(I)V"⟩, 146) := ⟨⟨by decide +kernel, by decide +kernel⟩, List.mem_of_getElem? (i := 1505) (by decide +kernel), List.mem_of_getElem? (i := 2178) (by decide +kernel), List.mem_of_getElem? (i := 2179) (by decide +kernel)⟩
theorem lw_p136 : lw_okq (⟨"ShareHouseModel", "mustPublic", "()V"⟩, 146) := ⟨⟨by decide +kernel, by decide +kernel⟩, List.mem_of_getElem? (i := 1505) (by decide +kernel), List.mem_of_getElem? (i := 2182) (by decide +kernel), List.mem_of_getElem? (i := 2183) (by decide +kernel)⟩
theorem lw_p137 : lw_okq (⟨"ShareHouseModel", "unarySort", "(I)V"⟩, 146) := ⟨⟨by decide +kernel, by decide +kernel⟩, List.mem_of_getElem? (i := 1505) (by decide +kernel), List.mem_of_getElem? (i := 2186) (by decide +kernel), List.mem_of_getElem? (i := 2187) (by decide +kernel)⟩
theorem lw_p138 : lw_okq (⟨"ShareHouseModel", "binarySort", "(I)V"⟩, 146) := ⟨⟨by decide +kernel, by decide +kernel⟩, List.mem_of_getElem? (i := 1505) (by decide +kernel), List.mem_of_getElem? (i := 2190) (by decide +kernel), List.mem_of_getElem? (i := 2191) (by decide +kernel)⟩
theorem lw_p139 : lw_okq (⟨"ShareHouseModel", "selectSort", "(I)V"⟩, 146) := ⟨⟨by decide +kernel, by decide +kernel⟩, List.mem_of_getElem? (i := 1505) (by decide +kernel), List.mem_of_getElem? (i := 2194) (by decide +kernel), List.mem_of_getElem? (i := 2195) (by decide +kernel)⟩
theorem lw_p140 : lw_okq (⟨"ShareHouseModel", "statementSort", "(I)V"⟩, 146) := ⟨⟨by decide +kernel, by decide +kernel⟩, List.mem_of_getElem? (i := 1505) (by decide +kernel), List.mem_of_getElem? (i := 2198) (by decide +kernel), List.mem_of_getElem? (i := 2199) (by decide +kernel)⟩
theorem lw_p141 : lw_okq (⟨"ShareHouseModel", "comes", "(I)V"⟩, 146) := ⟨⟨by decide +kernel, by decide +kernel⟩, List.mem_of_getElem? (i := 1505) (by decide +kernel), List.mem_of_getElem? (i := 2202) (by decide +kernel), List.mem_of_getElem? (i := 2203) (by decide +kernel)⟩
theorem lw_p142 : lw_okq (⟨"ShareHouseModel", "paramSort", "(I)V"⟩, 146) := ⟨⟨by decide +kernel, by decide +kernel⟩, List.mem_of_getElem? (i := 1505) (by decide +kernel), List.mem_of_getElem? (i := 2206) (by decide +kernel), List.mem_of_getElem? (i := 2207) (by decide +kernel)⟩
theorem lw_p143 : lw_okq (⟨"ShareHouseModel", "symbol", "(IIIII)I"⟩, 146) := ⟨⟨by decide +kernel, by decide +kernel⟩, List.mem_of_getElem? (i := 1505) (by decide +kernel), List.mem_of_getElem? (i := 2210) (by decide +kernel), List.mem_of_getElem? (i := 2211) (by decide +kernel)⟩
def lw_privs_9 : List (MethodName × Nat) := [(⟨"ShareHouseModel", "sorts", "()V"⟩, 146), (⟨"ShareHouseModel", "operandSort", "(I)V"⟩, 146), (⟨"ShareHouseModel", "pile", "(IIZ)V"⟩, 146), (⟨"ShareHouseModel", "used", "(I)I"⟩, 146), (⟨"ShareHouseModel", "visible", "(I)I"⟩, 146), (⟨"ShareHouseModel", "refer", "(II)V"⟩, 146), (⟨"ShareHouseModel", "must", "(I)V"⟩, 146), (⟨"ShareHouseModel", "bitSort", "(I)V"⟩, 146), (⟨"ShareHouseModel", "mustPublic", "()V"⟩, 146), (⟨"ShareHouseModel", "unarySort", "(I)V"⟩, 146), (⟨"ShareHouseModel", "binarySort", "(I)V"⟩, 146), (⟨"ShareHouseModel", "selectSort", "(I)V"⟩, 146), (⟨"ShareHouseModel", "statementSort", "(I)V"⟩, 146), (⟨"ShareHouseModel", "comes", "(I)V"⟩, 146), (⟨"ShareHouseModel", "paramSort", "(I)V"⟩, 146), (⟨"ShareHouseModel", "symbol", "(IIIII)I"⟩, 146)]
theorem lw_r9 : ∀ q ∈ lw_privs_9, lw_okq q := List.forall_mem_cons.mpr ⟨lw_p128, List.forall_mem_cons.mpr ⟨lw_p129, List.forall_mem_cons.mpr ⟨lw_p130, List.forall_mem_cons.mpr ⟨lw_p131, List.forall_mem_cons.mpr ⟨lw_p132, List.forall_mem_cons.mpr ⟨lw_p133, List.forall_mem_cons.mpr ⟨lw_p134, List.forall_mem_cons.mpr ⟨lw_p135, List.forall_mem_cons.mpr ⟨lw_p136, List.forall_mem_cons.mpr ⟨lw_p137, List.forall_mem_cons.mpr ⟨lw_p138, List.forall_mem_cons.mpr ⟨lw_p139, List.forall_mem_cons.mpr ⟨lw_p140, List.forall_mem_cons.mpr ⟨lw_p141, List.forall_mem_cons.mpr ⟨lw_p142, List.forall_mem_cons.mpr ⟨lw_p143, fun _ h => absurd h List.not_mem_nil⟩⟩⟩⟩⟩⟩⟩⟩⟩⟩⟩⟩⟩⟩⟩⟩
theorem lw_p144 : lw_okq (⟨"ShareHouseModel", "assigned", "(I)V"⟩, 146) := ⟨⟨by decide +kernel, by decide +kernel⟩, List.mem_of_getElem? (i := 1505) (by decide +kernel), List.mem_of_getElem? (i := 2215) (by decide +kernel), List.mem_of_getElem? (i := 2216) (by decide +kernel)⟩
theorem lw_p145 : lw_okq (⟨"ShareHouseModel", "elementSort", "(I)V"⟩, 146) := ⟨⟨by decide +kernel, by decide +kernel⟩, List.mem_of_getElem? (i := 1505) (by decide +kernel), List.mem_of_getElem? (i := 2219) (by decide +kernel), List.mem_of_getElem? (i := 2220) (by decide +kernel)⟩
theorem lw_p146 : lw_okq (⟨"ShareHouseModel", "build", "()V"⟩, 146) := ⟨⟨by decide +kernel, by decide +kernel⟩, List.mem_of_getElem? (i := 1505) (by decide +kernel), List.mem_of_getElem? (i := 2223) (by decide +kernel), List.mem_of_getElem? (i := 2224) (by decide +kernel)⟩
theorem lw_p147 : lw_okq (⟨"ShareHouseModel", "inputsOfAll", "()V"⟩, 146) := ⟨⟨by decide +kernel, by decide +kernel⟩, List.mem_of_getElem? (i := 1505) (by decide +kernel), List.mem_of_getElem? (i := 2227) (by decide +kernel), List.mem_of_getElem? (i := 2228) (by decide +kernel)⟩
theorem lw_p148 : lw_okq (⟨"ShareHouseModel", "widthOf", "(I)I"⟩, 146) := ⟨⟨by decide +kernel, by decide +kernel⟩, List.mem_of_getElem? (i := 1505) (by decide +kernel), List.mem_of_getElem? (i := 2231) (by decide +kernel), List.mem_of_getElem? (i := 2232) (by decide +kernel)⟩
theorem lw_p149 : lw_okq (⟨"ShareHouseModel", "operand", "(I)I"⟩, 146) := ⟨⟨by decide +kernel, by decide +kernel⟩, List.mem_of_getElem? (i := 1505) (by decide +kernel), List.mem_of_getElem? (i := 2235) (by decide +kernel), List.mem_of_getElem? (i := 2236) (by decide +kernel)⟩
theorem lw_p150 : lw_okq (⟨"ShareHouseModel", "step", "()V"⟩, 146) := ⟨⟨by decide +kernel, by decide +kernel⟩, List.mem_of_getElem? (i := 1505) (by decide +kernel), List.mem_of_getElem? (i := 2239) (by decide +kernel), List.mem_of_getElem? (i := 2240) (by decide +kernel)⟩
theorem lw_p151 : lw_okq (⟨"ShareHouseModel", "statementPlace", "()I"⟩, 146) := ⟨⟨by decide +kernel, by decide +kernel⟩, List.mem_of_getElem? (i := 1505) (by decide +kernel), List.mem_of_getElem? (i := 2244) (by decide +kernel), List.mem_of_getElem? (i := 2245) (by decide +kernel)⟩
theorem lw_p152 : lw_okq (⟨"ShareHouseModel", "constantZ", "(JI)V"⟩, 146) := ⟨⟨by decide +kernel, by decide +kernel⟩, List.mem_of_getElem? (i := 1505) (by decide +kernel), List.mem_of_getElem? (i := 2248) (by decide +kernel), List.mem_of_getElem? (i := 2249) (by decide +kernel)⟩
theorem lw_p153 : lw_okq (⟨"ShareHouseModel", "pushZ", "(I)V"⟩, 146) := ⟨⟨by decide +kernel, by decide +kernel⟩, List.mem_of_getElem? (i := 1505) (by decide +kernel), List.mem_of_getElem? (i := 2252) (by decide +kernel), List.mem_of_getElem? (i := 2253) (by decide +kernel)⟩
theorem lw_p154 : lw_okq (⟨"ShareHouseModel", "named", "(I)V"⟩, 146) := ⟨⟨by decide +kernel, by decide +kernel⟩, List.mem_of_getElem? (i := 1505) (by decide +kernel), List.mem_of_getElem? (i := 2256) (by decide +kernel), List.mem_of_getElem? (i := 2257) (by decide +kernel)⟩
theorem lw_p155 : lw_okq (⟨"ShareHouseModel", "indexed", "(I)V"⟩, 146) := ⟨⟨by decide +kernel, by decide +kernel⟩, List.mem_of_getElem? (i := 1505) (by decide +kernel), List.mem_of_getElem? (i := 2260) (by decide +kernel), List.mem_of_getElem? (i := 2261) (by decide +kernel)⟩
theorem lw_p156 : lw_okq (⟨"ShareHouseModel", "worthOf", "(I)J"⟩, 146) := ⟨⟨by decide +kernel, by decide +kernel⟩, List.mem_of_getElem? (i := 1505) (by decide +kernel), List.mem_of_getElem? (i := 2264) (by decide +kernel), List.mem_of_getElem? (i := 2265) (by decide +kernel)⟩
theorem lw_p157 : lw_okq (⟨"ShareHouseModel", "elementBit", "(III)I"⟩, 146) := ⟨⟨by decide +kernel, by decide +kernel⟩, List.mem_of_getElem? (i := 1505) (by decide +kernel), List.mem_of_getElem? (i := 2268) (by decide +kernel), List.mem_of_getElem? (i := 2269) (by decide +kernel)⟩
theorem lw_p158 : lw_okq (⟨"ShareHouseModel", "popX", "(I)V"⟩, 146) := ⟨⟨by decide +kernel, by decide +kernel⟩, List.mem_of_getElem? (i := 1505) (by decide +kernel), List.mem_of_getElem? (i := 2272) (by decide +kernel), List.mem_of_getElem? (i := 2273) (by decide +kernel)⟩
theorem lw_p159 : lw_okq (⟨"ShareHouseModel", "isIndex", "(I)I"⟩, 146) := ⟨⟨by decide +kernel, by decide +kernel⟩, List.mem_of_getElem? (i := 1505) (by decide +kernel), List.mem_of_getElem? (i := 2276) (by decide +kernel), List.mem_of_getElem? (i := 2277) (by decide +kernel)⟩
def lw_privs_10 : List (MethodName × Nat) := [(⟨"ShareHouseModel", "assigned", "(I)V"⟩, 146), (⟨"ShareHouseModel", "elementSort", "(I)V"⟩, 146), (⟨"ShareHouseModel", "build", "()V"⟩, 146), (⟨"ShareHouseModel", "inputsOfAll", "()V"⟩, 146), (⟨"ShareHouseModel", "widthOf", "(I)I"⟩, 146), (⟨"ShareHouseModel", "operand", "(I)I"⟩, 146), (⟨"ShareHouseModel", "step", "()V"⟩, 146), (⟨"ShareHouseModel", "statementPlace", "()I"⟩, 146), (⟨"ShareHouseModel", "constantZ", "(JI)V"⟩, 146), (⟨"ShareHouseModel", "pushZ", "(I)V"⟩, 146), (⟨"ShareHouseModel", "named", "(I)V"⟩, 146), (⟨"ShareHouseModel", "indexed", "(I)V"⟩, 146), (⟨"ShareHouseModel", "worthOf", "(I)J"⟩, 146), (⟨"ShareHouseModel", "elementBit", "(III)I"⟩, 146), (⟨"ShareHouseModel", "popX", "(I)V"⟩, 146), (⟨"ShareHouseModel", "isIndex", "(I)I"⟩, 146)]
theorem lw_r10 : ∀ q ∈ lw_privs_10, lw_okq q := List.forall_mem_cons.mpr ⟨lw_p144, List.forall_mem_cons.mpr ⟨lw_p145, List.forall_mem_cons.mpr ⟨lw_p146, List.forall_mem_cons.mpr ⟨lw_p147, List.forall_mem_cons.mpr ⟨lw_p148, List.forall_mem_cons.mpr ⟨lw_p149, List.forall_mem_cons.mpr ⟨lw_p150, List.forall_mem_cons.mpr ⟨lw_p151, List.forall_mem_cons.mpr ⟨lw_p152, List.forall_mem_cons.mpr ⟨lw_p153, List.forall_mem_cons.mpr ⟨lw_p154, List.forall_mem_cons.mpr ⟨lw_p155, List.forall_mem_cons.mpr ⟨lw_p156, List.forall_mem_cons.mpr ⟨lw_p157, List.forall_mem_cons.mpr ⟨lw_p158, List.forall_mem_cons.mpr ⟨lw_p159, fun _ h => absurd h List.not_mem_nil⟩⟩⟩⟩⟩⟩⟩⟩⟩⟩⟩⟩⟩⟩⟩⟩
theorem lw_p160 : lw_okq (⟨"ShareHouseModel", "equal", "(I)I"⟩, 146) := ⟨⟨by decide +kernel, by decide +kernel⟩, List.mem_of_getElem? (i := 1505) (by decide +kernel), List.mem_of_getElem? (i := 2280) (by decide +kernel), List.mem_of_getElem? (i := 2281) (by decide +kernel)⟩
theorem lw_p161 : lw_okq (⟨"ShareHouseModel", "xor", "(II)I"⟩, 146) := ⟨⟨by decide +kernel, by decide +kernel⟩, List.mem_of_getElem? (i := 1505) (by decide +kernel), List.mem_of_getElem? (i := 2284) (by decide +kernel), List.mem_of_getElem? (i := 2285) (by decide +kernel)⟩
theorem lw_p162 : lw_okq (⟨"ShareHouseModel", "levelOf", "(I)I"⟩, 146) := ⟨⟨by decide +kernel, by decide +kernel⟩, List.mem_of_getElem? (i := 1505) (by decide +kernel), List.mem_of_getElem? (i := 2288) (by decide +kernel), List.mem_of_getElem? (i := 2289) (by decide +kernel)⟩
theorem lw_p163 : lw_okq (⟨"ShareHouseModel", "newGate", "(IIII)I"⟩, 146) := ⟨⟨by decide +kernel, by decide +kernel⟩, List.mem_of_getElem? (i := 1505) (by decide +kernel), List.mem_of_getElem? (i := 2292) (by decide +kernel), List.mem_of_getElem? (i := 2293) (by decide +kernel)⟩
theorem lw_p164 : lw_okq (⟨"ShareHouseModel", "and", "(II)I"⟩, 146) := ⟨⟨by decide +kernel, by decide +kernel⟩, List.mem_of_getElem? (i := 1505) (by decide +kernel), List.mem_of_getElem? (i := 2296) (by decide +kernel), List.mem_of_getElem? (i := 2297) (by decide +kernel)⟩
theorem lw_p165 : lw_okq (⟨"ShareHouseModel", "bodyOf", "(I)I"⟩, 146) := ⟨⟨by decide +kernel, by decide +kernel⟩, List.mem_of_getElem? (i := 1505) (by decide +kernel), List.mem_of_getElem? (i := 2300) (by decide +kernel), List.mem_of_getElem? (i := 2301) (by decide +kernel)⟩
theorem lw_p166 : lw_okq (⟨"ShareHouseModel", "unary", "(I)V"⟩, 146) := ⟨⟨by decide +kernel, by decide +kernel⟩, List.mem_of_getElem? (i := 1505) (by decide +kernel), List.mem_of_getElem? (i := 2304) (by decide +kernel), List.mem_of_getElem? (i := 2305) (by decide +kernel)⟩
theorem lw_p167 : lw_okq (⟨"ShareHouseModel", "sum", "(II)V"⟩, 146) := ⟨⟨by decide +kernel, by decide +kernel⟩, List.mem_of_getElem? (i := 1505) (by decide +kernel), List.mem_of_getElem? (i := 2308) (by decide +kernel), List.mem_of_getElem? (i := 2309) (by decide +kernel)⟩
theorem lw_p168 : lw_okq (⟨"ShareHouseModel", "binary", "(I)V"⟩, 146) := ⟨⟨by decide +kernel, by decide +kernel⟩, List.mem_of_getElem? (i := 1505) (by decide +kernel), List.mem_of_getElem? (i := 2312) (by decide +kernel), List.mem_of_getElem? (i := 2313) (by decide +kernel)⟩
theorem lw_p169 : lw_okq (⟨"ShareHouseModel", "popY", "(I)V"⟩, 146) := ⟨⟨by decide +kernel, by decide +kernel⟩, List.mem_of_getElem? (i := 1505) (by decide +kernel), List.mem_of_getElem? (i := 2316) (by decide +kernel), List.mem_of_getElem? (i := 2317) (by decide +kernel)⟩
theorem lw_p170 : lw_okq (⟨"ShareHouseModel", "less", "()I"⟩, 146) := ⟨⟨by decide +kernel, by decide +kernel⟩, List.mem_of_getElem? (i := 1505) (by decide +kernel), List.mem_of_getElem? (i := 2320) (by decide +kernel), List.mem_of_getElem? (i := 2321) (by decide +kernel)⟩
theorem lw_p171 : lw_okq (⟨"ShareHouseModel", "swap", "()V"⟩, 146) := ⟨⟨by decide +kernel, by decide +kernel⟩, List.mem_of_getElem? (i := 1505) (by decide +kernel), List.mem_of_getElem? (i := 2324) (by decide +kernel), List.mem_of_getElem? (i := 2325) (by decide +kernel)⟩
theorem lw_p172 : lw_okq (⟨"ShareHouseModel", "multiply", "()V"⟩, 146) := ⟨⟨by decide +kernel, by decide +kernel⟩, List.mem_of_getElem? (i := 1505) (by decide +kernel), List.mem_of_getElem? (i := 2328) (by decide +kernel), List.mem_of_getElem? (i := 2329) (by decide +kernel)⟩
theorem lw_p173 : lw_okq (⟨"ShareHouseModel", "divide", "()V"⟩, 146) := ⟨⟨by decide +kernel, by decide +kernel⟩, List.mem_of_getElem? (i := 1505) (by decide +kernel), List.mem_of_getElem? (i := 2332) (by decide +kernel), List.mem_of_getElem? (i := 2333) (by decide +kernel)⟩
theorem lw_p174 : lw_okq (⟨"ShareHouseModel", "mux", "(III)I"⟩, 146) := ⟨⟨by decide +kernel, by decide +kernel⟩, List.mem_of_getElem? (i := 1505) (by decide +kernel), List.mem_of_getElem? (i := 2336) (by decide +kernel), List.mem_of_getElem? (i := 2337) (by decide +kernel)⟩
theorem lw_p175 : lw_okq (⟨"ShareHouseModel", "statement", "(I)I"⟩, 146) := ⟨⟨by decide +kernel, by decide +kernel⟩, List.mem_of_getElem? (i := 1505) (by decide +kernel), List.mem_of_getElem? (i := 2340) (by decide +kernel), List.mem_of_getElem? (i := 2341) (by decide +kernel)⟩
def lw_privs_11 : List (MethodName × Nat) := [(⟨"ShareHouseModel", "equal", "(I)I"⟩, 146), (⟨"ShareHouseModel", "xor", "(II)I"⟩, 146), (⟨"ShareHouseModel", "levelOf", "(I)I"⟩, 146), (⟨"ShareHouseModel", "newGate", "(IIII)I"⟩, 146), (⟨"ShareHouseModel", "and", "(II)I"⟩, 146), (⟨"ShareHouseModel", "bodyOf", "(I)I"⟩, 146), (⟨"ShareHouseModel", "unary", "(I)V"⟩, 146), (⟨"ShareHouseModel", "sum", "(II)V"⟩, 146), (⟨"ShareHouseModel", "binary", "(I)V"⟩, 146), (⟨"ShareHouseModel", "popY", "(I)V"⟩, 146), (⟨"ShareHouseModel", "less", "()I"⟩, 146), (⟨"ShareHouseModel", "swap", "()V"⟩, 146), (⟨"ShareHouseModel", "multiply", "()V"⟩, 146), (⟨"ShareHouseModel", "divide", "()V"⟩, 146), (⟨"ShareHouseModel", "mux", "(III)I"⟩, 146), (⟨"ShareHouseModel", "statement", "(I)I"⟩, 146)]
theorem lw_r11 : ∀ q ∈ lw_privs_11, lw_okq q := List.forall_mem_cons.mpr ⟨lw_p160, List.forall_mem_cons.mpr ⟨lw_p161, List.forall_mem_cons.mpr ⟨lw_p162, List.forall_mem_cons.mpr ⟨lw_p163, List.forall_mem_cons.mpr ⟨lw_p164, List.forall_mem_cons.mpr ⟨lw_p165, List.forall_mem_cons.mpr ⟨lw_p166, List.forall_mem_cons.mpr ⟨lw_p167, List.forall_mem_cons.mpr ⟨lw_p168, List.forall_mem_cons.mpr ⟨lw_p169, List.forall_mem_cons.mpr ⟨lw_p170, List.forall_mem_cons.mpr ⟨lw_p171, List.forall_mem_cons.mpr ⟨lw_p172, List.forall_mem_cons.mpr ⟨lw_p173, List.forall_mem_cons.mpr ⟨lw_p174, List.forall_mem_cons.mpr ⟨lw_p175, fun _ h => absurd h List.not_mem_nil⟩⟩⟩⟩⟩⟩⟩⟩⟩⟩⟩⟩⟩⟩⟩⟩
theorem lw_p176 : lw_okq (⟨"ShareHouseModel", "variable", "(I)V"⟩, 146) := ⟨⟨by decide +kernel, by decide +kernel⟩, List.mem_of_getElem? (i := 1505) (by decide +kernel), List.mem_of_getElem? (i := 2344) (by decide +kernel), List.mem_of_getElem? (i := 2345) (by decide +kernel)⟩
theorem lw_p177 : lw_okq (⟨"ShareHouseModel", "setElement", "(I)V"⟩, 146) := ⟨⟨by decide +kernel, by decide +kernel⟩, List.mem_of_getElem? (i := 1505) (by decide +kernel), List.mem_of_getElem? (i := 2348) (by decide +kernel), List.mem_of_getElem? (i := 2349) (by decide +kernel)⟩
theorem lw_p178 : lw_okq (⟨"ShareHouseModel", "keepVars", "([II)V"⟩, 146) := ⟨⟨by decide +kernel, by decide +kernel⟩, List.mem_of_getElem? (i := 1505) (by decide +kernel), List.mem_of_getElem? (i := 2352) (by decide +kernel), List.mem_of_getElem? (i := 2353) (by decide +kernel)⟩
theorem lw_p179 : lw_okq (⟨"ShareHouseModel", "bringVars", "([II)V"⟩, 146) := ⟨⟨by decide +kernel, by decide +kernel⟩, List.mem_of_getElem? (i := 1505) (by decide +kernel), List.mem_of_getElem? (i := 2356) (by decide +kernel), List.mem_of_getElem? (i := 2357) (by decide +kernel)⟩
theorem lw_p180 : lw_okq (⟨"ShareHouseModel", "endOfIf", "()V"⟩, 146) := ⟨⟨by decide +kernel, by decide +kernel⟩, List.mem_of_getElem? (i := 1505) (by decide +kernel), List.mem_of_getElem? (i := 2360) (by decide +kernel), List.mem_of_getElem? (i := 2361) (by decide +kernel)⟩
theorem lw_p181 : lw_okq (⟨"ShareHouseModel", "levels", "()V"⟩, 146) := ⟨⟨by decide +kernel, by decide +kernel⟩, List.mem_of_getElem? (i := 1505) (by decide +kernel), List.mem_of_getElem? (i := 2364) (by decide +kernel), List.mem_of_getElem? (i := 2365) (by decide +kernel)⟩
theorem lw_p182 : lw_okq (⟨"ShareHouseModel", "done", "()I"⟩, 146) := ⟨⟨by decide +kernel, by decide +kernel⟩, List.mem_of_getElem? (i := 1505) (by decide +kernel), List.mem_of_getElem? (i := 2372) (by decide +kernel), List.mem_of_getElem? (i := 2373) (by decide +kernel)⟩
theorem lw_p183 : lw_okq (⟨"ShareHouseModel", "shareAll", "()V"⟩, 146) := ⟨⟨by decide +kernel, by decide +kernel⟩, List.mem_of_getElem? (i := 1505) (by decide +kernel), List.mem_of_getElem? (i := 2405) (by decide +kernel), List.mem_of_getElem? (i := 2406) (by decide +kernel)⟩
theorem lw_p184 : lw_okq (⟨"ShareHouseModel", "draw", "()I"⟩, 146) := ⟨⟨by decide +kernel, by decide +kernel⟩, List.mem_of_getElem? (i := 1505) (by decide +kernel), List.mem_of_getElem? (i := 2409) (by decide +kernel), List.mem_of_getElem? (i := 2410) (by decide +kernel)⟩
theorem lw_p185 : lw_okq (⟨"ShareHouseModel", "shareOf", "(I)I"⟩, 146) := ⟨⟨by decide +kernel, by decide +kernel⟩, List.mem_of_getElem? (i := 1505) (by decide +kernel), List.mem_of_getElem? (i := 2418) (by decide +kernel), List.mem_of_getElem? (i := 2419) (by decide +kernel)⟩
theorem lw_p186 : lw_okq (⟨"ShareHouseModel", "sendRound", "(I)V"⟩, 146) := ⟨⟨by decide +kernel, by decide +kernel⟩, List.mem_of_getElem? (i := 1505) (by decide +kernel), List.mem_of_getElem? (i := 2422) (by decide +kernel), List.mem_of_getElem? (i := 2423) (by decide +kernel)⟩
theorem lw_p187 : lw_okq (⟨"ShareHouseModel", "lengthOf", "(II)I"⟩, 146) := ⟨⟨by decide +kernel, by decide +kernel⟩, List.mem_of_getElem? (i := 1505) (by decide +kernel), List.mem_of_getElem? (i := 2430) (by decide +kernel), List.mem_of_getElem? (i := 2431) (by decide +kernel)⟩
theorem lw_p188 : lw_okq (⟨"ShareHouseModel", "sentBit", "(IIII)I"⟩, 146) := ⟨⟨by decide +kernel, by decide +kernel⟩, List.mem_of_getElem? (i := 1505) (by decide +kernel), List.mem_of_getElem? (i := 2434) (by decide +kernel), List.mem_of_getElem? (i := 2435) (by decide +kernel)⟩
theorem lw_p189 : lw_okq (⟨"ShareHouseModel", "takeMessage", "(I)I"⟩, 146) := ⟨⟨by decide +kernel, by decide +kernel⟩, List.mem_of_getElem? (i := 1505) (by decide +kernel), List.mem_of_getElem? (i := 2442) (by decide +kernel), List.mem_of_getElem? (i := 2443) (by decide +kernel)⟩
theorem lw_p190 : lw_okq (⟨"ShareHouseModel", "viewBits", "(I)I"⟩, 146) := ⟨⟨by decide +kernel, by decide +kernel⟩, List.mem_of_getElem? (i := 1505) (by decide +kernel), List.mem_of_getElem? (i := 2454) (by decide +kernel), List.mem_of_getElem? (i := 2455) (by decide +kernel)⟩
theorem lw_p191 : lw_okq (⟨"ShareHouseModel", "mean", "()V"⟩, 146) := ⟨⟨by decide +kernel, by decide +kernel⟩, List.mem_of_getElem? (i := 1505) (by decide +kernel), List.mem_of_getElem? (i := 2478) (by decide +kernel), List.mem_of_getElem? (i := 2479) (by decide +kernel)⟩
def lw_privs_12 : List (MethodName × Nat) := [(⟨"ShareHouseModel", "variable", "(I)V"⟩, 146), (⟨"ShareHouseModel", "setElement", "(I)V"⟩, 146), (⟨"ShareHouseModel", "keepVars", "([II)V"⟩, 146), (⟨"ShareHouseModel", "bringVars", "([II)V"⟩, 146), (⟨"ShareHouseModel", "endOfIf", "()V"⟩, 146), (⟨"ShareHouseModel", "levels", "()V"⟩, 146), (⟨"ShareHouseModel", "done", "()I"⟩, 146), (⟨"ShareHouseModel", "shareAll", "()V"⟩, 146), (⟨"ShareHouseModel", "draw", "()I"⟩, 146), (⟨"ShareHouseModel", "shareOf", "(I)I"⟩, 146), (⟨"ShareHouseModel", "sendRound", "(I)V"⟩, 146), (⟨"ShareHouseModel", "lengthOf", "(II)I"⟩, 146), (⟨"ShareHouseModel", "sentBit", "(IIII)I"⟩, 146), (⟨"ShareHouseModel", "takeMessage", "(I)I"⟩, 146), (⟨"ShareHouseModel", "viewBits", "(I)I"⟩, 146), (⟨"ShareHouseModel", "mean", "()V"⟩, 146)]
theorem lw_r12 : ∀ q ∈ lw_privs_12, lw_okq q := List.forall_mem_cons.mpr ⟨lw_p176, List.forall_mem_cons.mpr ⟨lw_p177, List.forall_mem_cons.mpr ⟨lw_p178, List.forall_mem_cons.mpr ⟨lw_p179, List.forall_mem_cons.mpr ⟨lw_p180, List.forall_mem_cons.mpr ⟨lw_p181, List.forall_mem_cons.mpr ⟨lw_p182, List.forall_mem_cons.mpr ⟨lw_p183, List.forall_mem_cons.mpr ⟨lw_p184, List.forall_mem_cons.mpr ⟨lw_p185, List.forall_mem_cons.mpr ⟨lw_p186, List.forall_mem_cons.mpr ⟨lw_p187, List.forall_mem_cons.mpr ⟨lw_p188, List.forall_mem_cons.mpr ⟨lw_p189, List.forall_mem_cons.mpr ⟨lw_p190, List.forall_mem_cons.mpr ⟨lw_p191, fun _ h => absurd h List.not_mem_nil⟩⟩⟩⟩⟩⟩⟩⟩⟩⟩⟩⟩⟩⟩⟩⟩
theorem lw_p192 : lw_okq (⟨"ShareHouseModel", "meanOperand", "(I)I"⟩, 146) := ⟨⟨by decide +kernel, by decide +kernel⟩, List.mem_of_getElem? (i := 1505) (by decide +kernel), List.mem_of_getElem? (i := 2482) (by decide +kernel), List.mem_of_getElem? (i := 2483) (by decide +kernel)⟩
theorem lw_p193 : lw_okq (⟨"ShareHouseModel", "pushWord", "(J)V"⟩, 146) := ⟨⟨by decide +kernel, by decide +kernel⟩, List.mem_of_getElem? (i := 1505) (by decide +kernel), List.mem_of_getElem? (i := 2486) (by decide +kernel), List.mem_of_getElem? (i := 2487) (by decide +kernel)⟩
theorem lw_p194 : lw_okq (⟨"ShareHouseModel", "inputWord", "(I)J"⟩, 146) := ⟨⟨by decide +kernel, by decide +kernel⟩, List.mem_of_getElem? (i := 1505) (by decide +kernel), List.mem_of_getElem? (i := 2490) (by decide +kernel), List.mem_of_getElem? (i := 2491) (by decide +kernel)⟩
theorem lw_p195 : lw_okq (⟨"ShareHouseModel", "meanBinary", "(IJJ)J"⟩, 146) := ⟨⟨by decide +kernel, by decide +kernel⟩, List.mem_of_getElem? (i := 1505) (by decide +kernel), List.mem_of_getElem? (i := 2494) (by decide +kernel), List.mem_of_getElem? (i := 2495) (by decide +kernel)⟩
theorem lw_p196 : lw_okq (⟨"ShareHouseModel", "signed", "(J)J"⟩, 146) := ⟨⟨by decide +kernel, by decide +kernel⟩, List.mem_of_getElem? (i := 1505) (by decide +kernel), List.mem_of_getElem? (i := 2498) (by decide +kernel), List.mem_of_getElem? (i := 2499) (by decide +kernel)⟩
theorem lw_p197 : lw_okq (⟨"ShareHouseModel", "meanStatement", "(I)I"⟩, 146) := ⟨⟨by decide +kernel, by decide +kernel⟩, List.mem_of_getElem? (i := 1505) (by decide +kernel), List.mem_of_getElem? (i := 2502) (by decide +kernel), List.mem_of_getElem? (i := 2503) (by decide +kernel)⟩
def lw_privs_13 : List (MethodName × Nat) := [(⟨"ShareHouseModel", "meanOperand", "(I)I"⟩, 146), (⟨"ShareHouseModel", "pushWord", "(J)V"⟩, 146), (⟨"ShareHouseModel", "inputWord", "(I)J"⟩, 146), (⟨"ShareHouseModel", "meanBinary", "(IJJ)J"⟩, 146), (⟨"ShareHouseModel", "signed", "(J)J"⟩, 146), (⟨"ShareHouseModel", "meanStatement", "(I)I"⟩, 146)]
theorem lw_r13 : ∀ q ∈ lw_privs_13, lw_okq q := List.forall_mem_cons.mpr ⟨lw_p192, List.forall_mem_cons.mpr ⟨lw_p193, List.forall_mem_cons.mpr ⟨lw_p194, List.forall_mem_cons.mpr ⟨lw_p195, List.forall_mem_cons.mpr ⟨lw_p196, List.forall_mem_cons.mpr ⟨lw_p197, fun _ h => absurd h List.not_mem_nil⟩⟩⟩⟩⟩⟩
def lw_privs : List (MethodName × Nat) := lw_privs_1 ++ (lw_privs_2 ++ (lw_privs_3 ++ (lw_privs_4 ++ (lw_privs_5 ++ (lw_privs_6 ++ (lw_privs_7 ++ (lw_privs_8 ++ (lw_privs_9 ++ (lw_privs_10 ++ (lw_privs_11 ++ (lw_privs_12 ++ (lw_privs_13))))))))))))
def lw_tbl : List Cond := k2_sels lw_privs ++ tables_1
theorem lw_privs_ok : ∀ q ∈ lw_privs, lw_okq q := by
  show ∀ q ∈ lw_privs_1 ++ (lw_privs_2 ++ (lw_privs_3 ++ (lw_privs_4 ++ (lw_privs_5 ++ (lw_privs_6 ++ (lw_privs_7 ++ (lw_privs_8 ++ (lw_privs_9 ++ (lw_privs_10 ++ (lw_privs_11 ++ (lw_privs_12 ++ (lw_privs_13)))))))))))), lw_okq q
  exact List.forall_mem_append.mpr ⟨lw_r1, List.forall_mem_append.mpr ⟨lw_r2, List.forall_mem_append.mpr ⟨lw_r3, List.forall_mem_append.mpr ⟨lw_r4, List.forall_mem_append.mpr ⟨lw_r5, List.forall_mem_append.mpr ⟨lw_r6, List.forall_mem_append.mpr ⟨lw_r7, List.forall_mem_append.mpr ⟨lw_r8, List.forall_mem_append.mpr ⟨lw_r9, List.forall_mem_append.mpr ⟨lw_r10, List.forall_mem_append.mpr ⟨lw_r11, List.forall_mem_append.mpr ⟨lw_r12, lw_r13⟩⟩⟩⟩⟩⟩⟩⟩⟩⟩⟩⟩
end
section
abbrev ip_E : Type := (FieldType × vp_A) ⊕ (Nat × List Value)
abbrev ip_H : Type := List ip_E
abbrev ip_M : Type := MethodName × ByteArray × Nat × Option FieldType
abbrev ip_G : Type := List Cond × List vw_C × va_G × (FieldType → ClassId) × Nat × (Nat → Nat) × (State → Prop)
def ip_T (G : ip_G) : List Cond := G.1
def ip_C (G : ip_G) : List vw_C := G.2.1
def ip_D (G : ip_G) : va_G := G.2.2.1
def ip_A (G : ip_G) : FieldType → ClassId := G.2.2.2.1
def ip_B (G : ip_G) : Nat := G.2.2.2.2.1
def ip_O (G : ip_G) : Nat → Nat := G.2.2.2.2.2.1
def ip_X (G : ip_G) : State → Prop := G.2.2.2.2.2.2
/-- a reference n of the picture: below 32 one of the old cells, else the cell n - 32 behind the base -/
def ip_a (G : ip_G) (n : Nat) : Nat := if n < 32 then ip_O G n else ip_B G + (n - 32)
def ip_v (G : ip_G) (v : Value) : Value := match v with
  | .ref n => .ref (ip_a G n)
  | w => w
def ip_cv (G : ip_G) (e : ip_E) : va_E := match e with
  | .inl a => .inl (ip_A G a.1, a.2)
  | .inr o => .inr (o.1, o.2.map (ip_v G))
def ip_ws (G : ip_G) : Nat → ip_H → va_W
  | _, [] => []
  | b, e :: h => (b, ip_cv G e) :: ip_ws G (b + 1) h
def ip_z (e : ip_E) : Nat := match e with
  | .inl a => a.2.1
  | .inr o => o.2.length
def ip_t (h : ip_H) : Nat := (h.map ip_z).sum
def ip_h (h : ip_H) (n : Nat) : Option ip_E := if n < 32 then none else h[n - 32]?
def ip_hs (h : ip_H) (n : Nat) (e : ip_E) : ip_H := h.set (n - 32) e
theorem ip_v_cat (G : ip_G) (v : Value) : (ip_v G v).category = v.category := by cases v <;> rfl
theorem ip_cats (G : ip_G) (st : List Value) : ((st.map (ip_v G)).map fun v => v.category) = st.map fun v => v.category := by
  rw [List.map_map]
  exact List.map_congr_left (fun v _ => ip_v_cat G v)
theorem ip_ws_get (G : ip_G) : ∀ (h : ip_H) (b k : Nat), (ip_ws G b h)[k]? = (h[k]?).map (fun e => (b + k, ip_cv G e))
  | [], _, _ => rfl
  | e :: h, b, 0 => rfl
  | e :: h, b, k + 1 => by
    show (ip_ws G (b + 1) h)[k]? = _
    rw [ip_ws_get G h (b + 1) k]
    show _ = (h[k]?).map _
    rw [show b + 1 + k = b + (k + 1) by omega]
theorem ip_ws_set (G : ip_G) (e : ip_E) : ∀ (h : ip_H) (b k : Nat), ip_ws G b (h.set k e) = (ip_ws G b h).set k (b + k, ip_cv G e)
  | [], _, _ => rfl
  | x :: h, b, 0 => rfl
  | x :: h, b, k + 1 => by
    show (b, ip_cv G x) :: ip_ws G (b + 1) (h.set k e) = (b, ip_cv G x) :: (ip_ws G (b + 1) h).set k _
    rw [ip_ws_set G e h (b + 1) k, show b + 1 + k = b + (k + 1) by omega]
theorem ip_ws_push (G : ip_G) (e : ip_E) : ∀ (h : ip_H) (b : Nat), ip_ws G b (h ++ [e]) = ip_ws G b h ++ [(b + h.length, ip_cv G e)]
  | [], _ => rfl
  | x :: h, b => by
    show (b, ip_cv G x) :: ip_ws G (b + 1) (h ++ [e]) = (b, ip_cv G x) :: (ip_ws G (b + 1) h ++ [(b + (h.length + 1), ip_cv G e)])
    rw [ip_ws_push G e h (b + 1), show b + 1 + h.length = b + (h.length + 1) by omega]
theorem ip_ws_at (G : ip_G) {h : ip_H} {n : Nat} {e : ip_E} (hh : ip_h h n = some e) : (ip_ws G (ip_B G) h)[n - 32]? = some (ip_a G n, ip_cv G e) := by
  unfold ip_h at hh
  split at hh
  · cases hh
  · next hn =>
    rw [ip_ws_get, hh]
    show some (ip_B G + (n - 32), _) = some (ip_a G n, _)
    unfold ip_a
    rw [if_neg hn]
theorem ip_ws_D (G : ip_G) (h : ip_H) (b : Nat) : va_D (fun q => b ≤ q) (ip_ws G b h) := by
  refine ⟨fun i j p q hi hj e => ?_, fun k q hk => ?_⟩
  · rw [ip_ws_get] at hi hj
    obtain ⟨x, -, rfl⟩ := Option.map_eq_some_iff.mp hi
    obtain ⟨y, -, rfl⟩ := Option.map_eq_some_iff.mp hj
    exact Nat.add_left_cancel e
  · rw [ip_ws_get] at hk
    obtain ⟨x, -, rfl⟩ := Option.map_eq_some_iff.mp hk
    exact Nat.le_add_right b k
theorem ip_hs_len (h : ip_H) (n : Nat) (e : ip_E) : (ip_hs h n e).length = h.length := List.length_set
theorem ip_t_set : ∀ (h : ip_H) (k : Nat) (e x : ip_E), h[k]? = some x → ip_z e = ip_z x → ip_t (h.set k e) = ip_t h
  | [], _, _, _, h, _ => by simp at h
  | y :: h, 0, e, x, hx, hz => by
    have hx : y = x := Option.some.inj hx
    subst hx
    show ip_z e + _ = ip_z y + _
    rw [hz]
  | y :: h, k + 1, e, x, hx, hz => by
    show ip_z y + ip_t (h.set k e) = ip_z y + ip_t h
    rw [ip_t_set h k e x hx hz]
theorem ip_hs_t {h : ip_H} {n : Nat} {e x : ip_E} (hx : ip_h h n = some x) (hz : ip_z e = ip_z x) : ip_t (ip_hs h n e) = ip_t h := by
  unfold ip_h at hx
  split at hx
  · cases hx
  · exact ip_t_set h _ e x hx hz
theorem ip_t_push (h : ip_H) (e : ip_E) : ip_t (h ++ [e]) = ip_t h + ip_z e := by
  unfold ip_t
  rw [List.map_append, List.sum_append]
  simp
def ip_ty (G : ip_G) : List (ClassId × FieldType) := [(ip_A G .int, .int), (ip_A G .byte, .byte), (ip_A G .boolean, .boolean), (ip_A G .long, .long)]
def ip_U (G : ip_G) (U : State) : Prop := ip_B G ≤ U.heap.size ∧ va_K (ip_D G) (ip_C G) (ip_ty G) U ∧ ip_X G U
def ip_mv (G : ip_G) : Prop := ∀ U U' : State, (U.vm = U'.vm ∨ U.WarmedH U'.vm) → (∀ q : Nat, q < ip_B G → U'.heap[q]? = U.heap[q]?) → ip_X G U → ip_X G U'
def ip_Cx (G : ip_G) (M : ip_M) (p : Program) (s : State) (m : MethodId) (args : Array Value) (meth : Method) (c : Code) : Prop :=
  p.tables.exec = Jvm.exec ∧ c.code = M.2.1 ∧ meth.sig.returnType = M.2.2.2 ∧ c.maxLocals = M.2.2.1 ∧ s.vm.findClass M.1.cls = some m.cls ∧ (∀ w ∈ ip_T G, w.before args s = true) ∧ meth.locks = false ∧ (M.1.name = "<init>" → meth.name = "<init>") ∧ ip_U G s
def ip_St (G : ip_G) (h : ip_H) (H : Heap) : Prop := H.size = ip_B G + h.length ∧ va_P (ip_D G) (ip_C G) (ip_ws G (ip_B G) h) H
def ip_ri (v : Option Value) : Instr := match v with
  | none => .return_
  | some (.int _) => .ireturn
  | some (.long _) => .lreturn
  | some _ => .areturn
def ip_L (G : ip_G) (ls : Array Slot) (n : Nat) (L : List (Option Value)) : Prop := ls.size = n ∧ lv_wf ls ∧ ∀ (i : Nat) (v : Value), L[i]? = some (some v) → ls[i]? = some (.val (ip_v G v))
abbrev ip_S (G : ip_G) (s : State) (H : Heap) (locs : List Loc) : Prop := va_S (fun q => ip_B G ≤ q) s.heap H locs
def ip_Rn (l : Launch) (G : ip_G) (M : ip_M) (d pc : Nat) (L : List (Option Value)) (st : List Value) (h : ip_H) (r : Option Value × ip_H) : Prop :=
  (h.length ≤ r.2.length ∧ ip_t h ≤ ip_t r.2) ∧
  ∀ (p : Program) (e : Env) (R : Room) (s : State) (m : MethodId) (args : Array Value) (below : List Frame) (meth : Method) (c : Code) (Q : State → Prop) (H : Heap) (locs : List Loc) (cells slots : Nat) (ls : Array Slot),
    ip_Cx G M p s m args meth c → d ≤ R.frames → 41 * d ≤ R.locals → cells + r.2.length ≤ R.cells + h.length → slots + ip_t r.2 ≤ R.slots + ip_t h →
    ip_L G ls M.2.2.1 L → ip_St G h H → ip_S G s H locs →
    (∀ (pc' : Nat) (ls' : Array Slot) (H' : Heap) (locs' : List Loc), decode M.2.1 pc' = .ok (ip_ri r.1, 1) → ip_St G r.2 H' → ip_S G s H' locs' →
      W p l e R s m args below meth c H' locs' (cells + (r.2.length - h.length)) (slots + (ip_t r.2 - ip_t h)) Q (F0 m pc' ls' (r.1.toList.map (ip_v G)))) →
    W p l e R s m args below meth c H locs cells slots Q (F0 m pc ls (st.map (ip_v G)))
/-! the words of the picture's local variables -/
def ip_lv (G : ip_G) : Nat → List (Option Value) → List (Nat × Value)
  | _, [] => []
  | i, none :: L => ip_lv G (i + 1) L
  | i, some v :: L => (i, ip_v G v) :: ip_lv G (i + 1) L
theorem ip_lv_mem (G : ip_G) : ∀ (L : List (Option Value)) (b : Nat) (q : Nat × Value), q ∈ ip_lv G b L → ∃ (i : Nat) (v : Value), L[i]? = some (some v) ∧ q = (b + i, ip_v G v)
  | [], _, q, h => by simp [ip_lv] at h
  | none :: L, b, q, h => by
    obtain ⟨i, v, h1, h2⟩ := ip_lv_mem G L (b + 1) q h
    exact ⟨i + 1, v, h1, by rw [h2, show b + 1 + i = b + (i + 1) by omega]⟩
  | some w :: L, b, q, h => by
    rcases List.mem_cons.mp h with h | h
    · exact ⟨0, w, rfl, h⟩
    · obtain ⟨i, v, h1, h2⟩ := ip_lv_mem G L (b + 1) q h
      exact ⟨i + 1, v, h1, by rw [h2, show b + 1 + i = b + (i + 1) by omega]⟩
theorem ip_lv_in (G : ip_G) : ∀ (L : List (Option Value)) (b i : Nat) (v : Value), L[i]? = some (some v) → (b + i, ip_v G v) ∈ ip_lv G b L
  | [], _, i, v, h => by simp at h
  | none :: L, b, 0, v, h => by simp at h
  | none :: L, b, i + 1, v, h => by
    have := ip_lv_in G L (b + 1) i v h
    rw [show b + 1 + i = b + (i + 1) by omega] at this
    exact this
  | some w :: L, b, 0, v, h => by
    have : w = v := by simpa using h
    subst this
    exact List.mem_cons_self
  | some w :: L, b, i + 1, v, h => by
    have := ip_lv_in G L (b + 1) i v h
    rw [show b + 1 + i = b + (i + 1) by omega] at this
    exact List.mem_cons_of_mem _ this
theorem ip_L.has {G : ip_G} {ls : Array Slot} {n : Nat} {L : List (Option Value)} (h : ip_L G ls n L) : lv_has ls n (ip_lv G 0 L) := by
  refine ⟨h.1, h.2.1, fun q hq => ?_⟩
  obtain ⟨i, v, h1, rfl⟩ := ip_lv_mem G L 0 q hq
  rw [Nat.zero_add]
  exact h.2.2 i v h1
def ip_cl (L : List (Option Value)) (i : Nat) : List (Option Value) := match i with
  | 0 => L
  | j + 1 => match L[j]? with
    | some (some v) => if v.category = 2 then L.set j none else L
    | _ => L
def ip_s1 (L : List (Option Value)) (i : Nat) (v : Value) : List (Option Value) := (ip_cl L i).set i (some v)
def ip_s2 (L : List (Option Value)) (i : Nat) (v : Value) : List (Option Value) := ((ip_cl L i).set i (some v)).set (i + 1) none
theorem ip_cl_get {L : List (Option Value)} {i j : Nat} {v : Value} (h : (ip_cl L i)[j]? = some (some v)) : L[j]? = some (some v) ∧ ¬ (j + 1 = i ∧ v.category = 2) := by
  cases i with
  | zero => exact ⟨h, fun q => by omega⟩
  | succ i =>
    unfold ip_cl at h
    cases hL : L[i]? with
    | none =>
      simp only [hL] at h
      refine ⟨h, fun q => ?_⟩
      obtain ⟨q1, q2⟩ := q
      have : j = i := by omega
      subst this
      rw [hL] at h
      cases h
    | some o =>
      cases o with
      | none =>
        simp only [hL] at h
        refine ⟨h, fun q => ?_⟩
        obtain ⟨q1, q2⟩ := q
        have : j = i := by omega
        subst this
        rw [hL] at h
        cases h
      | some w =>
        simp only [hL] at h
        by_cases hw : w.category = 2
        · rw [if_pos hw] at h
          by_cases hj : j = i
          · subst hj
            rw [List.getElem?_set] at h
            simp at h
          · rw [List.getElem?_set_ne (Ne.symm hj)] at h
            exact ⟨h, fun q => hj (by omega)⟩
        · rw [if_neg hw] at h
          refine ⟨h, fun q => ?_⟩
          obtain ⟨q1, q2⟩ := q
          have : j = i := by omega
          subst this
          rw [hL] at h
          have : w = v := by simpa using h
          subst this
          exact hw q2
theorem ip_L_s1 {G : ip_G} {ls' : Array Slot} {n i : Nat} {L : List (Option Value)} {v w : Value} (hw : w = ip_v G v)
    (h : lv_has ls' n ((i, w) :: (ip_lv G 0 L).filter (fun q => !(q.1 == i) && !(q.1 + 1 == i && q.2.category == 2)))) : ip_L G ls' n (ip_s1 L i v) := by
  refine ⟨h.1, h.2.1, fun j x hj => ?_⟩
  unfold ip_s1 at hj
  by_cases hji : j = i
  · subst hji
    rw [List.getElem?_set] at hj
    have hx : v = x := by
      split at hj
      · split at hj
        · simpa using hj
        · cases hj
      · next hne => exact absurd rfl hne
    subst hx
    rw [← hw]
    exact h.2.2 (j, w) List.mem_cons_self
  · rw [List.getElem?_set_ne (Ne.symm hji)] at hj
    obtain ⟨h1, h2⟩ := ip_cl_get hj
    have hm := ip_lv_in G L 0 j x h1
    rw [Nat.zero_add] at hm
    refine h.2.2 (j, ip_v G x) (List.mem_cons_of_mem _ (List.mem_filter.mpr ⟨hm, ?_⟩))
    simp only [ip_v_cat, Bool.and_eq_true, Bool.not_eq_true', beq_eq_false_iff_ne, ne_eq, Bool.and_eq_false_iff]
    refine ⟨hji, ?_⟩
    by_cases q1 : j + 1 = i
    · exact Or.inr (fun q2 => h2 ⟨q1, q2⟩)
    · exact Or.inl q1
theorem ip_L_s2 {G : ip_G} {ls' : Array Slot} {n i : Nat} {L : List (Option Value)} {v w : Value} (hw : w = ip_v G v)
    (h : lv_has ls' n ((i, w) :: (ip_lv G 0 L).filter (fun q => !(q.1 == i) && (!(q.1 == i + 1) && !(q.1 + 1 == i && q.2.category == 2))))) : ip_L G ls' n (ip_s2 L i v) := by
  refine ⟨h.1, h.2.1, fun j x hj => ?_⟩
  unfold ip_s2 at hj
  by_cases hj1 : j = i + 1
  · subst hj1
    rw [List.getElem?_set] at hj
    simp at hj
  · rw [List.getElem?_set_ne (Ne.symm hj1)] at hj
    by_cases hji : j = i
    · subst hji
      rw [List.getElem?_set] at hj
      have hx : v = x := by
        split at hj
        · split at hj
          · simpa using hj
          · cases hj
        · next hne => exact absurd rfl hne
      subst hx
      rw [← hw]
      exact h.2.2 (j, w) List.mem_cons_self
    · rw [List.getElem?_set_ne (Ne.symm hji)] at hj
      obtain ⟨h1, h2⟩ := ip_cl_get hj
      have hm := ip_lv_in G L 0 j x h1
      rw [Nat.zero_add] at hm
      refine h.2.2 (j, ip_v G x) (List.mem_cons_of_mem _ (List.mem_filter.mpr ⟨hm, ?_⟩))
      simp only [ip_v_cat, Bool.and_eq_true, Bool.not_eq_true', beq_eq_false_iff_ne, ne_eq, Bool.and_eq_false_iff]
      refine ⟨hji, hj1, ?_⟩
      by_cases q1 : j + 1 = i
      · exact Or.inr (fun q2 => h2 ⟨q1, q2⟩)
      · exact Or.inl q1
end
section
section IPP
variable {l : Launch} {G : ip_G} {M : ip_M} {d pc : Nat} {L : List (Option Value)} {st : List Value} {h : ip_H} {r : Option Value × ip_H}
theorem ip_pure {pc' : Nat} {L' : List (Option Value)} {st' : List Value}
    (hs : ∀ (p : Program) (e : Env) (R : Room) (s : State) (m : MethodId) (args : Array Value) (below : List Frame) (meth : Method) (c : Code) (Q : State → Prop) (H : Heap) (locs : List Loc) (cells slots : Nat) (ls : Array Slot),
      ip_Cx G M p s m args meth c → d ≤ R.frames → 41 * d ≤ R.locals → ip_L G ls M.2.2.1 L → (∀ ls' : Array Slot, ip_L G ls' M.2.2.1 L' → W p l e R s m args below meth c H locs cells slots Q (F0 m pc' ls' (st'.map (ip_v G)))) → W p l e R s m args below meth c H locs cells slots Q (F0 m pc ls (st.map (ip_v G))))
    (k : ip_Rn l G M d pc' L' st' h r) : ip_Rn l G M d pc L st h r :=
  ⟨k.1, fun p e R s m args below meth c Q H locs cells slots ls C hd hl hc hsl hL hSt hS kk =>
    hs p e R s m args below meth c Q H locs cells slots ls C hd hl hL (fun ls' hL' => k.2 p e R s m args below meth c Q H locs cells slots ls' C hd hl hc hsl hL' hSt hS kk)⟩
theorem ip_iconst {n : Int} {v : Int32} (hd : decode M.2.1 pc = .ok (.iconst n, 1)) (hv : Int32.ofInt n = v) (k : ip_Rn l G M d (pc + 1) L (.int v :: st) h r) : ip_Rn l G M d pc L st h r :=
  ip_pure (fun _ _ _ _ _ _ _ _ _ _ _ _ _ _ _ C _ _ hL kk => lv_iconst C.1 C.2.1 hd hv (kk _ hL)) k
theorem ip_bipush {n : Int} {v : Int32} (hd : decode M.2.1 pc = .ok (.bipush n, 2)) (hv : (Int8.ofInt n).toInt32 = v) (k : ip_Rn l G M d (pc + 2) L (.int v :: st) h r) : ip_Rn l G M d pc L st h r :=
  ip_pure (fun _ _ _ _ _ _ _ _ _ _ _ _ _ _ _ C _ _ hL kk => lv_bipush C.1 C.2.1 hd hv (kk _ hL)) k
theorem ip_sipush {n : Int} {v : Int32} (hd : decode M.2.1 pc = .ok (.sipush n, 3)) (hv : (Int16.ofInt n).toInt32 = v) (k : ip_Rn l G M d (pc + 3) L (.int v :: st) h r) : ip_Rn l G M d pc L st h r :=
  ip_pure (fun _ _ _ _ _ _ _ _ _ _ _ _ _ _ _ C _ _ hL kk => lv_sipush C.1 C.2.1 hd hv (kk _ hL)) k
theorem ip_lconst {n : Fin 2} {v : Int64} (hd : decode M.2.1 pc = .ok (.lconst n, 1)) (hv : Int64.ofNat (n : Nat) = v) (k : ip_Rn l G M d (pc + 1) L (.long v :: st) h r) : ip_Rn l G M d pc L st h r :=
  ip_pure (fun _ _ _ _ _ _ _ _ _ _ _ _ _ _ _ C _ _ hL kk => lv_lconst C.1 C.2.1 hd hv (kk _ hL)) k
theorem ip_ldc {i : Nat} {v : Int32} (hd : decode M.2.1 pc = .ok (.ldc i, 2)) (hw : Cond.constant M.1.cls i v ∈ ip_T G) (k : ip_Rn l G M d (pc + 2) L (.int v :: st) h r) : ip_Rn l G M d pc L st h r :=
  ip_pure (fun _ _ _ _ _ _ _ _ _ _ _ _ _ _ _ C _ _ hL kk => lv_ldc C.1 C.2.1 C.2.2.2.2.1 (C.2.2.2.2.2.1 _ hw) hd (kk _ hL)) k
theorem ip_ldcw {i : Nat} {v : Int32} (hd : decode M.2.1 pc = .ok (.ldc_w i, 3)) (hw : Cond.constant M.1.cls i v ∈ ip_T G) (k : ip_Rn l G M d (pc + 3) L (.int v :: st) h r) : ip_Rn l G M d pc L st h r :=
  ip_pure (fun _ _ _ _ _ _ _ _ _ _ _ _ _ _ _ C _ _ hL kk => lv_ldcw C.1 C.2.1 C.2.2.2.2.1 (C.2.2.2.2.2.1 _ hw) hd (kk _ hL)) k
theorem ip_ldc2 {i : Nat} {v : Int64} (hd : decode M.2.1 pc = .ok (.ldc2_w i, 3)) (hw : Cond.constantLong M.1.cls i v ∈ ip_T G) (k : ip_Rn l G M d (pc + 3) L (.long v :: st) h r) : ip_Rn l G M d pc L st h r :=
  ip_pure (fun _ _ _ _ _ _ _ _ _ _ _ _ _ _ _ C _ _ hL kk => lv_ldc2 C.1 C.2.1 C.2.2.2.2.1 (C.2.2.2.2.2.1 _ hw) hd (kk _ hL)) k
theorem ip_iload {i : Nat} {x : Int32} (hd : decode M.2.1 pc = .ok (.iload i, 2)) (hv : L[i]? = some (some (.int x))) (k : ip_Rn l G M d (pc + 2) L (.int x :: st) h r) : ip_Rn l G M d pc L st h r :=
  ip_pure (fun _ _ _ _ _ _ _ _ _ _ _ _ _ _ _ C _ _ hL kk => lv_iload C.1 C.2.1 hd (hL.2.2 _ _ hv) (kk _ hL)) k
theorem ip_iload_n {i : Fin 4} {x : Int32} (hd : decode M.2.1 pc = .ok (.iload_n i, 1)) (hv : L[i.val]? = some (some (.int x))) (k : ip_Rn l G M d (pc + 1) L (.int x :: st) h r) : ip_Rn l G M d pc L st h r :=
  ip_pure (fun _ _ _ _ _ _ _ _ _ _ _ _ _ _ _ C _ _ hL kk => lv_iload_n C.1 C.2.1 hd rfl (hL.2.2 _ _ hv) (kk _ hL)) k
theorem ip_lload {i : Nat} {x : Int64} (hd : decode M.2.1 pc = .ok (.lload i, 2)) (hv : L[i]? = some (some (.long x))) (k : ip_Rn l G M d (pc + 2) L (.long x :: st) h r) : ip_Rn l G M d pc L st h r :=
  ip_pure (fun _ _ _ _ _ _ _ _ _ _ _ _ _ _ _ C _ _ hL kk => lv_lload C.1 C.2.1 hd (hL.2.2 _ _ hv) (kk _ hL)) k
theorem ip_lload_n {i : Fin 4} {x : Int64} (hd : decode M.2.1 pc = .ok (.lload_n i, 1)) (hv : L[i.val]? = some (some (.long x))) (k : ip_Rn l G M d (pc + 1) L (.long x :: st) h r) : ip_Rn l G M d pc L st h r :=
  ip_pure (fun _ _ _ _ _ _ _ _ _ _ _ _ _ _ _ C _ _ hL kk => lv_lload_n C.1 C.2.1 hd rfl (hL.2.2 _ _ hv) (kk _ hL)) k
theorem ip_aload {i : Nat} {x : Nat} (hd : decode M.2.1 pc = .ok (.aload i, 2)) (hv : L[i]? = some (some (.ref x))) (k : ip_Rn l G M d (pc + 2) L (.ref x :: st) h r) : ip_Rn l G M d pc L st h r :=
  ip_pure (fun _ _ _ _ _ _ _ _ _ _ _ _ _ _ _ C _ _ hL kk => lv_aload C.1 C.2.1 hd (hL.2.2 _ _ hv) (kk _ hL)) k
theorem ip_aload_n {i : Fin 4} {x : Nat} (hd : decode M.2.1 pc = .ok (.aload_n i, 1)) (hv : L[i.val]? = some (some (.ref x))) (k : ip_Rn l G M d (pc + 1) L (.ref x :: st) h r) : ip_Rn l G M d pc L st h r :=
  ip_pure (fun _ _ _ _ _ _ _ _ _ _ _ _ _ _ _ C _ _ hL kk => lv_aload_n C.1 C.2.1 hd rfl (hL.2.2 _ _ hv) (kk _ hL)) k
theorem ip_istore {i : Nat} {x : Int32} (hd : decode M.2.1 pc = .ok (.istore i, 2)) (hi : i < M.2.2.1) (k : ip_Rn l G M d (pc + 2) (ip_s1 L i (.int x)) st h r) : ip_Rn l G M d pc L (.int x :: st) h r :=
  ip_pure (fun _ _ _ _ _ _ _ _ _ _ _ _ _ _ _ C _ _ hL kk => lv_istore C.1 C.2.1 hd hL.has hi rfl (fun ls' h' => kk ls' (ip_L_s1 rfl h'))) k
theorem ip_istore_n {i : Fin 4} {x : Int32} (hd : decode M.2.1 pc = .ok (.istore_n i, 1)) (hi : i.val < M.2.2.1) (k : ip_Rn l G M d (pc + 1) (ip_s1 L i.val (.int x)) st h r) : ip_Rn l G M d pc L (.int x :: st) h r :=
  ip_pure (fun _ _ _ _ _ _ _ _ _ _ _ _ _ _ _ C _ _ hL kk => lv_istore_n C.1 C.2.1 hd rfl hL.has hi rfl (fun ls' h' => kk ls' (ip_L_s1 rfl h'))) k
theorem ip_lstore {i : Nat} {x : Int64} (hd : decode M.2.1 pc = .ok (.lstore i, 2)) (hi : i + 1 < M.2.2.1) (k : ip_Rn l G M d (pc + 2) (ip_s2 L i (.long x)) st h r) : ip_Rn l G M d pc L (.long x :: st) h r :=
  ip_pure (fun _ _ _ _ _ _ _ _ _ _ _ _ _ _ _ C _ _ hL kk => lv_lstore C.1 C.2.1 hd hL.has hi rfl (fun ls' h' => kk ls' (ip_L_s2 rfl h'))) k
theorem ip_lstore_n {i : Fin 4} {x : Int64} (hd : decode M.2.1 pc = .ok (.lstore_n i, 1)) (hi : i.val + 1 < M.2.2.1) (k : ip_Rn l G M d (pc + 1) (ip_s2 L i.val (.long x)) st h r) : ip_Rn l G M d pc L (.long x :: st) h r :=
  ip_pure (fun _ _ _ _ _ _ _ _ _ _ _ _ _ _ _ C _ _ hL kk => lv_lstore_n C.1 C.2.1 hd rfl hL.has hi rfl (fun ls' h' => kk ls' (ip_L_s2 rfl h'))) k
theorem ip_astore {i : Nat} {x : Nat} (hd : decode M.2.1 pc = .ok (.astore i, 2)) (hi : i < M.2.2.1) (k : ip_Rn l G M d (pc + 2) (ip_s1 L i (.ref x)) st h r) : ip_Rn l G M d pc L (.ref x :: st) h r :=
  ip_pure (fun _ _ _ _ _ _ _ _ _ _ _ _ _ _ _ C _ _ hL kk => lv_astore C.1 C.2.1 hd hL.has hi rfl (fun ls' h' => kk ls' (ip_L_s1 rfl h'))) k
theorem ip_astore_n {i : Fin 4} {x : Nat} (hd : decode M.2.1 pc = .ok (.astore_n i, 1)) (hi : i.val < M.2.2.1) (k : ip_Rn l G M d (pc + 1) (ip_s1 L i.val (.ref x)) st h r) : ip_Rn l G M d pc L (.ref x :: st) h r :=
  ip_pure (fun _ _ _ _ _ _ _ _ _ _ _ _ _ _ _ C _ _ hL kk => lv_astore_n C.1 C.2.1 hd rfl hL.has hi rfl (fun ls' h' => kk ls' (ip_L_s1 rfl h'))) k
theorem ip_iinc {i : Nat} {n : Int} {x : Int32} (hd : decode M.2.1 pc = .ok (.iinc i n, 3)) (hv : L[i]? = some (some (.int x))) (hi : i < M.2.2.1) (k : ip_Rn l G M d (pc + 3) (ip_s1 L i (.int (x + Int32.ofInt n))) st h r) : ip_Rn l G M d pc L st h r :=
  ip_pure (fun _ _ _ _ _ _ _ _ _ _ _ _ _ _ _ C _ _ hL kk => by
    obtain ⟨q, hq⟩ := List.getElem?_of_mem (ip_lv_in G L 0 i _ hv)
    rw [Nat.zero_add] at hq
    exact lv_iinc C.1 C.2.1 hd hL.has hq rfl hi rfl (fun ls' h' => kk ls' (ip_L_s1 rfl h'))) k
theorem ip_iadd {x y : Int32} (hd : decode M.2.1 pc = .ok (.iadd, 1)) (k : ip_Rn l G M d (pc + 1) L (.int (x + y) :: st) h r) : ip_Rn l G M d pc L (.int y :: .int x :: st) h r :=
  ip_pure (fun _ _ _ _ _ _ _ _ _ _ _ _ _ _ _ C _ _ hL kk => lv_iadd C.1 C.2.1 hd (kk _ hL)) k
theorem ip_isub {x y : Int32} (hd : decode M.2.1 pc = .ok (.isub, 1)) (k : ip_Rn l G M d (pc + 1) L (.int (x - y) :: st) h r) : ip_Rn l G M d pc L (.int y :: .int x :: st) h r :=
  ip_pure (fun _ _ _ _ _ _ _ _ _ _ _ _ _ _ _ C _ _ hL kk => lv_isub C.1 C.2.1 hd (kk _ hL)) k
theorem ip_imul {x y : Int32} (hd : decode M.2.1 pc = .ok (.imul, 1)) (k : ip_Rn l G M d (pc + 1) L (.int (x * y) :: st) h r) : ip_Rn l G M d pc L (.int y :: .int x :: st) h r :=
  ip_pure (fun _ _ _ _ _ _ _ _ _ _ _ _ _ _ _ C _ _ hL kk => lv_imul C.1 C.2.1 hd (kk _ hL)) k
theorem ip_iand {x y : Int32} (hd : decode M.2.1 pc = .ok (.iand, 1)) (k : ip_Rn l G M d (pc + 1) L (.int (x &&& y) :: st) h r) : ip_Rn l G M d pc L (.int y :: .int x :: st) h r :=
  ip_pure (fun _ _ _ _ _ _ _ _ _ _ _ _ _ _ _ C _ _ hL kk => lv_iand C.1 C.2.1 hd (kk _ hL)) k
theorem ip_ior {x y : Int32} (hd : decode M.2.1 pc = .ok (.ior, 1)) (k : ip_Rn l G M d (pc + 1) L (.int (x ||| y) :: st) h r) : ip_Rn l G M d pc L (.int y :: .int x :: st) h r :=
  ip_pure (fun _ _ _ _ _ _ _ _ _ _ _ _ _ _ _ C _ _ hL kk => lv_ior C.1 C.2.1 hd (kk _ hL)) k
theorem ip_ixor {x y : Int32} (hd : decode M.2.1 pc = .ok (.ixor, 1)) (k : ip_Rn l G M d (pc + 1) L (.int (x ^^^ y) :: st) h r) : ip_Rn l G M d pc L (.int y :: .int x :: st) h r :=
  ip_pure (fun _ _ _ _ _ _ _ _ _ _ _ _ _ _ _ C _ _ hL kk => lv_ixor C.1 C.2.1 hd (kk _ hL)) k
theorem ip_idiv {x y : Int32} (hd : decode M.2.1 pc = .ok (.idiv, 1)) (hne : ¬ y = 0) (k : ip_Rn l G M d (pc + 1) L (.int (x / y) :: st) h r) : ip_Rn l G M d pc L (.int y :: .int x :: st) h r :=
  ip_pure (fun _ _ _ _ _ _ _ _ _ _ _ _ _ _ _ C _ _ hL kk => lv_idiv C.1 C.2.1 hd hne (kk _ hL)) k
theorem ip_irem {x y : Int32} (hd : decode M.2.1 pc = .ok (.irem, 1)) (hne : ¬ y = 0) (k : ip_Rn l G M d (pc + 1) L (.int (x - x / y * y) :: st) h r) : ip_Rn l G M d pc L (.int y :: .int x :: st) h r :=
  ip_pure (fun _ _ _ _ _ _ _ _ _ _ _ _ _ _ _ C _ _ hL kk => lv_irem C.1 C.2.1 hd hne (kk _ hL)) k
theorem ip_ineg {x : Int32} (hd : decode M.2.1 pc = .ok (.ineg, 1)) (k : ip_Rn l G M d (pc + 1) L (.int (-x) :: st) h r) : ip_Rn l G M d pc L (.int x :: st) h r :=
  ip_pure (fun _ _ _ _ _ _ _ _ _ _ _ _ _ _ _ C _ _ hL kk => lv_ineg C.1 C.2.1 hd (kk _ hL)) k
theorem ip_ishl {x y : Int32} (hd : decode M.2.1 pc = .ok (.ishl, 1)) (k : ip_Rn l G M d (pc + 1) L (.int (x <<< (y &&& 31)) :: st) h r) : ip_Rn l G M d pc L (.int y :: .int x :: st) h r :=
  ip_pure (fun _ _ _ _ _ _ _ _ _ _ _ _ _ _ _ C _ _ hL kk => lv_ishl C.1 C.2.1 hd (kk _ hL)) k
theorem ip_ishr {x y : Int32} (hd : decode M.2.1 pc = .ok (.ishr, 1)) (k : ip_Rn l G M d (pc + 1) L (.int (x >>> (y &&& 31)) :: st) h r) : ip_Rn l G M d pc L (.int y :: .int x :: st) h r :=
  ip_pure (fun _ _ _ _ _ _ _ _ _ _ _ _ _ _ _ C _ _ hL kk => lv_ishr C.1 C.2.1 hd (kk _ hL)) k
theorem ip_iushr {x y v : Int32} (hd : decode M.2.1 pc = .ok (.iushr, 1)) (hv : (x.toUInt32 >>> (y.toUInt32 &&& Int32.toUInt32 31)).toInt32 = v) (k : ip_Rn l G M d (pc + 1) L (.int v :: st) h r) : ip_Rn l G M d pc L (.int y :: .int x :: st) h r :=
  ip_pure (fun _ _ _ _ _ _ _ _ _ _ _ _ _ _ _ C _ _ hL kk => lv_iushr C.1 C.2.1 hd hv (kk _ hL)) k
theorem ip_ladd {x y : Int64} (hd : decode M.2.1 pc = .ok (.ladd, 1)) (k : ip_Rn l G M d (pc + 1) L (.long (x + y) :: st) h r) : ip_Rn l G M d pc L (.long y :: .long x :: st) h r :=
  ip_pure (fun _ _ _ _ _ _ _ _ _ _ _ _ _ _ _ C _ _ hL kk => lv_ladd C.1 C.2.1 hd (kk _ hL)) k
theorem ip_lsub {x y : Int64} (hd : decode M.2.1 pc = .ok (.lsub, 1)) (k : ip_Rn l G M d (pc + 1) L (.long (x - y) :: st) h r) : ip_Rn l G M d pc L (.long y :: .long x :: st) h r :=
  ip_pure (fun _ _ _ _ _ _ _ _ _ _ _ _ _ _ _ C _ _ hL kk => lv_lsub C.1 C.2.1 hd (kk _ hL)) k
theorem ip_lmul {x y : Int64} (hd : decode M.2.1 pc = .ok (.lmul, 1)) (k : ip_Rn l G M d (pc + 1) L (.long (x * y) :: st) h r) : ip_Rn l G M d pc L (.long y :: .long x :: st) h r :=
  ip_pure (fun _ _ _ _ _ _ _ _ _ _ _ _ _ _ _ C _ _ hL kk => lv_lmul C.1 C.2.1 hd (kk _ hL)) k
theorem ip_land {x y : Int64} (hd : decode M.2.1 pc = .ok (.land, 1)) (k : ip_Rn l G M d (pc + 1) L (.long (x &&& y) :: st) h r) : ip_Rn l G M d pc L (.long y :: .long x :: st) h r :=
  ip_pure (fun _ _ _ _ _ _ _ _ _ _ _ _ _ _ _ C _ _ hL kk => lv_land C.1 C.2.1 hd (kk _ hL)) k
theorem ip_lor {x y : Int64} (hd : decode M.2.1 pc = .ok (.lor, 1)) (k : ip_Rn l G M d (pc + 1) L (.long (x ||| y) :: st) h r) : ip_Rn l G M d pc L (.long y :: .long x :: st) h r :=
  ip_pure (fun _ _ _ _ _ _ _ _ _ _ _ _ _ _ _ C _ _ hL kk => lv_lor C.1 C.2.1 hd (kk _ hL)) k
theorem ip_lxor {x y : Int64} (hd : decode M.2.1 pc = .ok (.lxor, 1)) (k : ip_Rn l G M d (pc + 1) L (.long (x ^^^ y) :: st) h r) : ip_Rn l G M d pc L (.long y :: .long x :: st) h r :=
  ip_pure (fun _ _ _ _ _ _ _ _ _ _ _ _ _ _ _ C _ _ hL kk => lv_lxor C.1 C.2.1 hd (kk _ hL)) k
theorem ip_ldiv {x y : Int64} (hd : decode M.2.1 pc = .ok (.ldiv, 1)) (hne : ¬ y = 0) (k : ip_Rn l G M d (pc + 1) L (.long (x / y) :: st) h r) : ip_Rn l G M d pc L (.long y :: .long x :: st) h r :=
  ip_pure (fun _ _ _ _ _ _ _ _ _ _ _ _ _ _ _ C _ _ hL kk => lv_ldiv C.1 C.2.1 hd hne (kk _ hL)) k
theorem ip_lrem {x y : Int64} (hd : decode M.2.1 pc = .ok (.lrem, 1)) (hne : ¬ y = 0) (k : ip_Rn l G M d (pc + 1) L (.long (x - x / y * y) :: st) h r) : ip_Rn l G M d pc L (.long y :: .long x :: st) h r :=
  ip_pure (fun _ _ _ _ _ _ _ _ _ _ _ _ _ _ _ C _ _ hL kk => lv_lrem C.1 C.2.1 hd hne (kk _ hL)) k
theorem ip_lneg {x : Int64} (hd : decode M.2.1 pc = .ok (.lneg, 1)) (k : ip_Rn l G M d (pc + 1) L (.long (-x) :: st) h r) : ip_Rn l G M d pc L (.long x :: st) h r :=
  ip_pure (fun _ _ _ _ _ _ _ _ _ _ _ _ _ _ _ C _ _ hL kk => lv_lneg C.1 C.2.1 hd (kk _ hL)) k
theorem ip_lshl {x : Int64} {y : Int32} (hd : decode M.2.1 pc = .ok (.lshl, 1)) (k : ip_Rn l G M d (pc + 1) L (.long (x <<< (y.toInt64 &&& 63)) :: st) h r) : ip_Rn l G M d pc L (.int y :: .long x :: st) h r :=
  ip_pure (fun _ _ _ _ _ _ _ _ _ _ _ _ _ _ _ C _ _ hL kk => lv_lshl C.1 C.2.1 hd rfl (kk _ hL)) k
theorem ip_lshr {x : Int64} {y : Int32} (hd : decode M.2.1 pc = .ok (.lshr, 1)) (k : ip_Rn l G M d (pc + 1) L (.long (x >>> (y.toInt64 &&& 63)) :: st) h r) : ip_Rn l G M d pc L (.int y :: .long x :: st) h r :=
  ip_pure (fun _ _ _ _ _ _ _ _ _ _ _ _ _ _ _ C _ _ hL kk => lv_lshr C.1 C.2.1 hd rfl (kk _ hL)) k
theorem ip_lushr {x : Int64} {y : Int32} (hd : decode M.2.1 pc = .ok (.lushr, 1)) (k : ip_Rn l G M d (pc + 1) L (.long (x.toUInt64 >>> (y.toInt64.toUInt64 &&& Int64.toUInt64 63)).toInt64 :: st) h r) : ip_Rn l G M d pc L (.int y :: .long x :: st) h r :=
  ip_pure (fun _ _ _ _ _ _ _ _ _ _ _ _ _ _ _ C _ _ hL kk => lv_lushr C.1 C.2.1 hd rfl (kk _ hL)) k
theorem ip_lcmp {x y : Int64} (hd : decode M.2.1 pc = .ok (.lcmp, 1)) (k : ip_Rn l G M d (pc + 1) L (.int (lg_cmp x y) :: st) h r) : ip_Rn l G M d pc L (.long y :: .long x :: st) h r :=
  ip_pure (fun _ _ _ _ _ _ _ _ _ _ _ _ _ _ _ C _ _ hL kk => W.lcmp C.1 C.2.1 hd (kk _ hL)) k
theorem ip_i2l {x : Int32} (hd : decode M.2.1 pc = .ok (.i2l, 1)) (k : ip_Rn l G M d (pc + 1) L (.long x.toInt64 :: st) h r) : ip_Rn l G M d pc L (.int x :: st) h r :=
  ip_pure (fun _ _ _ _ _ _ _ _ _ _ _ _ _ _ _ C _ _ hL kk => lv_i2l C.1 C.2.1 hd rfl (kk _ hL)) k
theorem ip_l2i {x : Int64} (hd : decode M.2.1 pc = .ok (.l2i, 1)) (k : ip_Rn l G M d (pc + 1) L (.int x.toInt32 :: st) h r) : ip_Rn l G M d pc L (.long x :: st) h r :=
  ip_pure (fun _ _ _ _ _ _ _ _ _ _ _ _ _ _ _ C _ _ hL kk => lv_l2i C.1 C.2.1 hd rfl (kk _ hL)) k
theorem ip_i2b {x : Int32} (hd : decode M.2.1 pc = .ok (.i2b, 1)) (k : ip_Rn l G M d (pc + 1) L (.int x.toInt8.toInt32 :: st) h r) : ip_Rn l G M d pc L (.int x :: st) h r :=
  ip_pure (fun _ _ _ _ _ _ _ _ _ _ _ _ _ _ _ C _ _ hL kk => lv_i2b C.1 C.2.1 hd rfl (kk _ hL)) k
theorem ip_i2c {x : Int32} (hd : decode M.2.1 pc = .ok (.i2c, 1)) (k : ip_Rn l G M d (pc + 1) L (.int (x.toUInt32 % 65536).toInt32 :: st) h r) : ip_Rn l G M d pc L (.int x :: st) h r :=
  ip_pure (fun _ _ _ _ _ _ _ _ _ _ _ _ _ _ _ C _ _ hL kk => lv_i2c C.1 C.2.1 hd rfl (kk _ hL)) k
theorem ip_dup {v : Value} (hd : decode M.2.1 pc = .ok (.dup, 1)) (hc : v.category = 1) (k : ip_Rn l G M d (pc + 1) L (v :: v :: st) h r) : ip_Rn l G M d pc L (v :: st) h r :=
  ip_pure (fun _ _ _ _ _ _ _ _ _ _ _ _ _ _ _ C _ _ hL kk => lv_dup C.1 C.2.1 hd ((ip_v_cat G v).trans hc) (kk _ hL)) k
theorem ip_pop {v : Value} (hd : decode M.2.1 pc = .ok (.pop, 1)) (hc : v.category = 1) (k : ip_Rn l G M d (pc + 1) L st h r) : ip_Rn l G M d pc L (v :: st) h r :=
  ip_pure (fun _ _ _ _ _ _ _ _ _ _ _ _ _ _ _ C _ _ hL kk => lv_pop C.1 C.2.1 hd ((ip_v_cat G v).trans hc) (kk _ hL)) k
theorem ip_dup_x1 {v w : Value} (hd : decode M.2.1 pc = .ok (.dup_x1, 1)) (hc : v.category = 1) (hc2 : w.category = 1) (k : ip_Rn l G M d (pc + 1) L (v :: w :: v :: st) h r) : ip_Rn l G M d pc L (v :: w :: st) h r :=
  ip_pure (fun _ _ _ _ _ _ _ _ _ _ _ _ _ _ _ C _ _ hL kk => lv_dup_x1 C.1 C.2.1 hd ((ip_v_cat G v).trans hc) ((ip_v_cat G w).trans hc2) (kk _ hL)) k
theorem ip_dup2_11 {v w : Value} (hd : decode M.2.1 pc = .ok (.dup2, 1)) (hc : v.category = 1) (hc2 : w.category = 1) (k : ip_Rn l G M d (pc + 1) L (v :: w :: v :: w :: st) h r) : ip_Rn l G M d pc L (v :: w :: st) h r :=
  ip_pure (fun _ _ _ _ _ _ _ _ _ _ _ _ _ _ _ C _ _ hL kk => lv_dup2_11 C.1 C.2.1 hd ((ip_v_cat G v).trans hc) ((ip_v_cat G w).trans hc2) (kk _ hL)) k
theorem ip_dup2_2 {v : Value} (hd : decode M.2.1 pc = .ok (.dup2, 1)) (hc : v.category = 2) (k : ip_Rn l G M d (pc + 1) L (v :: v :: st) h r) : ip_Rn l G M d pc L (v :: st) h r :=
  ip_pure (fun _ _ _ _ _ _ _ _ _ _ _ _ _ _ _ C _ _ hL kk => lv_dup2_2 C.1 C.2.1 hd ((ip_v_cat G v).trans hc) (kk _ hL)) k
theorem ip_goto {off : Int} {tgt : Nat} (hd : decode M.2.1 pc = .ok (.goto off, 3)) (ht : (pc : Int) + off = (tgt : Int)) (k : ip_Rn l G M d tgt L st h r) : ip_Rn l G M d pc L st h r :=
  ip_pure (fun _ _ _ _ _ _ _ _ _ _ _ _ _ _ _ C _ _ hL kk => lv_goto C.1 C.2.1 hd ht (kk _ hL)) k
end IPP
end
section
section IPB
variable {l : Launch} {G : ip_G} {M : ip_M} {d pc : Nat} {L : List (Option Value)} {st : List Value} {h : ip_H} {r : Option Value × ip_H}
theorem ip_if_eq_t {x : Int32} {off : Int} {tgt : Nat} (hd : decode M.2.1 pc = .ok (.ifCond .eq off, 3)) (ht : (pc : Int) + off = (tgt : Int)) (hc : x = 0) (k : ip_Rn l G M d tgt L st h r) : ip_Rn l G M d pc L (.int x :: st) h r :=
  ip_pure (fun _ _ _ _ _ _ _ _ _ _ _ _ _ _ _ C _ _ hL kk => lv_if_eq C.1 C.2.1 hd ht (fun _ => kk _ hL) (fun q => (q hc).elim)) k
theorem ip_if_eq_f {x : Int32} {off : Int} {tgt : Nat} (hd : decode M.2.1 pc = .ok (.ifCond .eq off, 3)) (ht : (pc : Int) + off = (tgt : Int)) (hc : ¬ x = 0) (k : ip_Rn l G M d (pc + 3) L st h r) : ip_Rn l G M d pc L (.int x :: st) h r :=
  ip_pure (fun _ _ _ _ _ _ _ _ _ _ _ _ _ _ _ C _ _ hL kk => lv_if_eq C.1 C.2.1 hd ht (fun q => (hc q).elim) (fun _ => kk _ hL)) k
theorem ip_icmp_eq_t {x y : Int32} {off : Int} {tgt : Nat} (hd : decode M.2.1 pc = .ok (.if_icmp .eq off, 3)) (ht : (pc : Int) + off = (tgt : Int)) (hc : x = y) (k : ip_Rn l G M d tgt L st h r) : ip_Rn l G M d pc L (.int y :: .int x :: st) h r :=
  ip_pure (fun _ _ _ _ _ _ _ _ _ _ _ _ _ _ _ C _ _ hL kk => lv_icmp_eq C.1 C.2.1 hd ht (fun _ => kk _ hL) (fun q => (q hc).elim)) k
theorem ip_icmp_eq_f {x y : Int32} {off : Int} {tgt : Nat} (hd : decode M.2.1 pc = .ok (.if_icmp .eq off, 3)) (ht : (pc : Int) + off = (tgt : Int)) (hc : ¬ x = y) (k : ip_Rn l G M d (pc + 3) L st h r) : ip_Rn l G M d pc L (.int y :: .int x :: st) h r :=
  ip_pure (fun _ _ _ _ _ _ _ _ _ _ _ _ _ _ _ C _ _ hL kk => lv_icmp_eq C.1 C.2.1 hd ht (fun q => (hc q).elim) (fun _ => kk _ hL)) k
theorem ip_if_ne_t {x : Int32} {off : Int} {tgt : Nat} (hd : decode M.2.1 pc = .ok (.ifCond .ne off, 3)) (ht : (pc : Int) + off = (tgt : Int)) (hc : ¬ x = 0) (k : ip_Rn l G M d tgt L st h r) : ip_Rn l G M d pc L (.int x :: st) h r :=
  ip_pure (fun _ _ _ _ _ _ _ _ _ _ _ _ _ _ _ C _ _ hL kk => lv_if_ne C.1 C.2.1 hd ht (fun _ => kk _ hL) (fun q => (hc q).elim)) k
theorem ip_if_ne_f {x : Int32} {off : Int} {tgt : Nat} (hd : decode M.2.1 pc = .ok (.ifCond .ne off, 3)) (ht : (pc : Int) + off = (tgt : Int)) (hc : x = 0) (k : ip_Rn l G M d (pc + 3) L st h r) : ip_Rn l G M d pc L (.int x :: st) h r :=
  ip_pure (fun _ _ _ _ _ _ _ _ _ _ _ _ _ _ _ C _ _ hL kk => lv_if_ne C.1 C.2.1 hd ht (fun q => (q hc).elim) (fun _ => kk _ hL)) k
theorem ip_icmp_ne_t {x y : Int32} {off : Int} {tgt : Nat} (hd : decode M.2.1 pc = .ok (.if_icmp .ne off, 3)) (ht : (pc : Int) + off = (tgt : Int)) (hc : ¬ x = y) (k : ip_Rn l G M d tgt L st h r) : ip_Rn l G M d pc L (.int y :: .int x :: st) h r :=
  ip_pure (fun _ _ _ _ _ _ _ _ _ _ _ _ _ _ _ C _ _ hL kk => lv_icmp_ne C.1 C.2.1 hd ht (fun _ => kk _ hL) (fun q => (hc q).elim)) k
theorem ip_icmp_ne_f {x y : Int32} {off : Int} {tgt : Nat} (hd : decode M.2.1 pc = .ok (.if_icmp .ne off, 3)) (ht : (pc : Int) + off = (tgt : Int)) (hc : x = y) (k : ip_Rn l G M d (pc + 3) L st h r) : ip_Rn l G M d pc L (.int y :: .int x :: st) h r :=
  ip_pure (fun _ _ _ _ _ _ _ _ _ _ _ _ _ _ _ C _ _ hL kk => lv_icmp_ne C.1 C.2.1 hd ht (fun q => (q hc).elim) (fun _ => kk _ hL)) k
theorem ip_if_lt_t {x : Int32} {off : Int} {tgt : Nat} (hd : decode M.2.1 pc = .ok (.ifCond .lt off, 3)) (ht : (pc : Int) + off = (tgt : Int)) (hc : x < 0) (k : ip_Rn l G M d tgt L st h r) : ip_Rn l G M d pc L (.int x :: st) h r :=
  ip_pure (fun _ _ _ _ _ _ _ _ _ _ _ _ _ _ _ C _ _ hL kk => lv_if_lt C.1 C.2.1 hd ht (fun _ => kk _ hL) (fun q => (q hc).elim)) k
theorem ip_if_lt_f {x : Int32} {off : Int} {tgt : Nat} (hd : decode M.2.1 pc = .ok (.ifCond .lt off, 3)) (ht : (pc : Int) + off = (tgt : Int)) (hc : ¬ x < 0) (k : ip_Rn l G M d (pc + 3) L st h r) : ip_Rn l G M d pc L (.int x :: st) h r :=
  ip_pure (fun _ _ _ _ _ _ _ _ _ _ _ _ _ _ _ C _ _ hL kk => lv_if_lt C.1 C.2.1 hd ht (fun q => (hc q).elim) (fun _ => kk _ hL)) k
theorem ip_icmp_lt_t {x y : Int32} {off : Int} {tgt : Nat} (hd : decode M.2.1 pc = .ok (.if_icmp .lt off, 3)) (ht : (pc : Int) + off = (tgt : Int)) (hc : x < y) (k : ip_Rn l G M d tgt L st h r) : ip_Rn l G M d pc L (.int y :: .int x :: st) h r :=
  ip_pure (fun _ _ _ _ _ _ _ _ _ _ _ _ _ _ _ C _ _ hL kk => lv_icmp_lt C.1 C.2.1 hd ht (fun _ => kk _ hL) (fun q => (q hc).elim)) k
theorem ip_icmp_lt_f {x y : Int32} {off : Int} {tgt : Nat} (hd : decode M.2.1 pc = .ok (.if_icmp .lt off, 3)) (ht : (pc : Int) + off = (tgt : Int)) (hc : ¬ x < y) (k : ip_Rn l G M d (pc + 3) L st h r) : ip_Rn l G M d pc L (.int y :: .int x :: st) h r :=
  ip_pure (fun _ _ _ _ _ _ _ _ _ _ _ _ _ _ _ C _ _ hL kk => lv_icmp_lt C.1 C.2.1 hd ht (fun q => (hc q).elim) (fun _ => kk _ hL)) k
theorem ip_if_ge_t {x : Int32} {off : Int} {tgt : Nat} (hd : decode M.2.1 pc = .ok (.ifCond .ge off, 3)) (ht : (pc : Int) + off = (tgt : Int)) (hc : 0 ≤ x) (k : ip_Rn l G M d tgt L st h r) : ip_Rn l G M d pc L (.int x :: st) h r :=
  ip_pure (fun _ _ _ _ _ _ _ _ _ _ _ _ _ _ _ C _ _ hL kk => lv_if_ge C.1 C.2.1 hd ht (fun _ => kk _ hL) (fun q => (q hc).elim)) k
theorem ip_if_ge_f {x : Int32} {off : Int} {tgt : Nat} (hd : decode M.2.1 pc = .ok (.ifCond .ge off, 3)) (ht : (pc : Int) + off = (tgt : Int)) (hc : ¬ 0 ≤ x) (k : ip_Rn l G M d (pc + 3) L st h r) : ip_Rn l G M d pc L (.int x :: st) h r :=
  ip_pure (fun _ _ _ _ _ _ _ _ _ _ _ _ _ _ _ C _ _ hL kk => lv_if_ge C.1 C.2.1 hd ht (fun q => (hc q).elim) (fun _ => kk _ hL)) k
theorem ip_icmp_ge_t {x y : Int32} {off : Int} {tgt : Nat} (hd : decode M.2.1 pc = .ok (.if_icmp .ge off, 3)) (ht : (pc : Int) + off = (tgt : Int)) (hc : y ≤ x) (k : ip_Rn l G M d tgt L st h r) : ip_Rn l G M d pc L (.int y :: .int x :: st) h r :=
  ip_pure (fun _ _ _ _ _ _ _ _ _ _ _ _ _ _ _ C _ _ hL kk => lv_icmp_ge C.1 C.2.1 hd ht (fun _ => kk _ hL) (fun q => (q hc).elim)) k
theorem ip_icmp_ge_f {x y : Int32} {off : Int} {tgt : Nat} (hd : decode M.2.1 pc = .ok (.if_icmp .ge off, 3)) (ht : (pc : Int) + off = (tgt : Int)) (hc : ¬ y ≤ x) (k : ip_Rn l G M d (pc + 3) L st h r) : ip_Rn l G M d pc L (.int y :: .int x :: st) h r :=
  ip_pure (fun _ _ _ _ _ _ _ _ _ _ _ _ _ _ _ C _ _ hL kk => lv_icmp_ge C.1 C.2.1 hd ht (fun q => (hc q).elim) (fun _ => kk _ hL)) k
theorem ip_if_gt_t {x : Int32} {off : Int} {tgt : Nat} (hd : decode M.2.1 pc = .ok (.ifCond .gt off, 3)) (ht : (pc : Int) + off = (tgt : Int)) (hc : 0 < x) (k : ip_Rn l G M d tgt L st h r) : ip_Rn l G M d pc L (.int x :: st) h r :=
  ip_pure (fun _ _ _ _ _ _ _ _ _ _ _ _ _ _ _ C _ _ hL kk => lv_if_gt C.1 C.2.1 hd ht (fun _ => kk _ hL) (fun q => (q hc).elim)) k
theorem ip_if_gt_f {x : Int32} {off : Int} {tgt : Nat} (hd : decode M.2.1 pc = .ok (.ifCond .gt off, 3)) (ht : (pc : Int) + off = (tgt : Int)) (hc : ¬ 0 < x) (k : ip_Rn l G M d (pc + 3) L st h r) : ip_Rn l G M d pc L (.int x :: st) h r :=
  ip_pure (fun _ _ _ _ _ _ _ _ _ _ _ _ _ _ _ C _ _ hL kk => lv_if_gt C.1 C.2.1 hd ht (fun q => (hc q).elim) (fun _ => kk _ hL)) k
theorem ip_icmp_gt_t {x y : Int32} {off : Int} {tgt : Nat} (hd : decode M.2.1 pc = .ok (.if_icmp .gt off, 3)) (ht : (pc : Int) + off = (tgt : Int)) (hc : y < x) (k : ip_Rn l G M d tgt L st h r) : ip_Rn l G M d pc L (.int y :: .int x :: st) h r :=
  ip_pure (fun _ _ _ _ _ _ _ _ _ _ _ _ _ _ _ C _ _ hL kk => lv_icmp_gt C.1 C.2.1 hd ht (fun _ => kk _ hL) (fun q => (q hc).elim)) k
theorem ip_icmp_gt_f {x y : Int32} {off : Int} {tgt : Nat} (hd : decode M.2.1 pc = .ok (.if_icmp .gt off, 3)) (ht : (pc : Int) + off = (tgt : Int)) (hc : ¬ y < x) (k : ip_Rn l G M d (pc + 3) L st h r) : ip_Rn l G M d pc L (.int y :: .int x :: st) h r :=
  ip_pure (fun _ _ _ _ _ _ _ _ _ _ _ _ _ _ _ C _ _ hL kk => lv_icmp_gt C.1 C.2.1 hd ht (fun q => (hc q).elim) (fun _ => kk _ hL)) k
theorem ip_if_le_t {x : Int32} {off : Int} {tgt : Nat} (hd : decode M.2.1 pc = .ok (.ifCond .le off, 3)) (ht : (pc : Int) + off = (tgt : Int)) (hc : x ≤ 0) (k : ip_Rn l G M d tgt L st h r) : ip_Rn l G M d pc L (.int x :: st) h r :=
  ip_pure (fun _ _ _ _ _ _ _ _ _ _ _ _ _ _ _ C _ _ hL kk => lv_if_le C.1 C.2.1 hd ht (fun _ => kk _ hL) (fun q => (q hc).elim)) k
theorem ip_if_le_f {x : Int32} {off : Int} {tgt : Nat} (hd : decode M.2.1 pc = .ok (.ifCond .le off, 3)) (ht : (pc : Int) + off = (tgt : Int)) (hc : ¬ x ≤ 0) (k : ip_Rn l G M d (pc + 3) L st h r) : ip_Rn l G M d pc L (.int x :: st) h r :=
  ip_pure (fun _ _ _ _ _ _ _ _ _ _ _ _ _ _ _ C _ _ hL kk => lv_if_le C.1 C.2.1 hd ht (fun q => (hc q).elim) (fun _ => kk _ hL)) k
theorem ip_icmp_le_t {x y : Int32} {off : Int} {tgt : Nat} (hd : decode M.2.1 pc = .ok (.if_icmp .le off, 3)) (ht : (pc : Int) + off = (tgt : Int)) (hc : x ≤ y) (k : ip_Rn l G M d tgt L st h r) : ip_Rn l G M d pc L (.int y :: .int x :: st) h r :=
  ip_pure (fun _ _ _ _ _ _ _ _ _ _ _ _ _ _ _ C _ _ hL kk => lv_icmp_le C.1 C.2.1 hd ht (fun _ => kk _ hL) (fun q => (q hc).elim)) k
theorem ip_icmp_le_f {x y : Int32} {off : Int} {tgt : Nat} (hd : decode M.2.1 pc = .ok (.if_icmp .le off, 3)) (ht : (pc : Int) + off = (tgt : Int)) (hc : ¬ x ≤ y) (k : ip_Rn l G M d (pc + 3) L st h r) : ip_Rn l G M d pc L (.int y :: .int x :: st) h r :=
  ip_pure (fun _ _ _ _ _ _ _ _ _ _ _ _ _ _ _ C _ _ hL kk => lv_icmp_le C.1 C.2.1 hd ht (fun q => (hc q).elim) (fun _ => kk _ hL)) k
theorem ip_tabO {dflt lo hi : Int} {offs : Array Int} {len : Nat} {x : Int32} {tgt : Nat} (hd : decode M.2.1 pc = .ok (.tableswitch dflt lo hi offs, len)) (hx : x.toInt < lo ∨ hi < x.toInt) (ht : (pc : Int) + dflt = (tgt : Int)) (k : ip_Rn l G M d tgt L st h r) : ip_Rn l G M d pc L (.int x :: st) h r :=
  ip_pure (fun _ _ _ _ _ _ _ _ _ _ _ _ _ _ _ C _ _ hL kk => lv_tableOut C.1 C.2.1 hd hx ht (kk _ hL)) k
theorem ip_tabI {dflt lo hi : Int} {offs : Array Int} {len : Nat} {x : Int32} {off : Int} {tgt : Nat} (hd : decode M.2.1 pc = .ok (.tableswitch dflt lo hi offs, len)) (h1 : ¬ x.toInt < lo) (h2 : ¬ hi < x.toInt) (ho : offs[(x.toInt - lo).toNat]? = some off) (ht : (pc : Int) + off = (tgt : Int)) (k : ip_Rn l G M d tgt L st h r) : ip_Rn l G M d pc L (.int x :: st) h r :=
  ip_pure (fun _ _ _ _ _ _ _ _ _ _ _ _ _ _ _ C _ _ hL kk => lv_tableIn C.1 C.2.1 hd h1 h2 ho ht (kk _ hL)) k
theorem ip_lkp {dflt : Int} {ps : Array (Int × Int)} {len : Nat} {x : Int32} {off : Int} {tgt : Nat} (hd : decode M.2.1 pc = .ok (.lookupswitch dflt ps, len)) (hp : (ps.toList.zip (ps.toList.drop 1)).all (fun (a, next) => a.1 < next.1) = true) (ho : Op.lookupswitch.offset ps.toList dflt x.toInt = off) (ht : (pc : Int) + off = (tgt : Int)) (k : ip_Rn l G M d tgt L st h r) : ip_Rn l G M d pc L (.int x :: st) h r :=
  ip_pure (fun _ _ _ _ _ _ _ _ _ _ _ _ _ _ _ C _ _ hL kk => lv_lookup C.1 C.2.1 hd hp ho ht (kk _ hL)) k
end IPB
def ip_F (T : List Cond) (cl : List vw_C) (own : String) (idx ci k : Nat) (ty : FieldType) (fin : Bool) : Prop :=
  ∃ (C : String) (F : u_T) (N : Nat), cl[ci]? = some (C, F, N) ∧ (∀ w ∈ u_ws C F N, w ∈ T) ∧ k < N ∧ (F k).1 = C ∧ parseFieldDescriptor (F k).2.2.1 = some ty ∧ (F k).2.2.2 = fin ∧ (∃ ty0 : Nat → FieldType, ∀ j, j < N → parseFieldDescriptor (F j).2.2.1 = some (ty0 j)) ∧ (∀ a, a < N → ∀ b, b < N → a ≠ b → (F a).2.1 ≠ (F b).2.1) ∧
    (Cond.fieldLink own idx C (F k).2.1 (F k).2.2.1 ∈ T ∨ ∃ host, Cond.fieldLinkNest own idx C (F k).2.1 (F k).2.2.1 host ∈ T)
def ip_Fp (T : List Cond) (cl : List vw_C) (own : String) (idx ci k : Nat) (ty : FieldType) : Prop :=
  ∃ (F : u_T) (N : Nat), cl[ci]? = some (own, F, N) ∧ (∀ w ∈ u_ws own F N, w ∈ T) ∧ k < N ∧ (F k).1 = own ∧ parseFieldDescriptor (F k).2.2.1 = some ty ∧ (F k).2.2.2 = true ∧ (∃ ty0 : Nat → FieldType, ∀ j, j < N → parseFieldDescriptor (F j).2.2.1 = some (ty0 j)) ∧ (∀ a, a < N → ∀ b, b < N → a ≠ b → (F a).2.1 ≠ (F b).2.1) ∧
    Cond.fieldLink own idx own (F k).2.1 (F k).2.2.1 ∈ T
def ip_N (T : List Cond) (cl : List vw_C) (own : String) (idx ci : Nat) (fs : List Value) : Prop :=
  ∃ (C : String) (F : u_T) (N : Nat), cl[ci]? = some (C, F, N) ∧ (∀ w ∈ u_ws C F N, w ∈ T) ∧ (∃ ty0 : Nat → FieldType, (∀ j, j < N → parseFieldDescriptor (F j).2.2.1 = some (ty0 j)) ∧ fs = (List.range N).map (fun j => defaultValue (ty0 j))) ∧ Cond.classLink own idx C ∈ T ∧ Cond.instantiable C N ∈ T ∧ Cond.initialized C ∈ T
theorem ip_fits {G : ip_G} {ty : FieldType} {v : Value} (hf : fits ty v = true) : narrow ty (ip_v G v) = ip_v G v ∧ fits ty (ip_v G v) = true := by
  have h2 : fits ty (ip_v G v) = true := by
    cases v <;> first | exact hf | (cases ty <;> first | exact hf | rfl)
  refine ⟨?_, h2⟩
  cases v with
  | int x =>
    cases ty with
    | boolean =>
      have h3 : (x == 0 || x == 1) = true := hf
      rcases Bool.or_eq_true _ _ |>.mp h3 with q | q
      · rw [eq_of_beq q]; rfl
      · rw [eq_of_beq q]; rfl
    | byte =>
      have h3 : (decide (-128 ≤ x) && decide (x ≤ 127)) = true := hf
      simp only [Bool.and_eq_true, decide_eq_true_eq] at h3
      show Value.int x.toInt8.toInt32 = .int x
      congr 1
      have q1 : (-128 : Int) ≤ x.toInt := Int32.le_iff_toInt_le.mp h3.1
      have q2 : x.toInt ≤ 127 := Int32.le_iff_toInt_le.mp h3.2
      apply Int32.toInt_inj.mp
      rw [Int8.toInt_toInt32, Int32.toInt_toInt8]
      exact Int.bmod_eq_of_le (by omega) (by omega)
    | char =>
      have h3 : (decide (0 ≤ x) && decide (x ≤ 65535)) = true := hf
      simp only [Bool.and_eq_true, decide_eq_true_eq] at h3
      obtain ⟨n, hn, rfl⟩ := nI_of2 (M := 65535) (n := 65535) rfl (fun q => by
        have q1 : (0 : Int) ≤ x.toInt := Int32.le_iff_toInt_le.mp h3.1
        have q2 : x.toInt < 0 := Int32.lt_iff_toInt_lt.mp q
        omega) h3.2
      exact (pk_charN (by omega)).1
    | short =>
      have h3 : (decide (-32768 ≤ x) && decide (x ≤ 32767)) = true := hf
      simp only [Bool.and_eq_true, decide_eq_true_eq] at h3
      show Value.int x.toInt16.toInt32 = .int x
      congr 1
      have q1 : (-32768 : Int) ≤ x.toInt := Int32.le_iff_toInt_le.mp h3.1
      have q2 : x.toInt ≤ 32767 := Int32.le_iff_toInt_le.mp h3.2
      apply Int32.toInt_inj.mp
      rw [Int16.toInt_toInt32, Int32.toInt_toInt16]
      exact Int.bmod_eq_of_le (by omega) (by omega)
    | _ => rfl
  | _ => cases ty <;> rfl
section IPH
variable {l : Launch} {G : ip_G} {M : ip_M} {d pc : Nat} {L : List (Option Value)} {st : List Value} {h : ip_H} {r : Option Value × ip_H}
theorem ip_getf {idx ci k n : Nat} {fs : List Value} {ty : FieldType} {fin : Bool} {v : Value} (hd : decode M.2.1 pc = .ok (.getfield idx, 3)) (hF : ip_F (ip_T G) (ip_C G) M.1.cls idx ci k ty fin) (hh : ip_h h n = some (.inr (ci, fs))) (hv : fs[k]? = some v)
    (kk : ip_Rn l G M d (pc + 3) L (v :: st) h r) : ip_Rn l G M d pc L (.ref n :: st) h r := by
  obtain ⟨C, F, N, hc, hw, hk, hC, -, -, -, -, hl⟩ := hF
  refine ⟨kk.1, fun p e R s m args below meth c Q H locs cells slots ls Cx hdp hlo hce hsl hL hSt hS kt => ?_⟩
  have hnext := kk.2 p e R s m args below meth c Q H locs cells slots ls Cx hdp hlo hce hsl hL hSt hS kt
  have hws := ip_ws_at G hh
  have hv' : (fs.map (ip_v G))[k]? = some (ip_v G v) := by rw [List.getElem?_map, hv]; rfl
  obtain ⟨hx, hb, -, -, hown, hts, -, -, -, hK, -⟩ := Cx
  rcases hl with hl | ⟨host, hl⟩
  · exact va_get hx hb hts hw hown hK hSt.2 (n - 32) hws hc k hk (hts _ hl) (fun x q => by rw [hC] at q; exact q) hv' hd hnext
  · exact va_getN hx hb hts hw hown hK hSt.2 (n - 32) hws hc k hk (hts _ hl) (fun x q => by rw [hC] at q; exact q) hv' hd hnext
theorem ip_store {s : State} {n k : Nat} {e0 e : ip_E} {H H1 : Heap} {locs : List Loc} (hSt : ip_St G h H) (hS : ip_S G s H locs) (hh : ip_h h n = some e0) (hat : va_at (ip_D G) (ip_C G) (ip_a G n, ip_cv G e) H1) (hz : H1.size = H.size) (oq : ∀ q : Nat, q ≠ ip_a G n → H1[q]? = H[q]?) :
    ip_St G (ip_hs h n e) H1 ∧ ip_S G s H1 (locs ++ [⟨ip_a G n, k⟩]) := by
  have hD := ip_ws_D G h (ip_B G)
  have hws := ip_ws_at G hh
  have ha : ip_a G n = ip_B G + (n - 32) := by
    unfold ip_h at hh
    split at hh
    · cases hh
    · next hn => unfold ip_a; rw [if_neg hn]
  have h1 := hSt.2.set hD hws hat oq
  refine ⟨⟨by rw [hz, hSt.1, ip_hs_len], ?_⟩, hS.put hz oq (by rw [ha]; exact Nat.le_add_right _ _)⟩
  unfold ip_hs
  rw [ip_ws_set, ← ha]
  exact h1
theorem ip_putf {idx ci k n : Nat} {fs : List Value} {ty : FieldType} {v : Value} (hd : decode M.2.1 pc = .ok (.putfield idx, 3)) (hF : ip_F (ip_T G) (ip_C G) M.1.cls idx ci k ty false) (hh : ip_h h n = some (.inr (ci, fs))) (hfl : k < fs.length) (hfit : fits ty v = true)
    (kk : ip_Rn l G M d (pc + 3) L st (ip_hs h n (.inr (ci, fs.set k v))) r) : ip_Rn l G M d pc L (v :: .ref n :: st) h r := by
  obtain ⟨C, F, N, hc, hw, hk, hC, hpar, hfin, ⟨ty0, hty⟩, hnm, hl⟩ := hF
  have hz : ip_z (.inr (ci, fs.set k v)) = ip_z (.inr (ci, fs)) := by show (fs.set k v).length = fs.length; exact List.length_set
  have et := ip_hs_t hh hz
  have k1 := kk.1
  rw [ip_hs_len, et] at k1
  refine ⟨k1, fun p e R s m args below meth c Q H locs cells slots ls Cx hdp hlo hce hsl hL hSt hS kt => ?_⟩
  have hws := ip_ws_at G hh
  have Cx0 := Cx
  obtain ⟨hx, hb, -, -, hown, hts, -, -, -, hK, -⟩ := Cx
  obtain ⟨hn2, hf2⟩ := ip_fits (G := G) hfit
  have hap := va_apart (own := M.1.cls) hts hw ty0 hty hnm hK hc
  obtain ⟨r', h1, cell, q1, q2, q3, q4⟩ := hSt.2 (n - 32) _ hws
  have hr : r' = (C, F, N) := Option.some.inj (h1.symm.trans hc)
  subst hr
  obtain ⟨hS1, hfc, kC, hkC, hkind⟩ := hK.1 ci _ hc
  obtain ⟨cf, kf, fi, f, hi, hsl1⟩ := hS1 k hk
  have hlay := hts _ (hw _ (u_in_lay hk))
  unfold u_lay at hlay
  rw [if_neg (by rw [hfin]; decide)] at hlay
  have hst := (u_facts hfc hkC (u_lays hts hw hk) hi).1
  have h6 := u_store hfc hkC hkind hlay hi hpar hn2 hf2
  have hi2 : s.fieldFound? C (F k).2.1 (F k).2.2.1 = some (cf, kf, fi, f) := by rw [← hC]; exact hi
  have fin : ∀ (H' : Heap), H'[ip_a G n]? = some (cell.setSlot f.slot (ip_v G v)) → H'.size = H.size → (∀ q, q ≠ ip_a G n → H'[q]? = H[q]?) → W p l e R s m args below meth c H' (locs ++ [⟨ip_a G n, f.slot⟩]) cells slots Q (F0 m (pc + 3) ls (st.map (ip_v G))) := by
    intro H' e1 e2 e3
    rw [hsl1] at e1
    have hat : va_at (ip_D G) (ip_C G) (ip_a G n, ip_cv G (.inr (ci, fs.set k v))) H' := by
      refine ⟨_, hc, t_OB.to (V := updV (vp_V (fs.map (ip_v G))) k (ip_v G v)) ⟨_, e1, q2, q3, t_set q4 hap hk (ip_v G v)⟩ (fun j _ => ?_)⟩
      show _ = vp_V ((fs.set k v).map (ip_v G)) j
      rw [List.map_set]
      exact vp_updV_set (by rw [List.length_map]; exact hfl) (ip_v G v) j
    obtain ⟨a1, a2⟩ := ip_store (k := f.slot) hSt hS hh hat e2 e3
    exact kk.2 p e R s m args below meth c Q H' _ cells slots ls Cx0 hdp hlo (by rw [ip_hs_len]; exact hce) (by rw [et]; exact hsl) hL a1 a2 (fun pc' ls' H'' locs' w1 w2 w3 => by rw [ip_hs_len, et]; exact kt pc' ls' H'' locs' w1 w2 w3)
  rcases hl with hl | ⟨host, hl⟩
  · exact W.putK hx hb (f := f) ⟨hown, hts _ hl, ⟨_, _, _, hi2⟩, hst⟩ (by rw [q2]; exact h6) q1 q3 (by rw [hsl1]; exact k2_hasslot (q4 k hk)) rfl rfl hd fin
  · exact va_WputK hx hb (f := f) hown (hts _ hl) hi2 hst (by rw [q2]; exact h6) q1 q3 (by rw [hsl1]; exact k2_hasslot (q4 k hk)) rfl rfl hd fin
theorem ip_putF {idx ci k n : Nat} {fs : List Value} {ty : FieldType} {v : Value} (hd : decode M.2.1 pc = .ok (.putfield idx, 3)) (hF : ip_Fp (ip_T G) (ip_C G) M.1.cls idx ci k ty) (hname : M.1.name = "<init>") (hh : ip_h h n = some (.inr (ci, fs))) (hfl : k < fs.length) (hfit : fits ty v = true)
    (kk : ip_Rn l G M d (pc + 3) L st (ip_hs h n (.inr (ci, fs.set k v))) r) : ip_Rn l G M d pc L (v :: .ref n :: st) h r := by
  obtain ⟨F, N, hc, hw, hk, hC, hpar, hfin, ⟨ty0, hty⟩, hnm, hl⟩ := hF
  have hz : ip_z (.inr (ci, fs.set k v)) = ip_z (.inr (ci, fs)) := by show (fs.set k v).length = fs.length; exact List.length_set
  have et := ip_hs_t hh hz
  have k1 := kk.1
  rw [ip_hs_len, et] at k1
  refine ⟨k1, fun p e R s m args below meth c Q H locs cells slots ls Cx hdp hlo hce hsl hL hSt hS kt => ?_⟩
  have hws := ip_ws_at G hh
  have Cx0 := Cx
  obtain ⟨hx, hb, -, -, hown, hts, -, hin2, -, hK, -⟩ := Cx
  obtain ⟨hn2, hf2⟩ := ip_fits (G := G) hfit
  have hap := va_apart (own := M.1.cls) hts hw ty0 hty hnm hK hc
  obtain ⟨r', h1, cell, q1, q2, q3, q4⟩ := hSt.2 (n - 32) _ hws
  have hr : r' = (M.1.cls, F, N) := Option.some.inj (h1.symm.trans hc)
  subst hr
  obtain ⟨hS1, hfc, kC, hkC, hkind⟩ := hK.1 ci _ hc
  obtain ⟨cf, kf, fi, f, hi, hsl1⟩ := hS1 k hk
  have hlay := hts _ (hw _ (u_in_lay hk))
  unfold u_lay at hlay
  rw [if_pos hfin] at hlay
  have hst := (u_facts hfc hkC (u_lays hts hw hk) hi).1
  have hcf : m.cls = cf := by
    obtain ⟨_, _, c', _, _, _, -, -, hf', -, -, -, hown2, -⟩ := Cond.laysFinal_spec hlay
    have e1 : c' = cf := by have := hi.symm.trans hf'; simp at this; exact this.1.symm
    rw [hC] at hown2
    rw [← e1]; exact Option.some.inj (hown.symm.trans hown2)
  have h6 := u_fits hfc hkC hkind (Or.inr hlay) hi hpar hn2 hf2
  have hi2 : s.fieldFound? M.1.cls (F k).2.1 (F k).2.2.1 = some (cf, kf, fi, f) := by rw [← hC]; exact hi
  have fin : ∀ (H' : Heap), H'[ip_a G n]? = some (cell.setSlot f.slot (ip_v G v)) → H'.size = H.size → (∀ q, q ≠ ip_a G n → H'[q]? = H[q]?) → W p l e R s m args below meth c H' (locs ++ [⟨ip_a G n, f.slot⟩]) cells slots Q (F0 m (pc + 3) ls (st.map (ip_v G))) := by
    intro H' e1 e2 e3
    rw [hsl1] at e1
    have hat : va_at (ip_D G) (ip_C G) (ip_a G n, ip_cv G (.inr (ci, fs.set k v))) H' := by
      refine ⟨_, hc, t_OB.to (V := updV (vp_V (fs.map (ip_v G))) k (ip_v G v)) ⟨_, e1, q2, q3, t_set q4 hap hk (ip_v G v)⟩ (fun j _ => ?_)⟩
      show _ = vp_V ((fs.set k v).map (ip_v G)) j
      rw [List.map_set]
      exact vp_updV_set (by rw [List.length_map]; exact hfl) (ip_v G v) j
    obtain ⟨a1, a2⟩ := ip_store (k := f.slot) hSt hS hh hat e2 e3
    exact kk.2 p e R s m args below meth c Q H' _ cells slots ls Cx0 hdp hlo (by rw [ip_hs_len]; exact hce) (by rw [et]; exact hsl) hL a1 a2 (fun pc' ls' H'' locs' w1 w2 w3 => by rw [ip_hs_len, et]; exact kt pc' ls' H'' locs' w1 w2 w3)
  exact W.putFinK hx hb hown (hts _ hl) hi2 hst hcf (hin2 hname) (by rw [q2]; exact h6) q1 q3 (by rw [hsl1]; exact k2_hasslot (q4 k hk)) rfl rfl hd fin
end IPH
end
section
section IPA
variable {l : Launch} {G : ip_G} {M : ip_M} {d pc : Nat} {L : List (Option Value)} {st : List Value} {h : ip_H} {r : Option Value × ip_H}
theorem ip_iald {n len : Nat} {f : Nat → Int32} {i : Int32} (hd : decode M.2.1 pc = .ok (.iaload, 1)) (hh : ip_h h n = some (.inl (.int, len, .inl f))) (hin : vp_in i len) (kk : ip_Rn l G M d (pc + 1) L (.int (f i.toNatClampNeg) :: st) h r) : ip_Rn l G M d pc L (.int i :: .ref n :: st) h r :=
  ⟨kk.1, fun p e R s m args below meth c Q H locs cells slots ls Cx hdp hlo hce hsl hL hSt hS kt =>
    va_iald (D := ip_D G) (cl := ip_C G) (tys := ip_ty G) Cx.1 Cx.2.1 Cx.2.2.2.2.2.2.2.2.2.1 hSt.2 (n - 32) 0 (ip_ws_at G hh) rfl hin hd (kk.2 p e R s m args below meth c Q H locs cells slots ls Cx hdp hlo hce hsl hL hSt hS kt)⟩
theorem ip_bald {n len : Nat} {f : Nat → Int32} {i : Int32} (hd : decode M.2.1 pc = .ok (.baload, 1)) (hh : ip_h h n = some (.inl (.byte, len, .inl f))) (hin : vp_in i len) (kk : ip_Rn l G M d (pc + 1) L (.int (f i.toNatClampNeg) :: st) h r) : ip_Rn l G M d pc L (.int i :: .ref n :: st) h r :=
  ⟨kk.1, fun p e R s m args below meth c Q H locs cells slots ls Cx hdp hlo hce hsl hL hSt hS kt =>
    va_bald (D := ip_D G) (cl := ip_C G) (tys := ip_ty G) Cx.1 Cx.2.1 Cx.2.2.2.2.2.2.2.2.2.1 hSt.2 (n - 32) 1 (ip_ws_at G hh) rfl hin hd (kk.2 p e R s m args below meth c Q H locs cells slots ls Cx hdp hlo hce hsl hL hSt hS kt)⟩
theorem ip_zald {n len : Nat} {f : Nat → Int32} {i : Int32} (hd : decode M.2.1 pc = .ok (.baload, 1)) (hh : ip_h h n = some (.inl (.boolean, len, .inl f))) (hin : vp_in i len) (kk : ip_Rn l G M d (pc + 1) L (.int (f i.toNatClampNeg) :: st) h r) : ip_Rn l G M d pc L (.int i :: .ref n :: st) h r :=
  ⟨kk.1, fun p e R s m args below meth c Q H locs cells slots ls Cx hdp hlo hce hsl hL hSt hS kt =>
    va_zald (D := ip_D G) (cl := ip_C G) (tys := ip_ty G) Cx.1 Cx.2.1 Cx.2.2.2.2.2.2.2.2.2.1 hSt.2 (n - 32) 2 (ip_ws_at G hh) rfl hin hd (kk.2 p e R s m args below meth c Q H locs cells slots ls Cx hdp hlo hce hsl hL hSt hS kt)⟩
theorem ip_lald {n len : Nat} {f : Nat → Int64} {i : Int32} (hd : decode M.2.1 pc = .ok (.laload, 1)) (hh : ip_h h n = some (.inl (.long, len, .inr (.inl f)))) (hin : vp_in i len) (kk : ip_Rn l G M d (pc + 1) L (.long (f i.toNatClampNeg) :: st) h r) : ip_Rn l G M d pc L (.int i :: .ref n :: st) h r :=
  ⟨kk.1, fun p e R s m args below meth c Q H locs cells slots ls Cx hdp hlo hce hsl hL hSt hS kt =>
    va_lald (D := ip_D G) (cl := ip_C G) (tys := ip_ty G) Cx.1 Cx.2.1 Cx.2.2.2.2.2.2.2.2.2.1 hSt.2 (n - 32) 3 (ip_ws_at G hh) rfl hin hd (kk.2 p e R s m args below meth c Q H locs cells slots ls Cx hdp hlo hce hsl hL hSt hS kt)⟩
def ip_tyN (ty : FieldType) : Nat := match ty with
  | .int => 0
  | .byte => 1
  | .boolean => 2
  | _ => 3
theorem ip_alen {n : Nat} {ty : FieldType} {x : vp_A} {v : Int32} (hd : decode M.2.1 pc = .ok (.arraylength, 1)) (hh : ip_h h n = some (.inl (ty, x))) (hty : (ip_ty G)[ip_tyN ty]? = some (ip_A G ty, ty)) (hv : Int32.ofNat x.1 = v) (kk : ip_Rn l G M d (pc + 1) L (.int v :: st) h r) : ip_Rn l G M d pc L (.ref n :: st) h r :=
  ⟨kk.1, fun p e R s m args below meth c Q H locs cells slots ls Cx hdp hlo hce hsl hL hSt hS kt =>
    va_alen (D := ip_D G) (cl := ip_C G) (tys := ip_ty G) Cx.1 Cx.2.1 Cx.2.2.2.2.2.2.2.2.2.1 hSt.2 (n - 32) (ip_tyN ty) (ip_ws_at G hh) hty hv hd (kk.2 p e R s m args below meth c Q H locs cells slots ls Cx hdp hlo hce hsl hL hSt hS kt)⟩
theorem ip_stI {s : State} {n len : Nat} {ty : FieldType} {f g : Nat → Int32} {H H1 : Heap} {locs : List Loc} {j : Nat} {w : Int32} (hSt : ip_St G h H) (hS : ip_S G s H locs) (hh : ip_h h n = some (.inl (ty, len, .inl f)))
    (e : H1[ip_a G n]? = some ((vp_cell (ip_A G ty) (len, .inl f)).setSlot j (.int w))) (z : H1.size = H.size) (oq : ∀ q, q ≠ ip_a G n → H1[q]? = H[q]?) : ip_St G (ip_hs h n (.inl (ty, len, .inl (upd f j w)))) H1 ∧ ip_S G s H1 (locs ++ [⟨ip_a G n, j⟩]) := by
  refine ip_store hSt hS hh ?_ z oq
  show H1[ip_a G n]? = some (vp_cell _ _)
  rw [e, vp_cell_i, vp_cell_i, arrV_store]
  congr 2
  funext q
  by_cases hq : q = j
  · subst hq
    simp [updV, upd]
  · simp [updV, upd, hq]
theorem ip_iast {n len : Nat} {f : Nat → Int32} {i x : Int32} (hd : decode M.2.1 pc = .ok (.iastore, 1)) (hh : ip_h h n = some (.inl (.int, len, .inl f))) (hin : vp_in i len)
    (kk : ip_Rn l G M d (pc + 1) L st (ip_hs h n (.inl (.int, len, .inl (upd f i.toNatClampNeg x)))) r) : ip_Rn l G M d pc L (.int x :: .int i :: .ref n :: st) h r := by
  have et := ip_hs_t (e := .inl (.int, len, .inl (upd f i.toNatClampNeg x))) hh rfl
  have k1 := kk.1
  rw [ip_hs_len, et] at k1
  refine ⟨k1, fun p e R s m args below meth c Q H locs cells slots ls Cx hdp hlo hce hsl hL hSt hS kt => ?_⟩
  have hws := ip_ws_at G hh
  refine W.iast Cx.1 Cx.2.1 (hSt.2 (n - 32) _ hws) ((Cx.2.2.2.2.2.2.2.2.2.1.2 0 _ rfl).1 len (fun j => .int (f j))) (fun q => by cases q) (by show ¬ (i < 0 ∨ (arrV _ _ _).slots.size ≤ _); rw [arrV_size]; exact hin) rfl rfl hd fun H1 e1 z oq => ?_
  obtain ⟨a1, a2⟩ := ip_stI hSt hS hh (g := f) e1 z oq
  exact kk.2 p e R s m args below meth c Q H1 _ cells slots ls Cx hdp hlo (by rw [ip_hs_len]; exact hce) (by rw [et]; exact hsl) hL a1 a2 (fun pc' ls' H'' locs' w1 w2 w3 => by rw [ip_hs_len, et]; exact kt pc' ls' H'' locs' w1 w2 w3)
theorem ip_bast {n len : Nat} {f : Nat → Int32} {i x : Int32} (hd : decode M.2.1 pc = .ok (.bastore, 1)) (hh : ip_h h n = some (.inl (.byte, len, .inl f))) (hin : vp_in i len)
    (kk : ip_Rn l G M d (pc + 1) L st (ip_hs h n (.inl (.byte, len, .inl (upd f i.toNatClampNeg x.toInt8.toInt32)))) r) : ip_Rn l G M d pc L (.int x :: .int i :: .ref n :: st) h r := by
  have et := ip_hs_t (e := .inl (.byte, len, .inl (upd f i.toNatClampNeg x.toInt8.toInt32))) hh rfl
  have k1 := kk.1
  rw [ip_hs_len, et] at k1
  refine ⟨k1, fun p e R s m args below meth c Q H locs cells slots ls Cx hdp hlo hce hsl hL hSt hS kt => ?_⟩
  have hws := ip_ws_at G hh
  refine W.bast Cx.1 Cx.2.1 (hSt.2 (n - 32) _ hws) ((Cx.2.2.2.2.2.2.2.2.2.1.2 1 _ rfl).1 len (fun j => .int (f j))) (fun q => by cases q) (by show ¬ (i < 0 ∨ (arrV _ _ _).slots.size ≤ _); rw [arrV_size]; exact hin) rfl rfl hd fun H1 e1 z oq => ?_
  obtain ⟨a1, a2⟩ := ip_stI hSt hS hh (g := f) e1 z oq
  exact kk.2 p e R s m args below meth c Q H1 _ cells slots ls Cx hdp hlo (by rw [ip_hs_len]; exact hce) (by rw [et]; exact hsl) hL a1 a2 (fun pc' ls' H'' locs' w1 w2 w3 => by rw [ip_hs_len, et]; exact kt pc' ls' H'' locs' w1 w2 w3)
theorem ip_zast {n len : Nat} {f : Nat → Int32} {i x : Int32} (hd : decode M.2.1 pc = .ok (.bastore, 1)) (hh : ip_h h n = some (.inl (.boolean, len, .inl f))) (hin : vp_in i len)
    (kk : ip_Rn l G M d (pc + 1) L st (ip_hs h n (.inl (.boolean, len, .inl (upd f i.toNatClampNeg (x &&& 1))))) r) : ip_Rn l G M d pc L (.int x :: .int i :: .ref n :: st) h r := by
  have et := ip_hs_t (e := .inl (.boolean, len, .inl (upd f i.toNatClampNeg (x &&& 1)))) hh rfl
  have k1 := kk.1
  rw [ip_hs_len, et] at k1
  refine ⟨k1, fun p e R s m args below meth c Q H locs cells slots ls Cx hdp hlo hce hsl hL hSt hS kt => ?_⟩
  have hws := ip_ws_at G hh
  refine W.zast Cx.1 Cx.2.1 (hSt.2 (n - 32) _ hws) ((Cx.2.2.2.2.2.2.2.2.2.1.2 2 _ rfl).1 len (fun j => .int (f j))) (fun q => by cases q) (by show ¬ (i < 0 ∨ (arrV _ _ _).slots.size ≤ _); rw [arrV_size]; exact hin) rfl rfl hd fun H1 e1 z oq => ?_
  obtain ⟨a1, a2⟩ := ip_stI hSt hS hh (g := f) e1 z oq
  exact kk.2 p e R s m args below meth c Q H1 _ cells slots ls Cx hdp hlo (by rw [ip_hs_len]; exact hce) (by rw [et]; exact hsl) hL a1 a2 (fun pc' ls' H'' locs' w1 w2 w3 => by rw [ip_hs_len, et]; exact kt pc' ls' H'' locs' w1 w2 w3)
theorem ip_last {n len : Nat} {f : Nat → Int64} {i : Int32} {x : Int64} (hd : decode M.2.1 pc = .ok (.lastore, 1)) (hh : ip_h h n = some (.inl (.long, len, .inr (.inl f)))) (hin : vp_in i len)
    (kk : ip_Rn l G M d (pc + 1) L st (ip_hs h n (.inl (.long, len, .inr (.inl (vp_updL f i.toNatClampNeg x))))) r) : ip_Rn l G M d pc L (.long x :: .int i :: .ref n :: st) h r := by
  have et := ip_hs_t (e := .inl (.long, len, .inr (.inl (vp_updL f i.toNatClampNeg x)))) hh rfl
  have k1 := kk.1
  rw [ip_hs_len, et] at k1
  refine ⟨k1, fun p e R s m args below meth c Q H locs cells slots ls Cx hdp hlo hce hsl hL hSt hS kt => ?_⟩
  have hws := ip_ws_at G hh
  refine W.last Cx.1 Cx.2.1 (hSt.2 (n - 32) _ hws) ((Cx.2.2.2.2.2.2.2.2.2.1.2 3 _ rfl).1 len (fun j => .long (f j))) (fun q => by cases q) (by show ¬ (i < 0 ∨ (arrV _ _ _).slots.size ≤ _); rw [arrV_size]; exact hin) rfl rfl hd fun H1 e1 z oq => ?_
  have hat : va_at (ip_D G) (ip_C G) (ip_a G n, ip_cv G (.inl (.long, len, .inr (.inl (vp_updL f i.toNatClampNeg x))))) H1 := by
    show H1[ip_a G n]? = some (vp_cell _ _)
    rw [e1]
    rw [vp_cell_l, vp_cell_l, arrV_store]
    congr 2
    funext q
    by_cases hq : q = i.toNatClampNeg
    · subst hq
      simp [updV, vp_updL]
    · simp [updV, vp_updL, hq]
  obtain ⟨a1, a2⟩ := ip_store (k := i.toNatClampNeg) hSt hS hh hat z oq
  exact kk.2 p e R s m args below meth c Q H1 _ cells slots ls Cx hdp hlo (by rw [ip_hs_len]; exact hce) (by rw [et]; exact hsl) hL a1 a2 (fun pc' ls' H'' locs' w1 w2 w3 => by rw [ip_hs_len, et]; exact kt pc' ls' H'' locs' w1 w2 w3)
/-- a new cell -/
theorem ip_grow {s : State} {e : ip_E} {H H1 : Heap} {locs : List Loc} (hSt : ip_St G h H) (hS : ip_S G s H locs) (hU : ip_B G ≤ s.heap.size) (hat : va_at (ip_D G) (ip_C G) (H.size, ip_cv G e) H1) (hz : H1.size = H.size + 1) (oq : ∀ q : Nat, q < H.size → H1[q]? = H[q]?) : ip_St G (h ++ [e]) H1 ∧ ip_S G s H1 locs := by
  refine ⟨⟨by rw [hz, hSt.1, List.length_append]; rfl, ?_⟩, ⟨Nat.le_trans hS.1 (by omega), fun q h1 h2 => (oq q (Nat.lt_of_lt_of_le h1 hS.1)).trans (hS.2.1 q h1 h2), hS.2.2⟩⟩
  rw [ip_ws_push, ← hSt.1]
  refine (hSt.2.kept (fun k x hx => oq x.1 ((hSt.2 k x hx).lt))).app (fun k x hx => ?_)
  have hk : k < 1 := (List.getElem?_eq_some_iff.mp hx).1
  rw [show k = 0 by omega] at hx
  cases hx
  exact hat
theorem ip_new {idx ci : Nat} {fs : List Value} (hd : decode M.2.1 pc = .ok (.new idx, 3)) (hN : ip_N (ip_T G) (ip_C G) M.1.cls idx ci fs)
    (kk : ip_Rn l G M d (pc + 3) L (.ref (32 + h.length) :: st) (h ++ [.inr (ci, fs)]) r) : ip_Rn l G M d pc L st h r := by
  obtain ⟨C, F, N, hc, hw, ⟨ty0, hty, hfs⟩, hcl, hins, hini⟩ := hN
  have hlen : fs.length = N := by rw [hfs]; simp
  have et := ip_t_push h (.inr (ci, fs))
  have ez : ip_z (.inr (ci, fs)) = N := hlen
  rw [ez] at et
  have k1 := kk.1
  rw [List.length_append, et] at k1
  have k1a : h.length + 1 ≤ r.2.length := k1.1
  refine ⟨⟨by omega, by omega⟩, fun p e R s m args below meth c Q H locs cells slots ls Cx hdp hlo hce hsl hL hSt hS kt => ?_⟩
  have Cx0 := Cx
  obtain ⟨hx, hb, -, -, hown, hts, -, -, hU, hK, -⟩ := Cx
  have hKn := hK.1 ci _ hc
  refine W.newcK hx hb hown (hts _ hcl) (hts _ hins) (hts _ hini) rfl hd (by omega) (by omega) hKn.2.1 rfl fun H1 kC hkC e1 z1 o1 => ?_
  have hat : va_at (ip_D G) (ip_C G) (H.size, ip_cv G (.inr (ci, fs))) H1 := by
    refine ⟨_, hc, (u_born ty0 hts hw hKn hkC e1 hty).to (fun j hj => ?_)⟩
    show defaultValue (ty0 j) = vp_V (fs.map (ip_v G)) j
    have : fs[j]? = some (defaultValue (ty0 j)) := by rw [hfs]; simp [hj]
    unfold vp_V
    rw [List.getD_eq_getElem?_getD, List.getElem?_map, this]
    cases ty0 j <;> rfl
  obtain ⟨a1, a2⟩ := ip_grow hSt hS hU hat z1 o1
  have := kk.2 p e R s m args below meth c Q H1 locs (cells + 1) (slots + N) ls Cx0 hdp hlo (by rw [List.length_append]; show cells + 1 + _ ≤ _ + (_ + 1); omega) (by rw [et]; omega) hL a1 a2 (fun pc' ls' H'' locs' w1 w2 w3 => by
    have q := kt pc' ls' H'' locs' w1 w2 w3
    rw [List.length_append, et]
    rw [show cells + 1 + (r.2.length - (h.length + [(.inr (ci, fs) : ip_E)].length)) = cells + (r.2.length - h.length) by show cells + 1 + (r.2.length - (h.length + 1)) = _; omega, show slots + N + (ip_t r.2 - (ip_t h + N)) = slots + (ip_t r.2 - ip_t h) by omega]
    exact q)
  have ea : ip_a G (32 + h.length) = H.size := by unfold ip_a; rw [if_neg (by omega), hSt.1]; omega
  rw [List.map_cons] at this
  rw [show ip_v G (.ref (32 + h.length)) = .ref H.size from by show Value.ref (ip_a G _) = _; rw [ea]] at this
  exact this
def ip_at (ty : FieldType) : ArrayType := match ty with
  | .int => .int
  | .byte => .byte
  | .boolean => .boolean
  | _ => .long
def ip_zr (ty : FieldType) (n : Nat) : vp_A := match ty with
  | .long => (n, .inr (.inl (fun _ => 0)))
  | _ => (n, .inl (fun _ => 0))
theorem ip_newa (ty : FieldType) (hty : (ip_ty G)[ip_tyN ty]? = some (ip_A G ty, ty)) (h4 : ty = .int ∨ ty = .byte ∨ ty = .boolean ∨ ty = .long) {n : Int32} {N : Nat} (hd : decode M.2.1 pc = .ok (.newarray (ip_at ty), 2)) (hw : Cond.arrayClass ty ∈ ip_T G) (hn : ¬ n < 0) (hN : n.toNatClampNeg = N) (hsz : N * 8 ≤ 536870912)
    (kk : ip_Rn l G M d (pc + 2) L (.ref (32 + h.length) :: st) (h ++ [.inl (ty, ip_zr ty N)]) r) : ip_Rn l G M d pc L (.int n :: st) h r := by
  have et := ip_t_push h (.inl (ty, ip_zr ty N))
  have ez : ip_z (.inl (ty, ip_zr ty N)) = N := by cases ty <;> rfl
  rw [ez] at et
  have k1 := kk.1
  rw [List.length_append, et] at k1
  have k1a : h.length + 1 ≤ r.2.length := k1.1
  refine ⟨⟨by omega, by omega⟩, fun p e R s m args below meth c Q H locs cells slots ls Cx hdp hlo hce hsl hL hSt hS kt => ?_⟩
  have Cx0 := Cx
  obtain ⟨hx, hb, -, -, hown, hts, -, -, hU, hK, -⟩ := Cx
  have etp : newarray.typeOf (ip_at ty) = ty := by rcases h4 with rfl | rfl | rfl | rfl <;> rfl
  have hcb : componentBytes ty ≤ 8 := by rcases h4 with rfl | rfl | rfl | rfl <;> decide
  have hmul : N * componentBytes ty ≤ N * 8 := Nat.mul_le_mul_left N hcb
  refine va_newaK hx hb (atype := ip_at ty) (by rw [etp]; exact hts _ hw) rfl hd rfl hn hN (by rw [etp]; omega) (by omega) (by omega) rfl fun H1 cA e1 z1 o1 hAr hNm => ?_
  have hcA : cA = ip_A G ty := by
    have h5 := (hK.2 (ip_tyN ty) _ hty).2
    rw [etp] at hNm
    rcases h4 with rfl | rfl | rfl | rfl <;> exact Option.some.inj (hNm.symm.trans h5)
  have hat : va_at (ip_D G) (ip_C G) (H.size, ip_cv G (.inl (ty, ip_zr ty N))) H1 := by
    show H1[H.size]? = some (vp_cell (ip_A G ty) (ip_zr ty N))
    rw [e1, hcA, etp]
    rcases h4 with rfl | rfl | rfl | rfl <;> rfl
  obtain ⟨a1, a2⟩ := ip_grow hSt hS hU hat z1 o1
  have := kk.2 p e R s m args below meth c Q H1 locs (cells + 1) (slots + N) ls Cx0 hdp hlo (by rw [List.length_append]; show cells + 1 + _ ≤ _ + (_ + 1); omega) (by rw [et]; omega) hL a1 a2 (fun pc' ls' H'' locs' w1 w2 w3 => by
    have q := kt pc' ls' H'' locs' w1 w2 w3
    rw [List.length_append, et]
    rw [show cells + 1 + (r.2.length - (h.length + [(.inl (ty, ip_zr ty N) : ip_E)].length)) = cells + (r.2.length - h.length) by show cells + 1 + (r.2.length - (h.length + 1)) = _; omega, show slots + N + (ip_t r.2 - (ip_t h + N)) = slots + (ip_t r.2 - ip_t h) by omega]
    exact q)
  have ea : ip_a G (32 + h.length) = H.size := by unfold ip_a; rw [if_neg (by omega), hSt.1]; omega
  rw [List.map_cons] at this
  rw [show ip_v G (.ref (32 + h.length)) = .ref H.size from by show Value.ref (ip_a G _) = _; rw [ea]] at this
  exact this
end IPA
end
section
/-! returns -/
def ip_rok (ret : Option FieldType) (v : Option Value) : Prop := match ret, v with
  | none, none => True
  | some .long, some (.long _) => True
  | some (.object _), some (.ref _) => True
  | some (.array _), some (.ref _) => True
  | some ty, some (.int x) => narrow ty (.int x) = .int x ∧ ty ≠ .long
  | _, _ => False
def ip_w (G : ip_G) (M : ip_M) : List Cond := Cond.code M.1 M.2.1 M.2.2.1 M.2.2.2 :: ip_T G
def ip_rm (d : Nat) (h : ip_H) (r : Option Value × ip_H) : Room := { frames := d, cells := r.2.length - h.length, slots := ip_t r.2 - ip_t h, locals := 41 * d }
def ip_Pc (G : ip_G) (As : List Value) (h : ip_H) : Array Value → State → Prop := va_Pc (As.map (ip_v G)) (fun U => ip_U G U ∧ ip_St G h U.heap)
def ip_Qc (G : ip_G) (r : Option Value × ip_H) : Array Value → State → Outcome → State → Prop := fun _ st o t => o = .returned (r.1.map (ip_v G)) ∧ ip_St G r.2 t.heap ∧ va_F (fun q => ip_B G ≤ q) st t
def ip_RnM (l : Launch) (G : ip_G) (M : ip_M) (d : Nat) (As : List Value) (h : ip_H) (r : Option Value × ip_H) : Prop :=
  (h.length ≤ r.2.length ∧ ip_t h ≤ ip_t r.2) ∧ Met l M.1 (ip_w G M) (ip_rm d h r) (ip_Pc G As h) (ip_Qc G r) (r.2.length - h.length) (ip_t r.2 - ip_t h) (fun q => ip_B G ≤ q)
/-- what the tables must say of a method that is called -/
def ip_okM (T : List Cond) (M : ip_M) : Prop := plainName M.1.cls = true ∧ (M.1.cls ≠ "java/lang/invoke/MethodHandle" ∧ M.1.cls ≠ "java/lang/invoke/VarHandle") ∧ M.2.2.1 ≤ 22 ∧ Cond.code M.1 M.2.1 M.2.2.1 M.2.2.2 ∈ T ∧ Cond.initialized M.1.cls ∈ T
def ip_okT (T : List Cond) : Prop := ∀ w ∈ T, (w.onTables && w.keeps) = true ∨ ∃ ty, w = .arrayClass ty
def ip_ent0 (As : List Value) : List (Option Value) := As.flatMap (fun v => if v.category = 2 then [some v, none] else [some v])
def ip_ent (As : List Value) (n : Nat) : List (Option Value) := ip_ent0 As ++ List.replicate (n - (ip_ent0 As).length) none
def ip_sl (G : ip_G) (o : Option Value) : Slot := match o with
  | some v => .val (ip_v G v)
  | none => .second
theorem ip_lg_sl (G : ip_G) : ∀ As : List Value, lg_sl (As.map (ip_v G)) = (ip_ent0 As).map (ip_sl G)
  | [] => rfl
  | v :: As => by
    have ih := ip_lg_sl G As
    show (if (ip_v G v).category = 2 then [Slot.val (ip_v G v), .second] else [.val (ip_v G v)]) ++ lg_sl (As.map (ip_v G)) = ((if v.category = 2 then [some v, none] else [some v]) ++ ip_ent0 As).map (ip_sl G)
    rw [ih, List.map_append, ip_v_cat]
    split <;> rfl
theorem ip_entry (G : ip_G) (As : List Value) (n : Nat) (hn : (ip_ent0 As).length ≤ n) : ip_L G ((lg_sl (As.map (ip_v G)) ++ List.replicate (n - (lg_sl (As.map (ip_v G))).length) Slot.unset).toArray) n (ip_ent As n) := by
  have hlen : (lg_sl (As.map (ip_v G))).length = (ip_ent0 As).length := by rw [ip_lg_sl, List.length_map]
  have h0 := lv_entry (As.map (ip_v G)) (n := n) (by rw [hlen]; exact hn)
  refine ⟨h0.1, h0.2.1, fun i v hi => ?_⟩
  rw [List.getElem?_toArray]
  unfold ip_ent at hi
  by_cases hl : i < (ip_ent0 As).length
  · rw [List.getElem?_append_left hl] at hi
    rw [List.getElem?_append_left (by rw [hlen]; exact hl), ip_lg_sl, List.getElem?_map, hi]
    rfl
  · rw [List.getElem?_append_right (by omega)] at hi
    have := List.eq_of_mem_replicate (List.mem_of_getElem? hi)
    cases this
theorem ip_ofRn {l : Launch} {G : ip_G} {M : ip_M} {d : Nat} {As : List Value} {h : ip_H} {r : Option Value × ip_H} (hM : ip_okM (ip_T G) M) (hr : ip_rok M.2.2.2 r.1) (hn : (ip_ent0 As).length ≤ M.2.2.1) (k : ip_Rn l G M d 0 (ip_ent As M.2.2.1) [] h r) : ip_RnM l G M d As h r := by
  refine ⟨k.1, Met.ofW (cc := M.2.1) (maxL := M.2.2.1) (ret := M.2.2.2) hM.1 rfl ?_⟩
  intro p e s m args below meth c s₁ B hml hv
  obtain ⟨rfl, hU, hSt⟩ := hv
  have hts : ∀ w ∈ ip_T G, w.before (As.map (ip_v G)).toArray s = true := fun w hw => atoms_spec (ws := ip_w G M) B.pre w (List.mem_cons_of_mem _ hw)
  have hlocks := B.notSynchronized
  have Cx : ip_Cx G M p s m (As.map (ip_v G)).toArray meth c := ⟨B.exec, B.bytes, B.returns, hml, findClass_of_methodNamed B.named, hts, B.notSynchronized, fun q => ((name_of_methodNamed B.named B.method).1).trans q, hU⟩
  rw [lg_entry_eq]
  have hr0 : meth.sig.returnType = M.2.2.2 := B.returns
  refine k.2 p e (ip_rm d h r) s m _ below meth c _ s.heap [] 0 0 _ Cx (Nat.le_refl _) (Nat.le_refl _) (by show 0 + _ ≤ (r.2.length - h.length) + _; have := k.1.1; omega) (by show 0 + _ ≤ (ip_t r.2 - ip_t h) + _; have := k.1.2; omega) (ip_entry G As _ hn) hSt va_S.rf ?_
  intro pc' ls' H' locs' hdg hSt' hS'
  rw [Nat.zero_add, Nat.zero_add]
  have hq : ∀ t : State, t.heap = H' → s.WarmedH t.vm → ip_Qc G r (As.map (ip_v G)).toArray s (.returned (r.1.map (ip_v G))) t := fun t ht _ => ⟨rfl, by rw [ht]; exact hSt', hS'.F ht⟩
  obtain ⟨v, h'⟩ := r
  cases v with
  | none =>
    cases hret : M.2.2.2 with
    | none =>
      rw [hret] at hr0
      exact W.vret B.exec B.bytes hr0 hq hS'.2.2 hdg
    | some ty =>
      rw [hret] at hr
      cases ty <;> exact hr.elim
  | some v =>
    cases hret : M.2.2.2 with
    | none =>
      rw [hret] at hr
      exact hr.elim
    | some ty =>
      rw [hret] at hr hr0
      cases v with
      | int x =>
        have hx : narrow ty (.int x) = .int x ∧ ty ≠ .long := by
          cases ty <;> first | exact hr | exact hr.elim
        exact W.zret (v := x) B.exec B.bytes hr0 hx.1 hq hS'.2.2 hdg
      | long x =>
        have hx : ty = .long := by cases ty <;> first | rfl | exact hr.elim
        subst hx
        exact W.lret (v := x) B.exec B.bytes hr0 hq hS'.2.2 hdg
      | ref x =>
        have hx : (∃ n, ty = .object n) ∨ ∃ t, ty = .array t := by
          cases ty <;> first | exact Or.inl ⟨_, rfl⟩ | exact Or.inr ⟨_, rfl⟩ | exact hr.elim
        exact W.aret (v := .ref (ip_a G x)) B.exec B.bytes hr0 hx (Or.inr ⟨_, rfl⟩) hq hS'.2.2 hdg
      | null => cases ty <;> exact hr.elim
      | float x => cases ty <;> exact hr.elim
      | double x => cases ty <;> exact hr.elim
      | retAddr x => cases ty <;> exact hr.elim
section IPC
variable {l : Launch} {G : ip_G} {M : ip_M} {d pc : Nat} {L : List (Option Value)} {st : List Value} {h : ip_H} {r : Option Value × ip_H}
theorem ip_ret {v : Option Value} (hd : decode M.2.1 pc = .ok (ip_ri v, 1)) : ip_Rn l G M d pc L v.toList h (v, h) :=
  ⟨⟨Nat.le_refl _, Nat.le_refl _⟩, fun p e R s m args below meth c Q H locs cells slots ls Cx hdp hlo hce hsl hL hSt hS kt => by
    have := kt pc ls H locs hd hSt hS
    rw [Nat.sub_self, Nat.sub_self] at this
    exact this⟩
theorem ip_blind (G : ip_G) (hmv : ip_mv G) (As : List Value) (h : ip_H) : FrameBlind (ip_Pc G As h) := fun a U g mk q => by
  obtain ⟨q0, ⟨q1, q2, q3⟩, q4⟩ := q
  exact ⟨q0, ⟨q1, va_K.moved (u := U) (U := U.calling g mk a) (Vm.Alike.refl U.vm) q2, hmv U (U.calling g mk a) (Or.inl rfl) (fun _ _ => rfl) q3⟩, q4⟩
theorem ip_pre {s : State} {H : Heap} {locs : List Loc} {As : List Value} (hmv : ip_mv G) (hU : ip_U G s) (hSt : ip_St G h H) (hS : ip_S G s H locs) : ∀ U : State, U.heap = H → s.WarmedH U.vm → ip_Pc G As h (As.map (ip_v G)).toArray U := fun U hH hW =>
  ⟨rfl, ⟨by rw [hH, hSt.1]; exact Nat.le_add_right _ _, va_K.moved hW.alike hU.2.1, hmv s U (Or.inr hW) (fun q hq => by rw [hH]; exact hS.2.1 q (Nat.lt_of_lt_of_le hq hU.1) (Nat.not_le.mpr hq)) hU.2.2⟩, by rw [hH]; exact hSt⟩
theorem ip_goodw (hT : ip_okT (ip_T G)) {M' : ip_M} (hM : ip_okM (ip_T G) M') : GoodIn (ip_T G) (ip_w G M') := fun w hw => by
  rcases List.mem_cons.mp hw with rfl | hw
  · exact ⟨hM.2.2.2.1, hT _ hM.2.2.2.1⟩
  · exact ⟨hw, hT w hw⟩
theorem ip_after {p : Program} {e : Env} {R : Room} {s : State} {m : MethodId} {args : Array Value} {below : List Frame} {meth : Method} {c : Code} {H : Heap} {locs : List Loc} {cells slots mc ms : Nat} {Q : State → Prop} {ls : Array Slot} {st0 rest : List Value} {a : Array Value} {r1 : Option Value × ip_H}
    (hr : va_Run p l e R s m args below meth c H locs cells slots mc ms (F0 m pc ls st0) rest (ip_Qc G r1 a) (fun q => ip_B G ≤ q)) (hS : ip_S G s H locs)
    (kk : ∀ (H1 : Heap) (locs1 : List Loc), ip_St G r1.2 H1 → ip_S G s H1 locs1 → W p l e R s m args below meth c H1 locs1 (cells + mc) (slots + ms) Q (F0 m (pc + 3) ls ((r1.1.map (ip_v G)).toList ++ rest))) : W p l e R s m args below meth c H locs cells slots Q (F0 m pc ls st0) := by
  intro T hT X
  obtain ⟨v, st₀, t, T', L', h0, X', hL', e1, e2, ⟨hv, hSt1, hz, hk⟩, stp⟩ := hr T hT X
  cases hv
  rw [h0] at hz hk
  obtain ⟨t2, a1, b1⟩ := kk T'.heap (locs ++ L') (by rw [e1]; exact hSt1)
    ⟨Nat.le_trans hS.1 (by rw [e1]; exact hz), fun q h1 h2 => by rw [e1, hk q (Nat.lt_of_lt_of_le h1 hS.1) h2]; exact hS.2.1 q h1 h2, fun q hq => by
      rcases List.mem_append.mp hq with h | h
      · exact hS.2.2 q h
      · exact hL' q h⟩ T' rfl X'
  exact ⟨t2, stp t2 a1, b1⟩
/-- the numbers behind a call -/
theorem ip_nums {a b c x y z w u v : Nat} (h1 : a ≤ b) (h2 : b ≤ c) : x + (b - a) + (c - b) = x + (c - a) := by omega
theorem ip_callV {idx n ci N : Nat} {C : String} {F : u_T} {fs As : List Value} {M' : ip_M} {r1 : Option Value × ip_H} (hmv : ip_mv G) (hT : ip_okT (ip_T G)) (hM : ip_okM (ip_T G) M') (hd : decode M.2.1 pc = .ok (.invokevirtual idx, 3))
    (hln : Cond.methodLink M.1.cls idx M'.1 ∈ ip_T G ∧ Cond.instanceMethod M'.1 ∈ ip_T G ∧ Cond.selects M'.1.cls M'.1 M'.1 ∈ ip_T G) (hpar : (parseMethodDescriptor M'.1.desc).map (fun q => q.parameters.length) = some As.length)
    (hc : (ip_C G)[ci]? = some (C, F, N)) (hC : C = M'.1.cls) (hh : ip_h h n = some (.inr (ci, fs))) (hsm : (st.map fun v => v.category).sum ≤ 8) (hm : ip_RnM l G M' d (.ref n :: As) h r1)
    (kk : ip_Rn l G M (d + 1) (pc + 3) L (r1.1.toList ++ st) r1.2 r) : ip_Rn l G M (d + 1) pc L (As.reverse ++ .ref n :: st) h r := by
  refine ⟨⟨Nat.le_trans hm.1.1 kk.1.1, Nat.le_trans hm.1.2 kk.1.2⟩, fun p e R s m args below meth c Q H locs cells slots ls Cx hdp hlo hce hsl hL hSt hS kt => ?_⟩
  have Cx0 := Cx
  obtain ⟨hx, hb, -, hml, hown, hts, -, -, hU⟩ := Cx
  have m1 := hm.1
  have k1 := kk.1
  have hcb : CallB R s args M.1.cls idx M'.1 M'.2.1 M'.2.2.1 M'.2.2.2 (ip_w G M') (ip_rm d h r1) (r1.2.length - h.length) (ip_t r1.2 - ip_t h) As.length :=
    callB_of As.length hts (ip_goodw hT hM) rfl rfl rfl (hts _ hM.2.2.2.2) (hts _ hln.1) ⟨hM.2.1.1, hM.2.1.2, hpar⟩ ⟨hdp, by have := hM.2.2.1; show 8 + (M'.2.2.1 + 11) + 41 * d ≤ R.locals; omega⟩
  have hrun := va_runV (e := e) (below := below) (meth := meth) (As := As.map (ip_v G)) (rest := st.map (ip_v G)) (g := F0 m pc ls ((As.reverse ++ .ref n :: st).map (ip_v G))) ⟨hx, hb, hml, hown, hts⟩ hm.2 ⟨hcb, hts _ hln.2.1, hts _ hln.2.2⟩
    ⟨ip_blind G hmv _ _, by
      obtain ⟨cell, g1, g2, g3⟩ := va_recv hU.2.1 hSt.2 hc (ip_ws_at G hh)
      rw [← hC]
      exact ⟨cell, g1, g2, g3⟩, ip_pre (As := .ref n :: As) hmv hU hSt hS⟩ rfl (by rw [List.length_map]) hL.1 (by simp [ip_v]) (lv_room (m := m) (pc := pc) (ls := ls) (rest := []) (by rw [ip_cats]; exact hsm)) hd (locs := locs) (cells := cells) (slots := slots) ⟨by omega, by omega⟩
  refine ip_after hrun hS (fun H1 locs1 a1 a2 => ?_)
  have := kk.2 p e R s m args below meth c Q H1 locs1 (cells + (r1.2.length - h.length)) (slots + (ip_t r1.2 - ip_t h)) ls Cx0 hdp hlo (by omega) (by omega) hL a1 a2 (fun pc' ls' H'' locs' w1 w2 w3 => by
    have q := kt pc' ls' H'' locs' w1 w2 w3
    rw [show cells + (r1.2.length - h.length) + (r.2.length - r1.2.length) = cells + (r.2.length - h.length) by omega, show slots + (ip_t r1.2 - ip_t h) + (ip_t r.2 - ip_t r1.2) = slots + (ip_t r.2 - ip_t h) by omega]
    exact q)
  rw [List.map_append] at this
  cases hv : r1.1 with
  | none => rw [hv] at this; exact this
  | some v => rw [hv] at this; exact this
theorem ip_callI {idx n : Nat} {As : List Value} {M' : ip_M} {r1 : Option Value × ip_H} (hmv : ip_mv G) (hT : ip_okT (ip_T G)) (hM : ip_okM (ip_T G) M') (hd : decode M.2.1 pc = .ok (.invokespecial idx, 3))
    (hln : Cond.methodLink M.1.cls idx M'.1 ∈ ip_T G ∧ Cond.instanceMethod M'.1 ∈ ip_T G) (hname : M'.1.name = "<init>") (hret : M'.2.2.2 = none) (hpar : (parseMethodDescriptor M'.1.desc).map (fun q => q.parameters.length) = some As.length)
    (hsm : (st.map fun v => v.category).sum ≤ 8) (hm : ip_RnM l G M' d (.ref n :: As) h r1)
    (kk : ip_Rn l G M (d + 1) (pc + 3) L (r1.1.toList ++ st) r1.2 r) : ip_Rn l G M (d + 1) pc L (As.reverse ++ .ref n :: st) h r := by
  refine ⟨⟨Nat.le_trans hm.1.1 kk.1.1, Nat.le_trans hm.1.2 kk.1.2⟩, fun p e R s m args below meth c Q H locs cells slots ls Cx hdp hlo hce hsl hL hSt hS kt => ?_⟩
  have Cx0 := Cx
  obtain ⟨hx, hb, -, hml, hown, hts, -, -, hU⟩ := Cx
  have m1 := hm.1
  have k1 := kk.1
  have hcb : CallB R s args M.1.cls idx M'.1 M'.2.1 M'.2.2.1 none (ip_w G M') (ip_rm d h r1) (r1.2.length - h.length) (ip_t r1.2 - ip_t h) As.length :=
    callB_of As.length hts (ip_goodw hT hM) (ws' := ip_T G) (by unfold ip_w; rw [hret]) rfl rfl (hts _ hM.2.2.2.2) (hts _ hln.1) ⟨hM.2.1.1, hM.2.1.2, hpar⟩ ⟨hdp, by have := hM.2.2.1; show 8 + (M'.2.2.1 + 11) + 41 * d ≤ R.locals; omega⟩
  have hrun := va_runI (e := e) (below := below) (meth := meth) (b := ip_a G n) (As := As.map (ip_v G)) (rest := st.map (ip_v G)) (g := F0 m pc ls ((As.reverse ++ .ref n :: st).map (ip_v G))) ⟨hx, hb, hml, hown, hts⟩ hm.2 ⟨hcb, hname, hts _ hln.2⟩
    ⟨ip_blind G hmv _ _, ip_pre (As := .ref n :: As) hmv hU hSt hS⟩ rfl (by rw [List.length_map]) hL.1 (by simp [ip_v]) (lv_room (m := m) (pc := pc) (ls := ls) (rest := []) (by rw [ip_cats]; exact hsm)) hd (locs := locs) (cells := cells) (slots := slots) ⟨by omega, by omega⟩
  refine ip_after hrun hS (fun H1 locs1 a1 a2 => ?_)
  have := kk.2 p e R s m args below meth c Q H1 locs1 (cells + (r1.2.length - h.length)) (slots + (ip_t r1.2 - ip_t h)) ls Cx0 hdp hlo (by omega) (by omega) hL a1 a2 (fun pc' ls' H'' locs' w1 w2 w3 => by
    have q := kt pc' ls' H'' locs' w1 w2 w3
    rw [show cells + (r1.2.length - h.length) + (r.2.length - r1.2.length) = cells + (r.2.length - h.length) by omega, show slots + (ip_t r1.2 - ip_t h) + (ip_t r.2 - ip_t r1.2) = slots + (ip_t r.2 - ip_t h) by omega]
    exact q)
  rw [List.map_append] at this
  cases hv : r1.1 with
  | none => rw [hv] at this; exact this
  | some v => rw [hv] at this; exact this
theorem ip_callS {idx : Nat} {As : List Value} {M' : ip_M} {r1 : Option Value × ip_H} (hmv : ip_mv G) (hT : ip_okT (ip_T G)) (hM : ip_okM (ip_T G) M') (hd : decode M.2.1 pc = .ok (.invokestatic idx, 3))
    (hln : Cond.methodLink M.1.cls idx M'.1 ∈ ip_T G ∧ Cond.static M'.1 ∈ ip_T G) (hpar : (parseMethodDescriptor M'.1.desc).map (fun q => q.parameters.length) = some As.length)
    (hsm : (st.map fun v => v.category).sum ≤ 8) (hm : ip_RnM l G M' d As h r1)
    (kk : ip_Rn l G M (d + 1) (pc + 3) L (r1.1.toList ++ st) r1.2 r) : ip_Rn l G M (d + 1) pc L (As.reverse ++ st) h r := by
  refine ⟨⟨Nat.le_trans hm.1.1 kk.1.1, Nat.le_trans hm.1.2 kk.1.2⟩, fun p e R s m args below meth c Q H locs cells slots ls Cx hdp hlo hce hsl hL hSt hS kt => ?_⟩
  have Cx0 := Cx
  obtain ⟨hx, hb, -, hml, hown, hts, -, -, hU⟩ := Cx
  have m1 := hm.1
  have k1 := kk.1
  have hcb : CallB R s args M.1.cls idx M'.1 M'.2.1 M'.2.2.1 M'.2.2.2 (ip_w G M') (ip_rm d h r1) (r1.2.length - h.length) (ip_t r1.2 - ip_t h) As.length :=
    callB_of As.length hts (ip_goodw hT hM) rfl rfl rfl (hts _ hM.2.2.2.2) (hts _ hln.1) ⟨hM.2.1.1, hM.2.1.2, hpar⟩ ⟨hdp, by have := hM.2.2.1; show 8 + (M'.2.2.1 + 11) + 41 * d ≤ R.locals; omega⟩
  have hrun := va_runS (e := e) (below := below) (meth := meth) (As := As.map (ip_v G)) (rest := st.map (ip_v G)) (g := F0 m pc ls ((As.reverse ++ st).map (ip_v G))) ⟨hx, hb, hml, hown, hts⟩ hm.2 ⟨hcb, hts _ hln.2⟩
    ⟨ip_blind G hmv _ _, ip_pre (As := As) hmv hU hSt hS⟩ rfl (by rw [List.length_map]) hL.1 (by simp) (lv_room (m := m) (pc := pc) (ls := ls) (rest := []) (by rw [ip_cats]; exact hsm)) hd (locs := locs) (cells := cells) (slots := slots) ⟨by omega, by omega⟩
  refine ip_after hrun hS (fun H1 locs1 a1 a2 => ?_)
  have := kk.2 p e R s m args below meth c Q H1 locs1 (cells + (r1.2.length - h.length)) (slots + (ip_t r1.2 - ip_t h)) ls Cx0 hdp hlo (by omega) (by omega) hL a1 a2 (fun pc' ls' H'' locs' w1 w2 w3 => by
    have q := kt pc' ls' H'' locs' w1 w2 w3
    rw [show cells + (r1.2.length - h.length) + (r.2.length - r1.2.length) = cells + (r.2.length - h.length) by omega, show slots + (ip_t r1.2 - ip_t h) + (ip_t r.2 - ip_t r1.2) = slots + (ip_t r.2 - ip_t h) by omega]
    exact q)
  rw [List.map_append] at this
  cases hv : r1.1 with
  | none => rw [hv] at this; exact this
  | some v => rw [hv] at this; exact this
/-- a private static method of a nest mate -/
theorem ip_callSN {idx : Nat} {host : String} {As : List Value} {M' : ip_M} {r1 : Option Value × ip_H} (hmv : ip_mv G) (hT : ip_okT (ip_T G)) (hM : ip_okM (ip_T G) M') (hd : decode M.2.1 pc = .ok (.invokestatic idx, 3))
    (hln : (∀ U : State, ip_X G U → va_Nw (.methodLinkNest M.1.cls idx M'.1 host) U) ∧ Cond.static M'.1 ∈ ip_T G) (hpar : (parseMethodDescriptor M'.1.desc).map (fun q => q.parameters.length) = some As.length)
    (hsm : (st.map fun v => v.category).sum ≤ 8) (hm : ip_RnM l G M' d As h r1)
    (kk : ip_Rn l G M (d + 1) (pc + 3) L (r1.1.toList ++ st) r1.2 r) : ip_Rn l G M (d + 1) pc L (As.reverse ++ st) h r := by
  refine ⟨⟨Nat.le_trans hm.1.1 kk.1.1, Nat.le_trans hm.1.2 kk.1.2⟩, fun p e R s m args below meth c Q H locs cells slots ls Cx hdp hlo hce hsl hL hSt hS kt => ?_⟩
  have Cx0 := Cx
  obtain ⟨hx, hb, -, hml, hown, hts, -, -, hU⟩ := Cx
  have m1 := hm.1
  have k1 := kk.1
  have hcb : va_CN R s args M.1.cls idx M'.1 host M'.2.1 M'.2.2.1 M'.2.2.2 (ip_w G M') (ip_rm d h r1) (r1.2.length - h.length) (ip_t r1.2 - ip_t h) As.length :=
    va_cnB As.length hts (ip_goodw hT hM) rfl rfl rfl (hln.1 s hU.2.2) (hts _ hM.2.2.2.2) ⟨hM.2.1.1, hM.2.1.2, hpar⟩ ⟨hdp, by have := hM.2.2.1; show 8 + (M'.2.2.1 + 11) + 41 * d ≤ R.locals; omega⟩
  have hrun := va_runSN (e := e) (below := below) (meth := meth) (As := As.map (ip_v G)) (rest := st.map (ip_v G)) (g := F0 m pc ls ((As.reverse ++ st).map (ip_v G))) ⟨hx, hb, hml, hown, hts⟩ hm.2 ⟨hcb, hts _ hln.2, trivial⟩
    ⟨ip_blind G hmv _ _, ip_pre (As := As) hmv hU hSt hS⟩ rfl (by rw [List.length_map]) hL.1 (by simp) (lv_room (m := m) (pc := pc) (ls := ls) (rest := []) (by rw [ip_cats]; exact hsm)) hd (locs := locs) (cells := cells) (slots := slots) ⟨by omega, by omega⟩
  refine ip_after hrun hS (fun H1 locs1 a1 a2 => ?_)
  have := kk.2 p e R s m args below meth c Q H1 locs1 (cells + (r1.2.length - h.length)) (slots + (ip_t r1.2 - ip_t h)) ls Cx0 hdp hlo (by omega) (by omega) hL a1 a2 (fun pc' ls' H'' locs' w1 w2 w3 => by
    have q := kt pc' ls' H'' locs' w1 w2 w3
    rw [show cells + (r1.2.length - h.length) + (r.2.length - r1.2.length) = cells + (r.2.length - h.length) by omega, show slots + (ip_t r1.2 - ip_t h) + (ip_t r.2 - ip_t r1.2) = slots + (ip_t r.2 - ip_t h) by omega]
    exact q)
  rw [List.map_append] at this
  cases hv : r1.1 with
  | none => rw [hv] at this; exact this
  | some v => rw [hv] at this; exact this
end IPC
end
section
/-- what a method's instructions are and link to: decode rows, fields, made classes, numbers -/
def ip_len (pc : Nat) (i : Instr) : Nat := match i with
  | .bipush _ | .ldc _ | .iload _ | .lload _ | .aload _ | .istore _ | .lstore _ | .astore _ | .newarray _ => 2
  | .sipush _ | .ldc_w _ | .ldc2_w _ | .iinc _ _ | .goto _ | .ifCond _ _ | .if_icmp _ _ | .getfield _ | .putfield _ | .new _ | .invokevirtual _ | .invokespecial _ | .invokestatic _ | .getstatic _ | .ifnull _ | .ifnonnull _ => 3
  | .tableswitch _ _ _ offs => (4 - pc % 4) + 12 + 4 * offs.size
  | .lookupswitch _ ps => (4 - pc % 4) + 8 + 8 * ps.size
  | _ => 1
abbrev ip_V : Type := List (Nat × Instr) × List (Nat × Nat × Nat × FieldType × Bool) × List (Nat × Nat × List Value) × List (Nat × Int32) × List (Nat × Int64)
def ip_okV (T : List Cond) (cl : List vw_C) (M : ip_M) (V : ip_V) : Prop :=
  (∀ q ∈ V.1, decode M.2.1 q.1 = .ok (q.2, ip_len q.1 q.2)) ∧ (∀ q ∈ V.2.1, ip_F T cl M.1.cls q.1 q.2.1 q.2.2.1 q.2.2.2.1 q.2.2.2.2 ∧ (q.2.2.2.2 = true → ip_Fp T cl M.1.cls q.1 q.2.1 q.2.2.1 q.2.2.2.1 ∨ M.1.name ≠ "<init>")) ∧ (∀ q ∈ V.2.2.1, ip_N T cl M.1.cls q.1 q.2.1 q.2.2) ∧ (∀ q ∈ V.2.2.2.1, Cond.constant M.1.cls q.1 q.2 ∈ T) ∧ (∀ q ∈ V.2.2.2.2, Cond.constantLong M.1.cls q.1 q.2 ∈ T) ∧ (Cond.arrayClass .int ∈ T ∧ Cond.arrayClass .byte ∈ T ∧ Cond.arrayClass .boolean ∈ T ∧ Cond.arrayClass .long ∈ T)
abbrev ip_K : Type := Nat × List (Option Value) × List Value × ip_H
def ip_lk {α : Type} : Nat → List (Nat × α) → Option α
  | _, [] => none
  | k, q :: l => bif Nat.beq k q.1 then some q.2 else ip_lk k l
theorem ip_lk_mem {α : Type} {k : Nat} {a : α} : ∀ {l : List (Nat × α)}, ip_lk k l = some a → (k, a) ∈ l
  | [], h => by cases h
  | q :: l, h => by
    unfold ip_lk at h
    cases hb : Nat.beq k q.1 with
    | true =>
      rw [hb] at h
      have h1 : q.2 = a := Option.some.inj h
      have h2 : k = q.1 := Nat.eq_of_beq_eq_true hb
      rw [h2, ← h1]
      exact List.mem_cons_self
    | false =>
      rw [hb] at h
      exact List.mem_cons_of_mem _ (ip_lk_mem h)
def ip_cnd (c : ClassFile.Cond) (x : Int32) : Bool := match c with
  | .eq => decide (x = 0)
  | .ne => decide (¬ x = 0)
  | .lt => decide (x < 0)
  | .ge => decide (0 ≤ x)
  | .gt => decide (0 < x)
  | .le => decide (x ≤ 0)
def ip_cmp (c : ClassFile.Cond) (x y : Int32) : Bool := match c with
  | .eq => decide (x = y)
  | .ne => decide (¬ x = y)
  | .lt => decide (x < y)
  | .ge => decide (y ≤ x)
  | .gt => decide (y < x)
  | .le => decide (x ≤ y)
def ip_ls {α : Type} : List α → Nat → α → Option (List α)
  | [], _, _ => none
  | _ :: l, 0, e => some (e :: l)
  | x :: l, k + 1, e => match ip_ls l k e with
    | some l' => some (x :: l')
    | none => none
theorem ip_ls_eq {α : Type} : ∀ {l : List α} {k : Nat} {e : α} {l' : List α}, ip_ls l k e = some l' → l' = l.set k e ∧ k < l.length
  | [], _, _, _, h => by cases h
  | x :: l, 0, e, l', h => by
    cases h
    exact ⟨rfl, Nat.zero_lt_succ _⟩
  | x :: l, k + 1, e, l', h => by
    unfold ip_ls at h
    cases hq : ip_ls l k e with
    | none => rw [hq] at h; cases h
    | some m =>
      rw [hq] at h
      cases h
      obtain ⟨h1, h2⟩ := ip_ls_eq hq
      exact ⟨by rw [h1]; rfl, Nat.succ_lt_succ h2⟩
def ip_pu {α : Type} : List α → α → Option (List α)
  | [], e => some [e]
  | x :: l, e => match ip_pu l e with
    | some l' => some (x :: l')
    | none => none
theorem ip_pu_eq {α : Type} : ∀ {l : List α} {e : α} {l' : List α}, ip_pu l e = some l' → l' = l ++ [e]
  | [], e, l', h => by cases h; rfl
  | x :: l, e, l', h => by
    unfold ip_pu at h
    cases hq : ip_pu l e with
    | none => rw [hq] at h; cases h
    | some m =>
      rw [hq] at h
      cases h
      rw [ip_pu_eq hq]
      rfl
/-- the cell before a store of a number, forgotten if it is the first half of a long -/
def ip_s1s (L : List (Option Value)) (i : Nat) (v : Value) : Option (List (Option Value)) := match i with
  | 0 => ip_ls L 0 (some v)
  | j + 1 => match L[j]? with
    | some (some w) => bif Nat.beq w.category 2 then match ip_ls L j none with
        | some L' => ip_ls L' (j + 1) (some v)
        | none => none
      else ip_ls L (j + 1) (some v)
    | _ => ip_ls L (j + 1) (some v)
theorem ip_s1s_eq {L L' : List (Option Value)} {i : Nat} {v : Value} (h : ip_s1s L i v = some L') : L' = ip_s1 L i v := by
  cases i with
  | zero => exact (ip_ls_eq h).1
  | succ j =>
    unfold ip_s1s at h
    unfold ip_s1 ip_cl
    cases hL : L[j]? with
    | none => simp only [hL] at h ⊢; exact (ip_ls_eq h).1
    | some o =>
      cases o with
      | none => simp only [hL] at h ⊢; exact (ip_ls_eq h).1
      | some w =>
        simp only [hL] at h ⊢
        cases hb : Nat.beq w.category 2 with
        | true =>
          rw [hb] at h
          simp only [cond_true] at h
          have hc : w.category = 2 := Nat.eq_of_beq_eq_true hb
          show _ = (if w.category = 2 then L.set j none else L).set (j + 1) (some v)
          rw [if_pos hc]
          cases hq : ip_ls L j none with
          | none => rw [hq] at h; cases h
          | some m =>
            rw [hq] at h
            rw [← (ip_ls_eq hq).1]
            exact (ip_ls_eq h).1
        | false =>
          rw [hb] at h
          simp only [cond_false] at h
          have hc : ¬ w.category = 2 := fun q => by rw [q] at hb; cases hb
          show _ = (if w.category = 2 then L.set j none else L).set (j + 1) (some v)
          rw [if_neg hc]
          exact (ip_ls_eq h).1
def ip_s2s (L : List (Option Value)) (i : Nat) (v : Value) : Option (List (Option Value)) := match ip_s1s L i v with
  | some L' => ip_ls L' (i + 1) none
  | none => none
theorem ip_s2s_eq {L L' : List (Option Value)} {i : Nat} {v : Value} (h : ip_s2s L i v = some L') : L' = ip_s2 L i v := by
  unfold ip_s2s at h
  cases hq : ip_s1s L i v with
  | none => rw [hq] at h; cases h
  | some m =>
    rw [hq] at h
    have h1 := (ip_ls_eq h).1
    rw [h1, ip_s1s_eq hq]
    rfl
def ip_in (i : Int32) (n : Nat) : Bool := !(decide (i < 0)) && Nat.blt i.toNatClampNeg n
theorem ip_in_ok {i : Int32} {n : Nat} (h : ip_in i n = true) : vp_in i n := by
  unfold ip_in at h
  simp only [Bool.and_eq_true, Bool.not_eq_true', decide_eq_false_iff_not] at h
  intro q
  rcases q with q | q
  · exact h.1 q
  · have := Nat.le_of_ble_eq_true h.2
    omega
def ip_tyA (a : ArrayType) : Option FieldType := match a with
  | .int => some .int
  | .byte => some .byte
  | .boolean => some .boolean
  | .long => some .long
  | _ => none
/-- one instruction that is no call, no return -/
def ip_ins (V : ip_V) (mL : Nat) (ini : Bool) (ins : Instr) (pc : Nat) (L : List (Option Value)) (st : List Value) (h : ip_H) : Option ip_K :=
  match ins with
  | .iconst n => some (pc + 1, L, .int (Int32.ofInt n) :: st, h)
  | .bipush n => some (pc + 2, L, .int (Int8.ofInt n).toInt32 :: st, h)
  | .sipush n => some (pc + 3, L, .int (Int16.ofInt n).toInt32 :: st, h)
  | .lconst n => some (pc + 1, L, .long (Int64.ofNat (n : Nat)) :: st, h)
  | .ldc i => match ip_lk i V.2.2.2.1 with
    | some v => some (pc + 2, L, .int v :: st, h)
    | none => none
  | .ldc_w i => match ip_lk i V.2.2.2.1 with
    | some v => some (pc + 3, L, .int v :: st, h)
    | none => none
  | .ldc2_w i => match ip_lk i V.2.2.2.2 with
    | some v => some (pc + 3, L, .long v :: st, h)
    | none => none
  | .iload i => match L[i]? with
    | some (some (.int x)) => some (pc + 2, L, .int x :: st, h)
    | _ => none
  | .iload_n i => match L[i.val]? with
    | some (some (.int x)) => some (pc + 1, L, .int x :: st, h)
    | _ => none
  | .lload i => match L[i]? with
    | some (some (.long x)) => some (pc + 2, L, .long x :: st, h)
    | _ => none
  | .lload_n i => match L[i.val]? with
    | some (some (.long x)) => some (pc + 1, L, .long x :: st, h)
    | _ => none
  | .aload i => match L[i]? with
    | some (some (.ref x)) => some (pc + 2, L, .ref x :: st, h)
    | _ => none
  | .aload_n i => match L[i.val]? with
    | some (some (.ref x)) => some (pc + 1, L, .ref x :: st, h)
    | _ => none
  | .istore i => match st with
    | .int x :: st => bif Nat.blt i mL then match ip_s1s L i (.int x) with
        | some L' => some (pc + 2, L', st, h)
        | none => none
      else none
    | _ => none
  | .istore_n i => match st with
    | .int x :: st => bif Nat.blt i.val mL then match ip_s1s L i.val (.int x) with
        | some L' => some (pc + 1, L', st, h)
        | none => none
      else none
    | _ => none
  | .lstore i => match st with
    | .long x :: st => bif Nat.blt (i + 1) mL then match ip_s2s L i (.long x) with
        | some L' => some (pc + 2, L', st, h)
        | none => none
      else none
    | _ => none
  | .lstore_n i => match st with
    | .long x :: st => bif Nat.blt (i.val + 1) mL then match ip_s2s L i.val (.long x) with
        | some L' => some (pc + 1, L', st, h)
        | none => none
      else none
    | _ => none
  | .astore i => match st with
    | .ref x :: st => bif Nat.blt i mL then match ip_s1s L i (.ref x) with
        | some L' => some (pc + 2, L', st, h)
        | none => none
      else none
    | _ => none
  | .astore_n i => match st with
    | .ref x :: st => bif Nat.blt i.val mL then match ip_s1s L i.val (.ref x) with
        | some L' => some (pc + 1, L', st, h)
        | none => none
      else none
    | _ => none
  | .iinc i n => match L[i]? with
    | some (some (.int x)) => bif Nat.blt i mL then match ip_s1s L i (.int (x + Int32.ofInt n)) with
        | some L' => some (pc + 3, L', st, h)
        | none => none
      else none
    | _ => none
  | .iadd => match st with
    | .int y :: .int x :: st => some (pc + 1, L, .int (x + y) :: st, h)
    | _ => none
  | .isub => match st with
    | .int y :: .int x :: st => some (pc + 1, L, .int (x - y) :: st, h)
    | _ => none
  | .imul => match st with
    | .int y :: .int x :: st => some (pc + 1, L, .int (x * y) :: st, h)
    | _ => none
  | .iand => match st with
    | .int y :: .int x :: st => some (pc + 1, L, .int (x &&& y) :: st, h)
    | _ => none
  | .ior => match st with
    | .int y :: .int x :: st => some (pc + 1, L, .int (x ||| y) :: st, h)
    | _ => none
  | .ixor => match st with
    | .int y :: .int x :: st => some (pc + 1, L, .int (x ^^^ y) :: st, h)
    | _ => none
  | .ineg => match st with
    | .int x :: st => some (pc + 1, L, .int (-x) :: st, h)
    | _ => none
  | .ishl => match st with
    | .int y :: .int x :: st => some (pc + 1, L, .int (x <<< (y &&& 31)) :: st, h)
    | _ => none
  | .ishr => match st with
    | .int y :: .int x :: st => some (pc + 1, L, .int (x >>> (y &&& 31)) :: st, h)
    | _ => none
  | .iushr => match st with
    | .int y :: .int x :: st => some (pc + 1, L, .int (x.toUInt32 >>> (y.toUInt32 &&& Int32.toUInt32 31)).toInt32 :: st, h)
    | _ => none
  | .ladd => match st with
    | .long y :: .long x :: st => some (pc + 1, L, .long (x + y) :: st, h)
    | _ => none
  | .lsub => match st with
    | .long y :: .long x :: st => some (pc + 1, L, .long (x - y) :: st, h)
    | _ => none
  | .lmul => match st with
    | .long y :: .long x :: st => some (pc + 1, L, .long (x * y) :: st, h)
    | _ => none
  | .land => match st with
    | .long y :: .long x :: st => some (pc + 1, L, .long (x &&& y) :: st, h)
    | _ => none
  | .lor => match st with
    | .long y :: .long x :: st => some (pc + 1, L, .long (x ||| y) :: st, h)
    | _ => none
  | .lxor => match st with
    | .long y :: .long x :: st => some (pc + 1, L, .long (x ^^^ y) :: st, h)
    | _ => none
  | .lneg => match st with
    | .long x :: st => some (pc + 1, L, .long (-x) :: st, h)
    | _ => none
  | .lshl => match st with
    | .int y :: .long x :: st => some (pc + 1, L, .long (x <<< (y.toInt64 &&& 63)) :: st, h)
    | _ => none
  | .lshr => match st with
    | .int y :: .long x :: st => some (pc + 1, L, .long (x >>> (y.toInt64 &&& 63)) :: st, h)
    | _ => none
  | .lushr => match st with
    | .int y :: .long x :: st => some (pc + 1, L, .long (x.toUInt64 >>> (y.toInt64.toUInt64 &&& Int64.toUInt64 63)).toInt64 :: st, h)
    | _ => none
  | .lcmp => match st with
    | .long y :: .long x :: st => some (pc + 1, L, .int (lg_cmp x y) :: st, h)
    | _ => none
  | .i2l => match st with
    | .int x :: st => some (pc + 1, L, .long x.toInt64 :: st, h)
    | _ => none
  | .l2i => match st with
    | .long x :: st => some (pc + 1, L, .int x.toInt32 :: st, h)
    | _ => none
  | .i2b => match st with
    | .int x :: st => some (pc + 1, L, .int x.toInt8.toInt32 :: st, h)
    | _ => none
  | .i2c => match st with
    | .int x :: st => some (pc + 1, L, .int (x.toUInt32 % 65536).toInt32 :: st, h)
    | _ => none
  | .dup => match st with
    | v :: st => bif Nat.beq v.category 1 then some (pc + 1, L, v :: v :: st, h) else none
    | _ => none
  | .pop => match st with
    | v :: st => bif Nat.beq v.category 1 then some (pc + 1, L, st, h) else none
    | _ => none
  | .dup_x1 => match st with
    | v :: w :: st => bif Nat.beq v.category 1 && Nat.beq w.category 1 then some (pc + 1, L, v :: w :: v :: st, h) else none
    | _ => none
  | .dup2 => match st with
    | v :: w :: st => bif Nat.beq v.category 1 && Nat.beq w.category 1 then some (pc + 1, L, v :: w :: v :: w :: st, h) else none
    | _ => none
  | .goto off => match (pc : Int) + off with
    | .ofNat t => some (t, L, st, h)
    | _ => none
  | .ifCond c off => match st with
    | .int x :: st => match (pc : Int) + off with
      | .ofNat t => bif ip_cnd c x then some (t, L, st, h) else some (pc + 3, L, st, h)
      | _ => none
    | _ => none
  | .if_icmp c off => match st with
    | .int y :: .int x :: st => match (pc : Int) + off with
      | .ofNat t => bif ip_cmp c x y then some (t, L, st, h) else some (pc + 3, L, st, h)
      | _ => none
    | _ => none
  | .getfield i => match st with
    | .ref n :: st => match ip_lk i V.2.1 with
      | some (ci, k, _, _) => match ip_h h n with
        | some (.inr (cj, fs)) => bif Nat.beq ci cj then match fs[k]? with
            | some v => some (pc + 3, L, v :: st, h)
            | none => none
          else none
        | _ => none
      | none => none
    | _ => none
  | .putfield i => match st with
    | v :: .ref n :: st => match ip_lk i V.2.1 with
      | some (ci, k, ty, fin) => match ip_h h n with
        | some (.inr (cj, fs)) => bif Nat.beq ci cj && fits ty v && (!fin || ini) then match ip_ls fs k v with
            | some fs' => match ip_ls h (n - 32) (.inr (cj, fs')) with
              | some h' => some (pc + 3, L, st, h')
              | none => none
            | none => none
          else none
        | _ => none
      | none => none
    | _ => none
  | .new i => match ip_lk i V.2.2.1 with
    | some (ci, fs) => match ip_pu h (.inr (ci, fs)) with
      | some h' => some (pc + 3, L, .ref (32 + h.length) :: st, h')
      | none => none
    | none => none
  | .newarray a => match st with
    | .int n :: st => match ip_tyA a with
      | some ty => bif !(decide (n < 0)) && Nat.ble n.toNatClampNeg 67108864 then match ip_pu h (.inl (ty, ip_zr ty n.toNatClampNeg)) with
          | some h' => some (pc + 2, L, .ref (32 + h.length) :: st, h')
          | none => none
        else none
      | none => none
    | _ => none
  | .arraylength => match st with
    | .ref n :: st => match ip_h h n with
      | some (.inl (.int, x)) => some (pc + 1, L, .int (Int32.ofNat x.1) :: st, h)
      | some (.inl (.byte, x)) => some (pc + 1, L, .int (Int32.ofNat x.1) :: st, h)
      | some (.inl (.boolean, x)) => some (pc + 1, L, .int (Int32.ofNat x.1) :: st, h)
      | some (.inl (.long, x)) => some (pc + 1, L, .int (Int32.ofNat x.1) :: st, h)
      | _ => none
    | _ => none
  | .iaload => match st with
    | .int i :: .ref n :: st => match ip_h h n with
      | some (.inl (.int, len, .inl f)) => bif ip_in i len then some (pc + 1, L, .int (f i.toNatClampNeg) :: st, h) else none
      | _ => none
    | _ => none
  | .baload => match st with
    | .int i :: .ref n :: st => match ip_h h n with
      | some (.inl (.byte, len, .inl f)) => bif ip_in i len then some (pc + 1, L, .int (f i.toNatClampNeg) :: st, h) else none
      | some (.inl (.boolean, len, .inl f)) => bif ip_in i len then some (pc + 1, L, .int (f i.toNatClampNeg) :: st, h) else none
      | _ => none
    | _ => none
  | .laload => match st with
    | .int i :: .ref n :: st => match ip_h h n with
      | some (.inl (.long, len, .inr (.inl f))) => bif ip_in i len then some (pc + 1, L, .long (f i.toNatClampNeg) :: st, h) else none
      | _ => none
    | _ => none
  | .iastore => match st with
    | .int x :: .int i :: .ref n :: st => match ip_h h n with
      | some (.inl (.int, len, .inl f)) => bif ip_in i len then match ip_ls h (n - 32) (.inl (.int, len, .inl (upd f i.toNatClampNeg x))) with
          | some h' => some (pc + 1, L, st, h')
          | none => none
        else none
      | _ => none
    | _ => none
  | .bastore => match st with
    | .int x :: .int i :: .ref n :: st => match ip_h h n with
      | some (.inl (.byte, len, .inl f)) => bif ip_in i len then match ip_ls h (n - 32) (.inl (.byte, len, .inl (upd f i.toNatClampNeg x.toInt8.toInt32))) with
          | some h' => some (pc + 1, L, st, h')
          | none => none
        else none
      | some (.inl (.boolean, len, .inl f)) => bif ip_in i len then match ip_ls h (n - 32) (.inl (.boolean, len, .inl (upd f i.toNatClampNeg (x &&& 1)))) with
          | some h' => some (pc + 1, L, st, h')
          | none => none
        else none
      | _ => none
    | _ => none
  | .lastore => match st with
    | .long x :: .int i :: .ref n :: st => match ip_h h n with
      | some (.inl (.long, len, .inr (.inl f))) => bif ip_in i len then match ip_ls h (n - 32) (.inl (.long, len, .inr (.inl (vp_updL f i.toNatClampNeg x)))) with
          | some h' => some (pc + 1, L, st, h')
          | none => none
        else none
      | _ => none
    | _ => none
  | _ => none
def ip_stp (V : ip_V) (mL : Nat) (ini : Bool) (σ : ip_K) : Option ip_K := match ip_lk σ.1 V.1 with
  | some i => ip_ins V mL ini i σ.1 σ.2.1 σ.2.2.1 σ.2.2.2
  | none => none
def ip_sts (V : ip_V) (mL : Nat) (ini : Bool) : Nat → ip_K → Option ip_K
  | 0, σ => some σ
  | n + 1, σ => match ip_stp V mL ini σ with
    | some σ' => ip_sts V mL ini n σ'
    | none => none
theorem ip_ins_ok {l : Launch} {G : ip_G} {M : ip_M} {d pc pc' : Nat} {L L' : List (Option Value)} {st st' : List Value} {h h' : ip_H} {r : Option Value × ip_H} {V : ip_V} {ini : Bool} {ins : Instr} (hV : ip_okV (ip_T G) (ip_C G) M V) (hini : ini = true → M.1.name = "<init>") (hq : decode M.2.1 pc = .ok (ins, ip_len pc ins))
    (hs : ip_ins V M.2.2.1 ini ins pc L st h = some (pc', L', st', h')) (k : ip_Rn l G M d pc' L' st' h' r) : ip_Rn l G M d pc L st h r := by
  cases ins with
  | iconst n => cases hs; exact ip_iconst hq rfl k
  | bipush n => cases hs; exact ip_bipush hq rfl k
  | sipush n => cases hs; exact ip_sipush hq rfl k
  | lconst n => cases hs; exact ip_lconst hq rfl k
  | ldc i =>
    simp only [ip_ins] at hs
    split at hs
    · next v hv => cases hs; exact ip_ldc hq (hV.2.2.2.1 _ (ip_lk_mem hv)) k
    · cases hs
  | ldc_w i =>
    simp only [ip_ins] at hs
    split at hs
    · next v hv => cases hs; exact ip_ldcw hq (hV.2.2.2.1 _ (ip_lk_mem hv)) k
    · cases hs
  | ldc2_w i =>
    simp only [ip_ins] at hs
    split at hs
    · next v hv => cases hs; exact ip_ldc2 hq (hV.2.2.2.2.1 _ (ip_lk_mem hv)) k
    · cases hs
  | iload i =>
    simp only [ip_ins] at hs
    split at hs
    · next x hv => cases hs; exact ip_iload hq hv k
    · cases hs
  | iload_n i =>
    simp only [ip_ins] at hs
    split at hs
    · next x hv => cases hs; exact ip_iload_n hq hv k
    · cases hs
  | lload i =>
    simp only [ip_ins] at hs
    split at hs
    · next x hv => cases hs; exact ip_lload hq hv k
    · cases hs
  | lload_n i =>
    simp only [ip_ins] at hs
    split at hs
    · next x hv => cases hs; exact ip_lload_n hq hv k
    · cases hs
  | aload i =>
    simp only [ip_ins] at hs
    split at hs
    · next x hv => cases hs; exact ip_aload hq hv k
    · cases hs
  | aload_n i =>
    simp only [ip_ins] at hs
    split at hs
    · next x hv => cases hs; exact ip_aload_n hq hv k
    · cases hs
  | istore i =>
    simp only [ip_ins] at hs
    split at hs
    · next x st1 =>
      cases hb : Nat.blt i M.2.2.1 with
      | true =>
        rw [hb] at hs
        simp only [cond_true] at hs
        split at hs
        · next L1 hl => cases hs; rw [ip_s1s_eq hl] at k; exact ip_istore hq (Nat.le_of_ble_eq_true hb) k
        · cases hs
      | false => rw [hb] at hs; cases hs
    · cases hs
  | istore_n i =>
    simp only [ip_ins] at hs
    split at hs
    · next x st1 =>
      cases hb : Nat.blt i.val M.2.2.1 with
      | true =>
        rw [hb] at hs
        simp only [cond_true] at hs
        split at hs
        · next L1 hl => cases hs; rw [ip_s1s_eq hl] at k; exact ip_istore_n hq (Nat.le_of_ble_eq_true hb) k
        · cases hs
      | false => rw [hb] at hs; cases hs
    · cases hs
  | lstore i =>
    simp only [ip_ins] at hs
    split at hs
    · next x st1 =>
      cases hb : Nat.blt (i + 1) M.2.2.1 with
      | true =>
        rw [hb] at hs
        simp only [cond_true] at hs
        split at hs
        · next L1 hl => cases hs; rw [ip_s2s_eq hl] at k; exact ip_lstore hq (Nat.le_of_ble_eq_true hb) k
        · cases hs
      | false => rw [hb] at hs; cases hs
    · cases hs
  | lstore_n i =>
    simp only [ip_ins] at hs
    split at hs
    · next x st1 =>
      cases hb : Nat.blt (i.val + 1) M.2.2.1 with
      | true =>
        rw [hb] at hs
        simp only [cond_true] at hs
        split at hs
        · next L1 hl => cases hs; rw [ip_s2s_eq hl] at k; exact ip_lstore_n hq (Nat.le_of_ble_eq_true hb) k
        · cases hs
      | false => rw [hb] at hs; cases hs
    · cases hs
  | astore i =>
    simp only [ip_ins] at hs
    split at hs
    · next x st1 =>
      cases hb : Nat.blt i M.2.2.1 with
      | true =>
        rw [hb] at hs
        simp only [cond_true] at hs
        split at hs
        · next L1 hl => cases hs; rw [ip_s1s_eq hl] at k; exact ip_astore hq (Nat.le_of_ble_eq_true hb) k
        · cases hs
      | false => rw [hb] at hs; cases hs
    · cases hs
  | astore_n i =>
    simp only [ip_ins] at hs
    split at hs
    · next x st1 =>
      cases hb : Nat.blt i.val M.2.2.1 with
      | true =>
        rw [hb] at hs
        simp only [cond_true] at hs
        split at hs
        · next L1 hl => cases hs; rw [ip_s1s_eq hl] at k; exact ip_astore_n hq (Nat.le_of_ble_eq_true hb) k
        · cases hs
      | false => rw [hb] at hs; cases hs
    · cases hs
  | iinc i n =>
    simp only [ip_ins] at hs
    split at hs
    · next x hv =>
      cases hb : Nat.blt i M.2.2.1 with
      | true =>
        rw [hb] at hs
        simp only [cond_true] at hs
        split at hs
        · next L1 hl => cases hs; rw [ip_s1s_eq hl] at k; exact ip_iinc hq hv (Nat.le_of_ble_eq_true hb) k
        · cases hs
      | false => rw [hb] at hs; cases hs
    · cases hs
  | iadd =>
    simp only [ip_ins] at hs
    split at hs
    · cases hs; exact ip_iadd hq k
    · cases hs
  | isub =>
    simp only [ip_ins] at hs
    split at hs
    · cases hs; exact ip_isub hq k
    · cases hs
  | imul =>
    simp only [ip_ins] at hs
    split at hs
    · cases hs; exact ip_imul hq k
    · cases hs
  | iand =>
    simp only [ip_ins] at hs
    split at hs
    · cases hs; exact ip_iand hq k
    · cases hs
  | ior =>
    simp only [ip_ins] at hs
    split at hs
    · cases hs; exact ip_ior hq k
    · cases hs
  | ixor =>
    simp only [ip_ins] at hs
    split at hs
    · cases hs; exact ip_ixor hq k
    · cases hs
  | ishl =>
    simp only [ip_ins] at hs
    split at hs
    · cases hs; exact ip_ishl hq k
    · cases hs
  | ishr =>
    simp only [ip_ins] at hs
    split at hs
    · cases hs; exact ip_ishr hq k
    · cases hs
  | ladd =>
    simp only [ip_ins] at hs
    split at hs
    · cases hs; exact ip_ladd hq k
    · cases hs
  | lsub =>
    simp only [ip_ins] at hs
    split at hs
    · cases hs; exact ip_lsub hq k
    · cases hs
  | lmul =>
    simp only [ip_ins] at hs
    split at hs
    · cases hs; exact ip_lmul hq k
    · cases hs
  | land =>
    simp only [ip_ins] at hs
    split at hs
    · cases hs; exact ip_land hq k
    · cases hs
  | lor =>
    simp only [ip_ins] at hs
    split at hs
    · cases hs; exact ip_lor hq k
    · cases hs
  | lxor =>
    simp only [ip_ins] at hs
    split at hs
    · cases hs; exact ip_lxor hq k
    · cases hs
  | lshl =>
    simp only [ip_ins] at hs
    split at hs
    · cases hs; exact ip_lshl hq k
    · cases hs
  | lshr =>
    simp only [ip_ins] at hs
    split at hs
    · cases hs; exact ip_lshr hq k
    · cases hs
  | lushr =>
    simp only [ip_ins] at hs
    split at hs
    · cases hs; exact ip_lushr hq k
    · cases hs
  | lcmp =>
    simp only [ip_ins] at hs
    split at hs
    · cases hs; exact ip_lcmp hq k
    · cases hs
  | ineg =>
    simp only [ip_ins] at hs
    split at hs
    · cases hs; exact ip_ineg hq k
    · cases hs
  | lneg =>
    simp only [ip_ins] at hs
    split at hs
    · cases hs; exact ip_lneg hq k
    · cases hs
  | i2l =>
    simp only [ip_ins] at hs
    split at hs
    · cases hs; exact ip_i2l hq k
    · cases hs
  | l2i =>
    simp only [ip_ins] at hs
    split at hs
    · cases hs; exact ip_l2i hq k
    · cases hs
  | i2b =>
    simp only [ip_ins] at hs
    split at hs
    · cases hs; exact ip_i2b hq k
    · cases hs
  | i2c =>
    simp only [ip_ins] at hs
    split at hs
    · cases hs; exact ip_i2c hq k
    · cases hs
  | iushr =>
    simp only [ip_ins] at hs
    split at hs
    · cases hs; exact ip_iushr hq rfl k
    · cases hs
  | dup =>
    simp only [ip_ins] at hs
    split at hs
    · next v st1 =>
      cases hb : Nat.beq v.category 1 with
      | true => rw [hb] at hs; cases hs; exact ip_dup hq (Nat.eq_of_beq_eq_true hb) k
      | false => rw [hb] at hs; cases hs
    · cases hs
  | pop =>
    simp only [ip_ins] at hs
    split at hs
    · next v st1 =>
      cases hb : Nat.beq v.category 1 with
      | true => rw [hb] at hs; cases hs; exact ip_pop hq (Nat.eq_of_beq_eq_true hb) k
      | false => rw [hb] at hs; cases hs
    · cases hs
  | dup_x1 =>
    simp only [ip_ins] at hs
    split at hs
    · next v w st1 =>
      cases hb : Nat.beq v.category 1 with
      | true =>
        cases hb2 : Nat.beq w.category 1 with
        | true => rw [hb, hb2] at hs; cases hs; exact ip_dup_x1 hq (Nat.eq_of_beq_eq_true hb) (Nat.eq_of_beq_eq_true hb2) k
        | false => rw [hb, hb2] at hs; cases hs
      | false => rw [hb] at hs; cases hs
    · cases hs
  | dup2 =>
    simp only [ip_ins] at hs
    split at hs
    · next v w st1 =>
      cases hb : Nat.beq v.category 1 with
      | true =>
        cases hb2 : Nat.beq w.category 1 with
        | true => rw [hb, hb2] at hs; cases hs; exact ip_dup2_11 hq (Nat.eq_of_beq_eq_true hb) (Nat.eq_of_beq_eq_true hb2) k
        | false => rw [hb, hb2] at hs; cases hs
      | false => rw [hb] at hs; cases hs
    · cases hs
  | goto off =>
    simp only [ip_ins] at hs
    split at hs
    · next t ht => cases hs; exact ip_goto hq ht k
    · cases hs
  | ifCond c off =>
    simp only [ip_ins] at hs
    split at hs
    · next x st1 =>
      split at hs
      · next t ht =>
        cases hb : ip_cnd c x with
        | true =>
          rw [hb] at hs
          cases hs
          cases c with
          | eq => exact ip_if_eq_t hq ht (of_decide_eq_true hb) k
          | ne => exact ip_if_ne_t hq ht (of_decide_eq_true hb) k
          | lt => exact ip_if_lt_t hq ht (of_decide_eq_true hb) k
          | ge => exact ip_if_ge_t hq ht (of_decide_eq_true hb) k
          | gt => exact ip_if_gt_t hq ht (of_decide_eq_true hb) k
          | le => exact ip_if_le_t hq ht (of_decide_eq_true hb) k
        | false =>
          rw [hb] at hs
          cases hs
          cases c with
          | eq => exact ip_if_eq_f hq ht (of_decide_eq_false hb) k
          | ne => exact ip_if_ne_f hq ht (Decidable.not_not.mp (of_decide_eq_false hb)) k
          | lt => exact ip_if_lt_f hq ht (of_decide_eq_false hb) k
          | ge => exact ip_if_ge_f hq ht (of_decide_eq_false hb) k
          | gt => exact ip_if_gt_f hq ht (of_decide_eq_false hb) k
          | le => exact ip_if_le_f hq ht (of_decide_eq_false hb) k
      · cases hs
    · cases hs
  | if_icmp c off =>
    simp only [ip_ins] at hs
    split at hs
    · next y x st1 =>
      split at hs
      · next t ht =>
        cases hb : ip_cmp c x y with
        | true =>
          rw [hb] at hs
          cases hs
          cases c with
          | eq => exact ip_icmp_eq_t hq ht (of_decide_eq_true hb) k
          | ne => exact ip_icmp_ne_t hq ht (of_decide_eq_true hb) k
          | lt => exact ip_icmp_lt_t hq ht (of_decide_eq_true hb) k
          | ge => exact ip_icmp_ge_t hq ht (of_decide_eq_true hb) k
          | gt => exact ip_icmp_gt_t hq ht (of_decide_eq_true hb) k
          | le => exact ip_icmp_le_t hq ht (of_decide_eq_true hb) k
        | false =>
          rw [hb] at hs
          cases hs
          cases c with
          | eq => exact ip_icmp_eq_f hq ht (of_decide_eq_false hb) k
          | ne => exact ip_icmp_ne_f hq ht (Decidable.not_not.mp (of_decide_eq_false hb)) k
          | lt => exact ip_icmp_lt_f hq ht (of_decide_eq_false hb) k
          | ge => exact ip_icmp_ge_f hq ht (of_decide_eq_false hb) k
          | gt => exact ip_icmp_gt_f hq ht (of_decide_eq_false hb) k
          | le => exact ip_icmp_le_f hq ht (of_decide_eq_false hb) k
      · cases hs
    · cases hs
  | getfield i =>
    simp only [ip_ins] at hs
    split at hs
    · next n st1 =>
      split at hs
      · next ci kk ty fin hl =>
        split at hs
        · next cj fs hh =>
          cases hb : Nat.beq ci cj with
          | true =>
            rw [hb] at hs
            have e : ci = cj := Nat.eq_of_beq_eq_true hb
            subst e
            simp only [cond_true] at hs
            split at hs
            · next v hv => cases hs; exact ip_getf hq (hV.2.1 _ (ip_lk_mem hl)).1 hh hv k
            · cases hs
          | false => rw [hb] at hs; cases hs
        · cases hs
      · cases hs
    · cases hs
  | putfield i =>
    simp only [ip_ins] at hs
    split at hs
    · next v n st1 =>
      split at hs
      · next ci kk ty fin hl =>
        split at hs
        · next cj fs hh =>
          cases hb : Nat.beq ci cj && fits ty v && (!fin || ini) with
          | true =>
            rw [hb] at hs
            simp only [cond_true] at hs
            simp only [Bool.and_eq_true] at hb
            obtain ⟨⟨b1, b3⟩, b4⟩ := hb
            have e : ci = cj := Nat.eq_of_beq_eq_true b1
            subst e
            split at hs
            · next fs1 hf =>
              split at hs
              · next h1 hh1 =>
                cases hs
                obtain ⟨e1, b2⟩ := ip_ls_eq hf
                subst e1
                rw [(ip_ls_eq hh1).1] at k
                have hF := hV.2.1 _ (ip_lk_mem hl)
                cases fin with
                | false => exact ip_putf hq hF.1 hh b2 b3 k
                | true =>
                  have hn : M.1.name = "<init>" := hini (by simpa using b4)
                  rcases hF.2 rfl with q | q
                  · exact ip_putF hq q hn hh b2 b3 k
                  · exact absurd hn q
              · cases hs
            · cases hs
          | false => rw [hb] at hs; cases hs
        · cases hs
      · cases hs
    · cases hs
  | new i =>
    simp only [ip_ins] at hs
    split at hs
    · next ci fs hl =>
      split at hs
      · next h1 hh1 => cases hs; rw [ip_pu_eq hh1] at k; exact ip_new hq (hV.2.2.1 _ (ip_lk_mem hl)) k
      · cases hs
    · cases hs
  | newarray a =>
    simp only [ip_ins] at hs
    split at hs
    · next n st1 =>
      split at hs
      · next ty hty =>
        cases hb : !(decide (n < 0)) && Nat.ble n.toNatClampNeg 67108864 with
        | true =>
          rw [hb] at hs
          simp only [cond_true] at hs
          split at hs
          case h_2 => cases hs
          next h1 hh1 =>
          cases hs
          rw [ip_pu_eq hh1] at k
          simp only [Bool.and_eq_true, Bool.not_eq_true', decide_eq_false_iff_not] at hb
          have hsz : n.toNatClampNeg * 8 ≤ 536870912 := by have := Nat.le_of_ble_eq_true hb.2; omega
          obtain ⟨w1, w2, w3, w4⟩ := hV.2.2.2.2.2
          cases a <;> first | (cases hty; done) | skip
          · cases hty; exact ip_newa .boolean rfl (Or.inr (Or.inr (Or.inl rfl))) hq w3 hb.1 rfl hsz k
          · cases hty; exact ip_newa .byte rfl (Or.inr (Or.inl rfl)) hq w2 hb.1 rfl hsz k
          · cases hty; exact ip_newa .int rfl (Or.inl rfl) hq w1 hb.1 rfl hsz k
          · cases hty; exact ip_newa .long rfl (Or.inr (Or.inr (Or.inr rfl))) hq w4 hb.1 rfl hsz k
        | false => rw [hb] at hs; cases hs
      · cases hs
    · cases hs
  | arraylength =>
    simp only [ip_ins] at hs
    split at hs
    · split at hs
      · next hh => cases hs; exact ip_alen hq hh rfl rfl k
      · next hh => cases hs; exact ip_alen hq hh rfl rfl k
      · next hh => cases hs; exact ip_alen hq hh rfl rfl k
      · next hh => cases hs; exact ip_alen hq hh rfl rfl k
      · cases hs
    · cases hs
  | iaload =>
    simp only [ip_ins] at hs
    split at hs
    · next i n st1 =>
      split at hs
      · next len f hh =>
        cases hb : ip_in i len with
        | true => rw [hb] at hs; cases hs; exact ip_iald hq hh (ip_in_ok hb) k
        | false => rw [hb] at hs; cases hs
      · cases hs
    · cases hs
  | baload =>
    simp only [ip_ins] at hs
    split at hs
    · next i n st1 =>
      split at hs
      · next len f hh =>
        cases hb : ip_in i len with
        | true => rw [hb] at hs; cases hs; exact ip_bald hq hh (ip_in_ok hb) k
        | false => rw [hb] at hs; cases hs
      · next len f hh =>
        cases hb : ip_in i len with
        | true => rw [hb] at hs; cases hs; exact ip_zald hq hh (ip_in_ok hb) k
        | false => rw [hb] at hs; cases hs
      · cases hs
    · cases hs
  | laload =>
    simp only [ip_ins] at hs
    split at hs
    · next i n st1 =>
      split at hs
      · next len f hh =>
        cases hb : ip_in i len with
        | true => rw [hb] at hs; cases hs; exact ip_lald hq hh (ip_in_ok hb) k
        | false => rw [hb] at hs; cases hs
      · cases hs
    · cases hs
  | iastore =>
    simp only [ip_ins] at hs
    split at hs
    · next x i n st1 =>
      split at hs
      · next len f hh =>
        cases hb : ip_in i len with
        | true =>
          rw [hb] at hs
          simp only [cond_true] at hs
          split at hs
          · next h1 hh1 => cases hs; rw [(ip_ls_eq hh1).1] at k; exact ip_iast hq hh (ip_in_ok hb) k
          · cases hs
        | false => rw [hb] at hs; cases hs
      · cases hs
    · cases hs
  | bastore =>
    simp only [ip_ins] at hs
    split at hs
    · next x i n st1 =>
      split at hs
      · next len f hh =>
        cases hb : ip_in i len with
        | true =>
          rw [hb] at hs
          simp only [cond_true] at hs
          split at hs
          · next h1 hh1 => cases hs; rw [(ip_ls_eq hh1).1] at k; exact ip_bast hq hh (ip_in_ok hb) k
          · cases hs
        | false => rw [hb] at hs; cases hs
      · next len f hh =>
        cases hb : ip_in i len with
        | true =>
          rw [hb] at hs
          simp only [cond_true] at hs
          split at hs
          · next h1 hh1 => cases hs; rw [(ip_ls_eq hh1).1] at k; exact ip_zast hq hh (ip_in_ok hb) k
          · cases hs
        | false => rw [hb] at hs; cases hs
      · cases hs
    · cases hs
  | lastore =>
    simp only [ip_ins] at hs
    split at hs
    · next x i n st1 =>
      split at hs
      · next len f hh =>
        cases hb : ip_in i len with
        | true =>
          rw [hb] at hs
          simp only [cond_true] at hs
          split at hs
          · next h1 hh1 => cases hs; rw [(ip_ls_eq hh1).1] at k; exact ip_last hq hh (ip_in_ok hb) k
          · cases hs
        | false => rw [hb] at hs; cases hs
      · cases hs
    · cases hs
  | _ => cases hs
theorem ip_stp_ok {l : Launch} {G : ip_G} {M : ip_M} {d : Nat} {σ σ' : ip_K} {r : Option Value × ip_H} {V : ip_V} {ini : Bool} (hV : ip_okV (ip_T G) (ip_C G) M V) (hini : ini = true → M.1.name = "<init>")
    (hs : ip_stp V M.2.2.1 ini σ = some σ') (k : ip_Rn l G M d σ'.1 σ'.2.1 σ'.2.2.1 σ'.2.2.2 r) : ip_Rn l G M d σ.1 σ.2.1 σ.2.2.1 σ.2.2.2 r := by
  obtain ⟨a1, a2, a3, a4⟩ := σ
  obtain ⟨b1, b2, b3, b4⟩ := σ'
  unfold ip_stp at hs
  split at hs
  · next i hi =>
    have hq := hV.1 _ (ip_lk_mem hi)
    exact ip_ins_ok (pc := a1) (pc' := b1) (L := a2) (L' := b2) (st := a3) (st' := b3) (h := a4) (h' := b4) hV hini hq hs k
  · cases hs
theorem ip_sts_ok {l : Launch} {G : ip_G} {M : ip_M} {d : Nat} {r : Option Value × ip_H} {V : ip_V} {ini : Bool} (hV : ip_okV (ip_T G) (ip_C G) M V) (hini : ini = true → M.1.name = "<init>") : ∀ (n : Nat) {σ σ' : ip_K}, ip_sts V M.2.2.1 ini n σ = some σ' → ip_Rn l G M d σ'.1 σ'.2.1 σ'.2.2.1 σ'.2.2.2 r → ip_Rn l G M d σ.1 σ.2.1 σ.2.2.1 σ.2.2.2 r
  | 0, σ, σ', hs, k => by cases hs; exact k
  | n + 1, σ, σ', hs, k => by
    unfold ip_sts at hs
    split at hs
    · next σ1 h1 => exact ip_stp_ok hV hini h1 (ip_sts_ok hV hini n hs k)
    · cases hs
end
section
section IPD
variable {l : Launch} {G : ip_G} {M : ip_M} {d pc : Nat} {L : List (Option Value)} {st : List Value} {h : ip_H} {r : Option Value × ip_H}
/-- a constructor of a nest mate that is not public -/
theorem ip_callIN {idx n : Nat} {host : String} {As : List Value} {M' : ip_M} {r1 : Option Value × ip_H} (hmv : ip_mv G) (hT : ip_okT (ip_T G)) (hM : ip_okM (ip_T G) M') (hd : decode M.2.1 pc = .ok (.invokespecial idx, 3))
    (hln : (∀ U : State, ip_X G U → va_Nw (.methodLinkNest M.1.cls idx M'.1 host) U) ∧ Cond.instanceMethod M'.1 ∈ ip_T G) (hname : M'.1.name = "<init>") (hret : M'.2.2.2 = none) (hpar : (parseMethodDescriptor M'.1.desc).map (fun q => q.parameters.length) = some As.length)
    (hsm : (st.map fun v => v.category).sum ≤ 8) (hm : ip_RnM l G M' d (.ref n :: As) h r1)
    (kk : ip_Rn l G M (d + 1) (pc + 3) L (r1.1.toList ++ st) r1.2 r) : ip_Rn l G M (d + 1) pc L (As.reverse ++ .ref n :: st) h r := by
  refine ⟨⟨Nat.le_trans hm.1.1 kk.1.1, Nat.le_trans hm.1.2 kk.1.2⟩, fun p e R s m args below meth c Q H locs cells slots ls Cx hdp hlo hce hsl hL hSt hS kt => ?_⟩
  have Cx0 := Cx
  obtain ⟨hx, hb, -, hml, hown, hts, -, -, hU⟩ := Cx
  have m1 := hm.1
  have k1 := kk.1
  have hcb : va_CN R s args M.1.cls idx M'.1 host M'.2.1 M'.2.2.1 none (ip_w G M') (ip_rm d h r1) (r1.2.length - h.length) (ip_t r1.2 - ip_t h) As.length :=
    va_cnB As.length hts (ip_goodw hT hM) (ws' := ip_T G) (by unfold ip_w; rw [hret]) rfl rfl (hln.1 s hU.2.2) (hts _ hM.2.2.2.2) ⟨hM.2.1.1, hM.2.1.2, hpar⟩ ⟨hdp, by have := hM.2.2.1; show 8 + (M'.2.2.1 + 11) + 41 * d ≤ R.locals; omega⟩
  have hrun := va_runIN (e := e) (below := below) (meth := meth) (b := ip_a G n) (As := As.map (ip_v G)) (rest := st.map (ip_v G)) (g := F0 m pc ls ((As.reverse ++ .ref n :: st).map (ip_v G))) ⟨hx, hb, hml, hown, hts⟩ hm.2 ⟨hcb, hname, hts _ hln.2⟩
    ⟨ip_blind G hmv _ _, ip_pre (As := .ref n :: As) hmv hU hSt hS⟩ rfl (by rw [List.length_map]) hL.1 (by simp [ip_v]) (lv_room (m := m) (pc := pc) (ls := ls) (rest := []) (by rw [ip_cats]; exact hsm)) hd (locs := locs) (cells := cells) (slots := slots) ⟨by omega, by omega⟩
  refine ip_after hrun hS (fun H1 locs1 a1 a2 => ?_)
  have := kk.2 p e R s m args below meth c Q H1 locs1 (cells + (r1.2.length - h.length)) (slots + (ip_t r1.2 - ip_t h)) ls Cx0 hdp hlo (by omega) (by omega) hL a1 a2 (fun pc' ls' H'' locs' w1 w2 w3 => by
    have q := kt pc' ls' H'' locs' w1 w2 w3
    rw [show cells + (r1.2.length - h.length) + (r.2.length - r1.2.length) = cells + (r.2.length - h.length) by omega, show slots + (ip_t r1.2 - ip_t h) + (ip_t r.2 - ip_t r1.2) = slots + (ip_t r.2 - ip_t h) by omega]
    exact q)
  rw [List.map_append] at this
  cases hv : r1.1 with
  | none => rw [hv] at this; exact this
  | some v => rw [hv] at this; exact this
/-- System.arraycopy between two rows of ints (bytes, booleans); the two may be one -/
theorem ip_acpy {idx a0 a1 n0 n1 : Nat} {f g : Nat → Int32} {ty : FieldType} {sp dp n : Int32} (hd : decode M.2.1 pc = .ok (.invokestatic idx, 3)) (hd1 : 1 ≤ d)
    (hw : Cond.methodLink M.1.cls idx arraycopyName ∈ ip_T G ∧ Cond.native arraycopyName ∈ ip_T G ∧ Cond.static arraycopyName ∈ ip_T G ∧ Cond.initialized "java/lang/System" ∈ ip_T G)
    (hty : (ip_ty G)[ip_tyN ty]? = some (ip_A G ty, ty)) (hprim : refKind ty = false) (h0 : ip_h h a0 = some (.inl (ty, n0, .inl f))) (h1 : ip_h h a1 = some (.inl (ty, n1, .inl g)))
    (g1 : ¬ sp < 0) (g2 : ¬ dp < 0) (g3 : ¬ n < 0) (g4 : sp.toNatClampNeg + n.toNatClampNeg ≤ n0) (g5 : dp.toNatClampNeg + n.toNatClampNeg ≤ n1) (hfit : ∀ i, i < n.toNatClampNeg → fits ty (.int (f (sp.toNatClampNeg + i))) = true) (hsm : (st.map fun v => v.category).sum ≤ 8)
    (kk : ip_Rn l G M d (pc + 3) L st (ip_hs h a1 (.inl (ty, n1, .inl (va_cpy f g sp.toNatClampNeg dp.toNatClampNeg n.toNatClampNeg)))) r) : ip_Rn l G M d pc L (.int n :: .int dp :: .ref a1 :: .int sp :: .ref a0 :: st) h r := by
  have et := ip_hs_t (e := .inl (ty, n1, .inl (va_cpy f g sp.toNatClampNeg dp.toNatClampNeg n.toNatClampNeg))) h1 rfl
  have k1 := kk.1
  rw [ip_hs_len, et] at k1
  refine ⟨k1, fun p e R s m args below meth c Q H locs cells slots ls Cx hdp hlo hce hsl hL hSt hS kt => ?_⟩
  have Cx0 := Cx
  obtain ⟨hx, hb, -, hml, hown, hts, -, -, hU⟩ := Cx
  have hws0 := ip_ws_at G h0
  have hws1 := ip_ws_at G h1
  have hl2 : ((st.map (ip_v G)).map fun v => v.category).sum + (nativeFrameWords "java/lang/System" "arraycopy" 5 + 11) ≤ R.locals := by
    rw [ip_cats]
    have : nativeFrameWords "java/lang/System" "arraycopy" 5 + 11 ≤ 30 := by decide +kernel
    omega
  have hc0 : H[ip_a G a0]? = some (vp_cell (ip_A G ty) (n0, .inl f)) := hSt.2 (a0 - 32) _ hws0
  have hc1 : H[ip_a G a1]? = some (vp_cell (ip_A G ty) (n1, .inl g)) := hSt.2 (a1 - 32) _ hws1
  obtain ⟨-, k0, hk0, cm0, hkk0⟩ := (hU.2.1.2 (ip_tyN ty) _ hty).1 n0 (fun j => .int (f j))
  have nn : ∀ z : Int32, ¬ z < 0 → z.toInt = (z.toNatClampNeg : Int) := by
    intro z hz
    have hz0 : (0 : Int) ≤ z.toInt := by
      have := Int32.not_lt.mp hz
      simpa using Int32.le_iff_toInt_le.mp this
    show z.toInt = ((z.toInt.toNat : Nat) : Int)
    omega
  have eread : ∀ i, i < n.toNatClampNeg → (vp_cell (ip_A G ty) (n0, .inl f)).slots.getD (sp.toNatClampNeg + i) .null = .int (f (sp.toNatClampNeg + i)) := by
    intro i hi
    show (arrV (ip_A G ty) n0 (fun j => .int (f j))).slots.getD _ _ = _
    rw [Array.getD_eq_getD_getElem?, arrV_read _ _ (by omega)]
    rfl
  intro T hT X
  obtain ⟨vm', X', step⟩ := X.arraycopy hx hown (hts _ hw.1) (hts _ hw.2.1) (hts _ hw.2.2.1) (hts _ hw.2.2.2) (src := ip_a G a0) (dst := ip_a G a1) (cs := vp_cell (ip_A G ty) (n0, .inl f)) (cd := vp_cell (ip_A G ty) (n1, .inl g)) (srcPos := sp) (destPos := dp) (n := n) (by rw [hT]; exact hc0) (by rw [hT]; exact hc1)
    (fun _ q => by cases q) (fun _ q => by cases q) (fun q => by cases q) (fun q => by cases q) hk0 hk0 hkk0 hkk0 (by simp [hprim]) g1 g2 g3
    (by rw [nn sp g1, nn n g3]; show ¬ _ > ((arrV (ip_A G ty) n0 (fun j => .int (f j))).slots.size : Int); rw [arrV_size]; omega)
    (by rw [nn dp g2, nn n g3]; show ¬ _ > ((arrV (ip_A G ty) n1 (fun j => .int (g j))).slots.size : Int); rw [arrV_size]; omega)
    (fun vm₁ _ i hi => ⟨by rw [eread i hi]; exact hfit i hi, by rw [eread i hi]; exact trivial⟩)
    (g := F0 m pc ls (.int n :: .int dp :: .ref (ip_a G a1) :: .int sp :: .ref (ip_a G a0) :: st.map (ip_v G))) rfl (by rw [hml]; exact hL.1) (rest := st.map (ip_v G)) rfl (by rw [hb]; exact hd) (by omega) (by show 2 * 0 + _ + _ ≤ _; omega)
  have e1 : copied (vp_cell (ip_A G ty) (n0, .inl f)) (vp_cell (ip_A G ty) (n1, .inl g)) sp dp n = vp_cell (ip_A G ty) (n1, .inl (va_cpy f g sp.toNatClampNeg dp.toNatClampNeg n.toNatClampNeg)) := va_copied (fun z => .int z) _ _ f g g4
  rw [e1] at X' step
  have hlt : ip_a G a1 < H.size := (Array.getElem?_eq_some_iff.mp hc1).1
  have hat : va_at (ip_D G) (ip_C G) (ip_a G a1, ip_cv G (.inl (ty, n1, .inl (va_cpy f g sp.toNatClampNeg dp.toNatClampNeg n.toNatClampNeg)))) (H.setIfInBounds (ip_a G a1) (vp_cell (ip_A G ty) (n1, .inl (va_cpy f g sp.toNatClampNeg dp.toNatClampNeg n.toNatClampNeg)))) := by
    show (H.setIfInBounds (ip_a G a1) _)[ip_a G a1]? = some _
    simp [Array.getElem?_setIfInBounds, hlt]
  obtain ⟨b1, b2⟩ := ip_store (k := 0) hSt hS h1 hat (by simp) (fun q hq => by simp [Array.getElem?_setIfInBounds, Ne.symm hq])
  have b3 : ip_B G ≤ ip_a G a1 := by
    unfold ip_h at h1
    split at h1
    · cases h1
    · next hn => unfold ip_a; rw [if_neg hn]; exact Nat.le_add_right _ _
  obtain ⟨t, c1, c2⟩ := kk.2 p e R s m args below meth c Q _ _ cells slots ls Cx0 hdp hlo (by rw [ip_hs_len]; exact hce) (by rw [et]; exact hsl) hL b1 ⟨b2.1, b2.2.1, fun q hq => by
      rcases List.mem_append.mp hq with z | z
      · exact hS.2.2 q z
      · obtain ⟨y, -, hy⟩ := List.mem_map.mp z
        rw [← hy]
        exact b3⟩ (fun pc' ls' H'' locs' w1 w2 w3 => by rw [ip_hs_len, et]; exact kt pc' ls' H'' locs' w1 w2 w3) _ (by rw [← hT]; rfl) X'
  exact ⟨t, step t c1, c2⟩
end IPD
theorem ip_go {l : Launch} {G : ip_G} {M : ip_M} {d : Nat} {r : Option Value × ip_H} {V : ip_V} {ini : Bool} (hV : ip_okV (ip_T G) (ip_C G) M V) (hini : ini = true → M.1.name = "<init>") (n : Nat) {pc pc' : Nat} {L L' : List (Option Value)} {st st' : List Value} {h h' : ip_H} (hs : ip_sts V M.2.2.1 ini n (pc, L, st, h) = some (pc', L', st', h'))
    (k : ip_Rn l G M d pc' L' st' h' r) : ip_Rn l G M d pc L st h r := ip_sts_ok hV hini n hs k
def ip_max (x y : Int32) : Int32 := if x < y then y else x
def ip_min (x y : Int32) : Int32 := if y < x then y else x
theorem ip_objI {l : Launch} {G : ip_G} {M : ip_M} {d pc : Nat} {L : List (Option Value)} {st : List Value} {h : ip_H} {r : Option Value × ip_H} {idx n : Nat} (hd : decode M.2.1 pc = .ok (.invokespecial idx, 3))
    (hw : Cond.methodLink M.1.cls idx Lib.objectInit ∈ ip_T G ∧ Cond.instanceMethod Lib.objectInit ∈ ip_T G ∧ Cond.code Lib.objectInit ⟨#[0xb1]⟩ 1 none ∈ ip_T G) (hsm : (st.map fun v => v.category).sum ≤ 8) (kk : ip_Rn l G M (d + 1) (pc + 3) L st h r) : ip_Rn l G M (d + 1) pc L (.ref n :: st) h r :=
  ip_pure (fun _ _ _ _ _ _ _ _ _ _ _ _ _ _ _ C hd1 hlo hL k2 => W.objInit C.1 C.2.1 C.2.2.2.2.1 (C.2.2.2.2.2.1 _ hw.1) (C.2.2.2.2.2.1 _ hw.2.1) (C.2.2.2.2.2.1 _ hw.2.2) rfl (by rw [C.2.2.2.1]; exact hL.1) rfl hd (by omega) (by
    have := ip_cats G st
    show 2 * 0 + ((st.map (ip_v G)).map fun v => v.category).sum + 12 ≤ _
    rw [this]
    omega) (k2 _ hL)) kk
theorem ip_maxx {l : Launch} {G : ip_G} {M : ip_M} {d pc : Nat} {L : List (Option Value)} {st : List Value} {h : ip_H} {r : Option Value × ip_H} {idx : Nat} {x y v : Int32} (hv : ip_max x y = v) (hd : decode M.2.1 pc = .ok (.invokestatic idx, 3))
    (hw : Cond.methodLink M.1.cls idx Lib.Math.max.name ∈ ip_T G ∧ Cond.static Lib.Math.max.name ∈ ip_T G ∧ Cond.initialized "java/lang/Math" ∈ ip_T G ∧ Cond.code Lib.Math.max.name Lib.Math.max.code 2 (some .int) ∈ ip_T G) (hsm : (st.map fun v => v.category).sum ≤ 8) (kk : ip_Rn l G M (d + 1) (pc + 3) L (.int v :: st) h r) : ip_Rn l G M (d + 1) pc L (.int y :: .int x :: st) h r := by
  subst hv
  refine ⟨kk.1, fun p e R s m args below meth c Q H locs cells slots ls Cx hdp hlo hce hsl hL hSt hS kt => ?_⟩
  have k1 := kk.1
  exact va_mmax Cx.1 Cx.2.1 (by rw [Cx.2.2.2.1, hL.1]) Cx.2.2.2.2.1 (Cx.2.2.2.2.2.1 _ hw.1) (Cx.2.2.2.2.2.1 _ hw.2.1) (Cx.2.2.2.2.2.1 _ hw.2.2.1) (Cx.2.2.2.2.2.1 _ hw.2.2.2) (by omega) (by rw [ip_cats]; omega) (by omega) (by omega) hd (kk.2 p e R s m args below meth c Q H locs cells slots ls Cx hdp hlo hce hsl hL hSt hS kt)
theorem ip_mixn {l : Launch} {G : ip_G} {M : ip_M} {d pc : Nat} {L : List (Option Value)} {st : List Value} {h : ip_H} {r : Option Value × ip_H} {idx : Nat} {x y v : Int32} (hv : ip_min x y = v) (hd : decode M.2.1 pc = .ok (.invokestatic idx, 3))
    (hw : Cond.methodLink M.1.cls idx Lib.Math.min.name ∈ ip_T G ∧ Cond.static Lib.Math.min.name ∈ ip_T G ∧ Cond.initialized "java/lang/Math" ∈ ip_T G ∧ Cond.code Lib.Math.min.name Lib.Math.min.code 2 (some .int) ∈ ip_T G) (hsm : (st.map fun v => v.category).sum ≤ 8) (kk : ip_Rn l G M (d + 1) (pc + 3) L (.int v :: st) h r) : ip_Rn l G M (d + 1) pc L (.int y :: .int x :: st) h r := by
  subst hv
  refine ⟨kk.1, fun p e R s m args below meth c Q H locs cells slots ls Cx hdp hlo hce hsl hL hSt hS kt => ?_⟩
  have k1 := kk.1
  exact va_mmin Cx.1 Cx.2.1 (by rw [Cx.2.2.2.1, hL.1]) Cx.2.2.2.2.1 (Cx.2.2.2.2.2.1 _ hw.1) (Cx.2.2.2.2.2.1 _ hw.2.1) (Cx.2.2.2.2.2.1 _ hw.2.2.1) (Cx.2.2.2.2.2.1 _ hw.2.2.2) (by omega) (by rw [ip_cats]; omega) (by omega) (by omega) hd (kk.2 p e R s m args below meth c Q H locs cells slots ls Cx hdp hlo hce hsl hL hSt hS kt)
theorem ip_fap {α : Type} {p : α → Prop} {a b : List α} (ha : ∀ q ∈ a, p q) (hb : ∀ q ∈ b, p q) : ∀ q ∈ a ++ b, p q := fun q h => (List.mem_append.mp h).elim (ha q) (hb q)
/-- the script: old cell 0 -/
theorem ip_sld {l : Launch} {G : ip_G} {M : ip_M} {d pc : Nat} {L : List (Option Value)} {st : List Value} {h : ip_H} {r : Option Value × ip_H} {Lx q : Nat} {xs : Nat → Int32} {i : Int32} (hd : decode M.2.1 pc = .ok (.iaload, 1)) (hX : ∀ U : State, ip_X G U → va_X (ip_O G 0) Lx xs U U.heap) (hb : ip_O G 0 < ip_B G) (hi : i = nI q) (hq : q < Lx) (hL : Lx < 2 ^ 31)
    (kk : ip_Rn l G M d (pc + 1) L (.int (xs q) :: st) h r) : ip_Rn l G M d pc L (.int i :: .ref 0 :: st) h r := by
  subst hi
  refine ⟨kk.1, fun p e R s m args below meth c Q H locs cells slots ls Cx hdp hlo hce hsl hL' hSt hS kt => ?_⟩
  have hnext := kk.2 p e R s m args below meth c Q H locs cells slots ls Cx hdp hlo hce hsl hL' hSt hS kt
  have hU := Cx.2.2.2.2.2.2.2.2
  refine va_sld Cx.1 Cx.2.1 (hX s hU.2.2) (Nat.lt_of_lt_of_le hb hU.1) (Nat.not_le.mpr hb) hS (vp_in_nI hq hL) hd ?_
  rw [nI_clamp (Nat.lt_trans hq hL)]
  exact hnext
theorem ip_slen {l : Launch} {G : ip_G} {M : ip_M} {d pc : Nat} {L : List (Option Value)} {st : List Value} {h : ip_H} {r : Option Value × ip_H} {Lx : Nat} {xs : Nat → Int32} (hd : decode M.2.1 pc = .ok (.arraylength, 1)) (hX : ∀ U : State, ip_X G U → va_X (ip_O G 0) Lx xs U U.heap) (hb : ip_O G 0 < ip_B G)
    (kk : ip_Rn l G M d (pc + 1) L (.int (nI Lx) :: st) h r) : ip_Rn l G M d pc L (.ref 0 :: st) h r :=
  ⟨kk.1, fun p e R s m args below meth c Q H locs cells slots ls Cx hdp hlo hce hsl hL' hSt hS kt =>
    va_slen Cx.1 Cx.2.1 (hX s Cx.2.2.2.2.2.2.2.2.2.2) (Nat.lt_of_lt_of_le hb Cx.2.2.2.2.2.2.2.2.1) (Nat.not_le.mpr hb) hS hd (kk.2 p e R s m args below meth c Q H locs cells slots ls Cx hdp hlo hce hsl hL' hSt hS kt)⟩
end
section
def lg_tbl : List Cond := lw_tbl.filter goodWord
theorem fT : ip_okT lg_tbl := fun w hw => good_of_word (List.mem_filter.mp hw).2
theorem tt_1 : ∀ w ∈ tables_1_1, goodWord w = true → w ∈ lg_tbl := fun _ h g => List.mem_filter.mpr ⟨List.mem_append_right _ (List.mem_append_left _ h), g⟩
theorem tt_2 : ∀ w ∈ tables_1_2, goodWord w = true → w ∈ lg_tbl := fun _ h g => List.mem_filter.mpr ⟨List.mem_append_right _ (List.mem_append_right _ (List.mem_append_left _ h)), g⟩
theorem tt_3 : ∀ w ∈ tables_1_3, goodWord w = true → w ∈ lg_tbl := fun _ h g => List.mem_filter.mpr ⟨List.mem_append_right _ (List.mem_append_right _ (List.mem_append_right _ (List.mem_append_left _ h))), g⟩
theorem tt_4 : ∀ w ∈ tables_1_4, goodWord w = true → w ∈ lg_tbl := fun _ h g => List.mem_filter.mpr ⟨List.mem_append_right _ (List.mem_append_right _ (List.mem_append_right _ (List.mem_append_right _ (List.mem_append_left _ h)))), g⟩
theorem tt_5 : ∀ w ∈ tables_1_5, goodWord w = true → w ∈ lg_tbl := fun _ h g => List.mem_filter.mpr ⟨List.mem_append_right _ (List.mem_append_right _ (List.mem_append_right _ (List.mem_append_right _ (List.mem_append_right _ (List.mem_append_left _ h))))), g⟩
theorem tt_6 : ∀ w ∈ tables_1_6, goodWord w = true → w ∈ lg_tbl := fun _ h g => List.mem_filter.mpr ⟨List.mem_append_right _ (List.mem_append_right _ (List.mem_append_right _ (List.mem_append_right _ (List.mem_append_right _ (List.mem_append_right _ (List.mem_append_left _ h)))))), g⟩
theorem tt_7 : ∀ w ∈ tables_1_7, goodWord w = true → w ∈ lg_tbl := fun _ h g => List.mem_filter.mpr ⟨List.mem_append_right _ (List.mem_append_right _ (List.mem_append_right _ (List.mem_append_right _ (List.mem_append_right _ (List.mem_append_right _ (List.mem_append_right _ (List.mem_append_left _ h))))))), g⟩
theorem tt_8 : ∀ w ∈ tables_1_8, goodWord w = true → w ∈ lg_tbl := fun _ h g => List.mem_filter.mpr ⟨List.mem_append_right _ (List.mem_append_right _ (List.mem_append_right _ (List.mem_append_right _ (List.mem_append_right _ (List.mem_append_right _ (List.mem_append_right _ (List.mem_append_right _ (List.mem_append_left _ h)))))))), g⟩
theorem tt_9 : ∀ w ∈ tables_1_9, goodWord w = true → w ∈ lg_tbl := fun _ h g => List.mem_filter.mpr ⟨List.mem_append_right _ (List.mem_append_right _ (List.mem_append_right _ (List.mem_append_right _ (List.mem_append_right _ (List.mem_append_right _ (List.mem_append_right _ (List.mem_append_right _ (List.mem_append_right _ (List.mem_append_left _ h))))))))), g⟩
theorem tt_10 : ∀ w ∈ tables_1_10, goodWord w = true → w ∈ lg_tbl := fun _ h g => List.mem_filter.mpr ⟨List.mem_append_right _ (List.mem_append_right _ (List.mem_append_right _ (List.mem_append_right _ (List.mem_append_right _ (List.mem_append_right _ (List.mem_append_right _ (List.mem_append_right _ (List.mem_append_right _ (List.mem_append_right _ (List.mem_append_left _ h)))))))))), g⟩
theorem tt_11 : ∀ w ∈ tables_1_11, goodWord w = true → w ∈ lg_tbl := fun _ h g => List.mem_filter.mpr ⟨List.mem_append_right _ (List.mem_append_right _ (List.mem_append_right _ (List.mem_append_right _ (List.mem_append_right _ (List.mem_append_right _ (List.mem_append_right _ (List.mem_append_right _ (List.mem_append_right _ (List.mem_append_right _ (List.mem_append_right _ (h))))))))))), g⟩
def RX0 : String := "ShareHouse$Builder"
def TX0 : u_T := fun k => match k with
  | 0 => ("ShareHouse$Builder", "code", "LShareHouse$Code;", true)
  | 1 => ("ShareHouse$Builder", "names", "LShareHouse$Names;", true)
  | 2 => ("ShareHouse$Builder", "inputs", "LShareHouse$Inputs;", true)
  | 3 => ("ShareHouse$Builder", "circuit", "LShareHouse$Circuit;", true)
  | 4 => ("ShareHouse$Builder", "logic", "LShareHouse$Logic;", true)
  | 5 => ("ShareHouse$Builder", "width", "I", true)
  | 6 => ("ShareHouse$Builder", "sum", "[I", true)
  | 7 => ("ShareHouse$Builder", "stack", "[I", false)
  | 8 => ("ShareHouse$Builder", "top", "I", false)
  | 9 => ("ShareHouse$Builder", "vars", "[I", false)
  | 10 => ("ShareHouse$Builder", "returns", "[I", false)
  | 11 => ("ShareHouse$Builder", "frames", "[I", false)
  | 12 => ("ShareHouse$Builder", "calls", "I", false)
  | 13 => ("ShareHouse$Builder", "frame", "I", false)
  | 14 => ("ShareHouse$Builder", "now", "[J", false)
  | 15 => ("ShareHouse$Builder", "last", "[J", false)
  | 16 => ("ShareHouse$Builder", "next", "I", false)
  | 17 => ("ShareHouse$Builder", "here", "I", false)
  | _ => ("ShareHouse$Builder", "steps", "I", false)
def tyX0 : Nat → FieldType := fun k => match k with
  | 0 => .object "ShareHouse$Code"
  | 1 => .object "ShareHouse$Names"
  | 2 => .object "ShareHouse$Inputs"
  | 3 => .object "ShareHouse$Circuit"
  | 4 => .object "ShareHouse$Logic"
  | 5 => .int
  | 6 => .array .int
  | 7 => .array .int
  | 8 => .int
  | 9 => .array .int
  | 10 => .array .int
  | 11 => .array .int
  | 12 => .int
  | 13 => .int
  | 14 => .array .long
  | 15 => .array .long
  | 16 => .int
  | 17 => .int
  | _ => .int
theorem nmX0 : ∀ a, a < 19 → ∀ b, b < 19 → a ≠ b → (TX0 a).2.1 ≠ (TX0 b).2.1 := by decide +kernel
theorem tyX0_ok : ∀ k, k < 19 → parseFieldDescriptor (TX0 k).2.2.1 = some (tyX0 k) := by decide +kernel
theorem wfX0 : ∀ k, k < 19 → u_lay RX0 TX0 k ∈ lg_tbl
  | 0, _ => tt_2 _ (List.mem_of_getElem? (i := 185) rfl) rfl
  | 1, _ => tt_2 _ (List.mem_of_getElem? (i := 187) rfl) rfl
  | 2, _ => tt_2 _ (List.mem_of_getElem? (i := 189) rfl) rfl
  | 3, _ => tt_2 _ (List.mem_of_getElem? (i := 191) rfl) rfl
  | 4, _ => tt_2 _ (List.mem_of_getElem? (i := 193) rfl) rfl
  | 5, _ => tt_2 _ (List.mem_of_getElem? (i := 195) rfl) rfl
  | 6, _ => tt_2 _ (List.mem_of_getElem? (i := 197) rfl) rfl
  | 7, _ => tt_2 _ (List.mem_of_getElem? (i := 199) rfl) rfl
  | 8, _ => tt_2 _ (List.mem_of_getElem? (i := 201) rfl) rfl
  | 9, _ => tt_2 _ (List.mem_of_getElem? (i := 203) rfl) rfl
  | 10, _ => tt_2 _ (List.mem_of_getElem? (i := 205) rfl) rfl
  | 11, _ => tt_2 _ (List.mem_of_getElem? (i := 207) rfl) rfl
  | 12, _ => tt_2 _ (List.mem_of_getElem? (i := 209) rfl) rfl
  | 13, _ => tt_2 _ (List.mem_of_getElem? (i := 211) rfl) rfl
  | 14, _ => tt_2 _ (List.mem_of_getElem? (i := 213) rfl) rfl
  | 15, _ => tt_2 _ (List.mem_of_getElem? (i := 215) rfl) rfl
  | 16, _ => tt_2 _ (List.mem_of_getElem? (i := 217) rfl) rfl
  | 17, _ => tt_2 _ (List.mem_of_getElem? (i := 219) rfl) rfl
  | 18, _ => tt_2 _ (List.mem_of_getElem? (i := 221) rfl) rfl
  | n + 19, h => absurd h (by omega)
theorem wsX0_in : ∀ w ∈ u_ws RX0 TX0 19, w ∈ lg_tbl := fun w hw => by
  obtain ⟨k, hk, rfl⟩ := List.mem_map.mp hw
  exact wfX0 k (List.mem_range.mp hk)
def RX1 : String := "ShareHouse$Circuit"
def TX1 : u_T := fun k => match k with
  | 0 => ("ShareHouse$Circuit", "first", "[I", false)
  | 1 => ("ShareHouse$Circuit", "second", "[I", false)
  | 2 => ("ShareHouse$Circuit", "level", "[I", false)
  | 3 => ("ShareHouse$Circuit", "number", "[I", false)
  | 4 => ("ShareHouse$Circuit", "gates", "I", false)
  | 5 => ("ShareHouse$Circuit", "ands", "I", false)
  | 6 => ("ShareHouse$Circuit", "depth", "I", false)
  | 7 => ("ShareHouse$Circuit", "full", "Z", false)
  | 8 => ("ShareHouse$Circuit", "inputWires", "I", false)
  | 9 => ("ShareHouse$Circuit", "andGate", "[I", false)
  | 10 => ("ShareHouse$Circuit", "byLevel", "[I", false)
  | 11 => ("ShareHouse$Circuit", "levelFrom", "[I", false)
  | 12 => ("ShareHouse$Circuit", "outputs", "I", false)
  | 13 => ("ShareHouse$Circuit", "outputFrom", "[I", false)
  | 14 => ("ShareHouse$Circuit", "outputLiterals", "[I", false)
  | _ => ("ShareHouse$Circuit", "values", "[I", false)
def tyX1 : Nat → FieldType := fun k => match k with
  | 0 => .array .int
  | 1 => .array .int
  | 2 => .array .int
  | 3 => .array .int
  | 4 => .int
  | 5 => .int
  | 6 => .int
  | 7 => .boolean
  | 8 => .int
  | 9 => .array .int
  | 10 => .array .int
  | 11 => .array .int
  | 12 => .int
  | 13 => .array .int
  | 14 => .array .int
  | _ => .array .int
theorem nmX1 : ∀ a, a < 16 → ∀ b, b < 16 → a ≠ b → (TX1 a).2.1 ≠ (TX1 b).2.1 := by decide +kernel
theorem tyX1_ok : ∀ k, k < 16 → parseFieldDescriptor (TX1 k).2.2.1 = some (tyX1 k) := by decide +kernel
theorem wfX1 : ∀ k, k < 16 → u_lay RX1 TX1 k ∈ lg_tbl
  | 0, _ => tt_1 _ (List.mem_of_getElem? (i := 232) rfl) rfl
  | 1, _ => tt_1 _ (List.mem_of_getElem? (i := 234) rfl) rfl
  | 2, _ => tt_1 _ (List.mem_of_getElem? (i := 236) rfl) rfl
  | 3, _ => tt_1 _ (List.mem_of_getElem? (i := 238) rfl) rfl
  | 4, _ => tt_2 _ (List.mem_of_getElem? (i := 0) rfl) rfl
  | 5, _ => tt_2 _ (List.mem_of_getElem? (i := 2) rfl) rfl
  | 6, _ => tt_2 _ (List.mem_of_getElem? (i := 4) rfl) rfl
  | 7, _ => tt_2 _ (List.mem_of_getElem? (i := 6) rfl) rfl
  | 8, _ => tt_2 _ (List.mem_of_getElem? (i := 8) rfl) rfl
  | 9, _ => tt_2 _ (List.mem_of_getElem? (i := 10) rfl) rfl
  | 10, _ => tt_2 _ (List.mem_of_getElem? (i := 12) rfl) rfl
  | 11, _ => tt_2 _ (List.mem_of_getElem? (i := 14) rfl) rfl
  | 12, _ => tt_2 _ (List.mem_of_getElem? (i := 16) rfl) rfl
  | 13, _ => tt_2 _ (List.mem_of_getElem? (i := 18) rfl) rfl
  | 14, _ => tt_2 _ (List.mem_of_getElem? (i := 20) rfl) rfl
  | 15, _ => tt_2 _ (List.mem_of_getElem? (i := 22) rfl) rfl
  | n + 16, h => absurd h (by omega)
theorem wsX1_in : ∀ w ∈ u_ws RX1 TX1 16, w ∈ lg_tbl := fun w hw => by
  obtain ⟨k, hk, rfl⟩ := List.mem_map.mp hw
  exact wfX1 k (List.mem_range.mp hk)
def RX2 : String := "ShareHouse$Code"
def TX2 : u_T := fun k => match k with
  | 0 => ("ShareHouse$Code", "op", "[I", false)
  | 1 => ("ShareHouse$Code", "arg", "[I", false)
  | 2 => ("ShareHouse$Code", "at", "[I", false)
  | 3 => ("ShareHouse$Code", "more", "[I", false)
  | 4 => ("ShareHouse$Code", "size", "I", false)
  | 5 => ("ShareHouse$Code", "fault", "I", false)
  | _ => ("ShareHouse$Code", "place", "I", false)
def tyX2 : Nat → FieldType := fun k => match k with
  | 0 => .array .int
  | 1 => .array .int
  | 2 => .array .int
  | 3 => .array .int
  | 4 => .int
  | 5 => .int
  | _ => .int
theorem nmX2 : ∀ a, a < 7 → ∀ b, b < 7 → a ≠ b → (TX2 a).2.1 ≠ (TX2 b).2.1 := by decide +kernel
theorem tyX2_ok : ∀ k, k < 7 → parseFieldDescriptor (TX2 k).2.2.1 = some (tyX2 k) := by decide +kernel
theorem wfX2 : ∀ k, k < 7 → u_lay RX2 TX2 k ∈ lg_tbl
  | 0, _ => tt_1 _ (List.mem_of_getElem? (i := 66) rfl) rfl
  | 1, _ => tt_1 _ (List.mem_of_getElem? (i := 68) rfl) rfl
  | 2, _ => tt_1 _ (List.mem_of_getElem? (i := 70) rfl) rfl
  | 3, _ => tt_1 _ (List.mem_of_getElem? (i := 72) rfl) rfl
  | 4, _ => tt_1 _ (List.mem_of_getElem? (i := 74) rfl) rfl
  | 5, _ => tt_1 _ (List.mem_of_getElem? (i := 76) rfl) rfl
  | 6, _ => tt_1 _ (List.mem_of_getElem? (i := 78) rfl) rfl
  | n + 7, h => absurd h (by omega)
theorem wsX2_in : ∀ w ∈ u_ws RX2 TX2 7, w ∈ lg_tbl := fun w hw => by
  obtain ⟨k, hk, rfl⟩ := List.mem_map.mp hw
  exact wfX2 k (List.mem_range.mp hk)
def RX3 : String := "ShareHouse$Dealer"
def TX3 : u_T := fun k => match k with
  | 0 => ("ShareHouse$Dealer", "parties", "I", true)
  | 1 => ("ShareHouse$Dealer", "queue", "[B", true)
  | 2 => ("ShareHouse$Dealer", "waiting", "I", false)
  | 3 => ("ShareHouse$Dealer", "used", "I", false)
  | 4 => ("ShareHouse$Dealer", "seed", "I", false)
  | 5 => ("ShareHouse$Dealer", "shares", "[I", false)
  | 6 => ("ShareHouse$Dealer", "a", "[I", false)
  | 7 => ("ShareHouse$Dealer", "b", "[I", false)
  | _ => ("ShareHouse$Dealer", "c", "[I", false)
def tyX3 : Nat → FieldType := fun k => match k with
  | 0 => .int
  | 1 => .array .byte
  | 2 => .int
  | 3 => .int
  | 4 => .int
  | 5 => .array .int
  | 6 => .array .int
  | 7 => .array .int
  | _ => .array .int
theorem nmX3 : ∀ a, a < 9 → ∀ b, b < 9 → a ≠ b → (TX3 a).2.1 ≠ (TX3 b).2.1 := by decide +kernel
theorem tyX3_ok : ∀ k, k < 9 → parseFieldDescriptor (TX3 k).2.2.1 = some (tyX3 k) := by decide +kernel
theorem wfX3 : ∀ k, k < 9 → u_lay RX3 TX3 k ∈ lg_tbl
  | 0, _ => tt_3 _ (List.mem_of_getElem? (i := 3) rfl) rfl
  | 1, _ => tt_3 _ (List.mem_of_getElem? (i := 5) rfl) rfl
  | 2, _ => tt_3 _ (List.mem_of_getElem? (i := 7) rfl) rfl
  | 3, _ => tt_3 _ (List.mem_of_getElem? (i := 9) rfl) rfl
  | 4, _ => tt_3 _ (List.mem_of_getElem? (i := 11) rfl) rfl
  | 5, _ => tt_3 _ (List.mem_of_getElem? (i := 13) rfl) rfl
  | 6, _ => tt_3 _ (List.mem_of_getElem? (i := 15) rfl) rfl
  | 7, _ => tt_3 _ (List.mem_of_getElem? (i := 17) rfl) rfl
  | 8, _ => tt_3 _ (List.mem_of_getElem? (i := 19) rfl) rfl
  | n + 9, h => absurd h (by omega)
theorem wsX3_in : ∀ w ∈ u_ws RX3 TX3 9, w ∈ lg_tbl := fun w hw => by
  obtain ⟨k, hk, rfl⟩ := List.mem_map.mp hw
  exact wfX3 k (List.mem_range.mp hk)
def RX4 : String := "ShareHouse$Inputs"
def TX4 : u_T := fun k => match k with
  | 0 => ("ShareHouse$Inputs", "owner", "[I", true)
  | 1 => ("ShareHouse$Inputs", "bits", "[I", true)
  | 2 => ("ShareHouse$Inputs", "wire", "[I", true)
  | 3 => ("ShareHouse$Inputs", "value", "[I", true)
  | 4 => ("ShareHouse$Inputs", "fixed", "[I", true)
  | 5 => ("ShareHouse$Inputs", "own", "[I", true)
  | 6 => ("ShareHouse$Inputs", "words", "I", false)
  | _ => ("ShareHouse$Inputs", "wires", "I", false)
def tyX4 : Nat → FieldType := fun k => match k with
  | 0 => .array .int
  | 1 => .array .int
  | 2 => .array .int
  | 3 => .array .int
  | 4 => .array .int
  | 5 => .array .int
  | 6 => .int
  | _ => .int
theorem nmX4 : ∀ a, a < 8 → ∀ b, b < 8 → a ≠ b → (TX4 a).2.1 ≠ (TX4 b).2.1 := by decide +kernel
theorem tyX4_ok : ∀ k, k < 8 → parseFieldDescriptor (TX4 k).2.2.1 = some (tyX4 k) := by decide +kernel
theorem wfX4 : ∀ k, k < 8 → u_lay RX4 TX4 k ∈ lg_tbl
  | 0, _ => tt_1 _ (List.mem_of_getElem? (i := 175) rfl) rfl
  | 1, _ => tt_1 _ (List.mem_of_getElem? (i := 177) rfl) rfl
  | 2, _ => tt_1 _ (List.mem_of_getElem? (i := 179) rfl) rfl
  | 3, _ => tt_1 _ (List.mem_of_getElem? (i := 181) rfl) rfl
  | 4, _ => tt_1 _ (List.mem_of_getElem? (i := 183) rfl) rfl
  | 5, _ => tt_1 _ (List.mem_of_getElem? (i := 185) rfl) rfl
  | 6, _ => tt_1 _ (List.mem_of_getElem? (i := 187) rfl) rfl
  | 7, _ => tt_1 _ (List.mem_of_getElem? (i := 189) rfl) rfl
  | n + 8, h => absurd h (by omega)
theorem wsX4_in : ∀ w ∈ u_ws RX4 TX4 8, w ∈ lg_tbl := fun w hw => by
  obtain ⟨k, hk, rfl⟩ := List.mem_map.mp hw
  exact wfX4 k (List.mem_range.mp hk)
def RX5 : String := "ShareHouse$Logic"
def TX5 : u_T := fun k => match k with
  | 0 => ("ShareHouse$Logic", "circuit", "LShareHouse$Circuit;", true)
  | 1 => ("ShareHouse$Logic", "width", "I", true)
  | 2 => ("ShareHouse$Logic", "result", "[I", true)
  | 3 => ("ShareHouse$Logic", "rest", "[I", true)
  | 4 => ("ShareHouse$Logic", "taken", "[I", true)
  | 5 => ("ShareHouse$Logic", "shifted", "[I", true)
  | _ => ("ShareHouse$Logic", "pairs", "[I", true)
def tyX5 : Nat → FieldType := fun k => match k with
  | 0 => .object "ShareHouse$Circuit"
  | 1 => .int
  | 2 => .array .int
  | 3 => .array .int
  | 4 => .array .int
  | 5 => .array .int
  | _ => .array .int
theorem nmX5 : ∀ a, a < 7 → ∀ b, b < 7 → a ≠ b → (TX5 a).2.1 ≠ (TX5 b).2.1 := by decide +kernel
theorem tyX5_ok : ∀ k, k < 7 → parseFieldDescriptor (TX5 k).2.2.1 = some (tyX5 k) := by decide +kernel
theorem wfX5 : ∀ k, k < 7 → u_lay RX5 TX5 k ∈ lg_tbl
  | 0, _ => tt_2 _ (List.mem_of_getElem? (i := 149) rfl) rfl
  | 1, _ => tt_2 _ (List.mem_of_getElem? (i := 151) rfl) rfl
  | 2, _ => tt_2 _ (List.mem_of_getElem? (i := 153) rfl) rfl
  | 3, _ => tt_2 _ (List.mem_of_getElem? (i := 155) rfl) rfl
  | 4, _ => tt_2 _ (List.mem_of_getElem? (i := 157) rfl) rfl
  | 5, _ => tt_2 _ (List.mem_of_getElem? (i := 159) rfl) rfl
  | 6, _ => tt_2 _ (List.mem_of_getElem? (i := 161) rfl) rfl
  | n + 7, h => absurd h (by omega)
theorem wsX5_in : ∀ w ∈ u_ws RX5 TX5 7, w ∈ lg_tbl := fun w hw => by
  obtain ⟨k, hk, rfl⟩ := List.mem_map.mp hw
  exact wfX5 k (List.mem_range.mp hk)
def RX6 : String := "ShareHouse$Names"
def TX6 : u_T := fun k => match k with
  | 0 => ("ShareHouse$Names", "text", "[B", true)
  | 1 => ("ShareHouse$Names", "length", "I", false)
  | 2 => ("ShareHouse$Names", "start", "[I", false)
  | 3 => ("ShareHouse$Names", "stop", "[I", false)
  | 4 => ("ShareHouse$Names", "kind", "[I", false)
  | 5 => ("ShareHouse$Names", "sort", "[I", false)
  | 6 => ("ShareHouse$Names", "size", "[I", false)
  | 7 => ("ShareHouse$Names", "base", "[I", false)
  | 8 => ("ShareHouse$Names", "params", "[I", false)
  | 9 => ("ShareHouse$Names", "declared", "I", false)
  | 10 => ("ShareHouse$Names", "visible", "[I", false)
  | 11 => ("ShareHouse$Names", "shown", "I", false)
  | _ => ("ShareHouse$Names", "floor", "I", false)
def tyX6 : Nat → FieldType := fun k => match k with
  | 0 => .array .byte
  | 1 => .int
  | 2 => .array .int
  | 3 => .array .int
  | 4 => .array .int
  | 5 => .array .int
  | 6 => .array .int
  | 7 => .array .int
  | 8 => .array .int
  | 9 => .int
  | 10 => .array .int
  | 11 => .int
  | _ => .int
theorem nmX6 : ∀ a, a < 13 → ∀ b, b < 13 → a ≠ b → (TX6 a).2.1 ≠ (TX6 b).2.1 := by decide +kernel
theorem tyX6_ok : ∀ k, k < 13 → parseFieldDescriptor (TX6 k).2.2.1 = some (tyX6 k) := by decide +kernel
theorem wfX6 : ∀ k, k < 13 → u_lay RX6 TX6 k ∈ lg_tbl
  | 0, _ => tt_1 _ (List.mem_of_getElem? (i := 116) rfl) rfl
  | 1, _ => tt_1 _ (List.mem_of_getElem? (i := 118) rfl) rfl
  | 2, _ => tt_1 _ (List.mem_of_getElem? (i := 120) rfl) rfl
  | 3, _ => tt_1 _ (List.mem_of_getElem? (i := 122) rfl) rfl
  | 4, _ => tt_1 _ (List.mem_of_getElem? (i := 124) rfl) rfl
  | 5, _ => tt_1 _ (List.mem_of_getElem? (i := 126) rfl) rfl
  | 6, _ => tt_1 _ (List.mem_of_getElem? (i := 128) rfl) rfl
  | 7, _ => tt_1 _ (List.mem_of_getElem? (i := 130) rfl) rfl
  | 8, _ => tt_1 _ (List.mem_of_getElem? (i := 132) rfl) rfl
  | 9, _ => tt_1 _ (List.mem_of_getElem? (i := 134) rfl) rfl
  | 10, _ => tt_1 _ (List.mem_of_getElem? (i := 136) rfl) rfl
  | 11, _ => tt_1 _ (List.mem_of_getElem? (i := 138) rfl) rfl
  | 12, _ => tt_1 _ (List.mem_of_getElem? (i := 140) rfl) rfl
  | n + 13, h => absurd h (by omega)
theorem wsX6_in : ∀ w ∈ u_ws RX6 TX6 13, w ∈ lg_tbl := fun w hw => by
  obtain ⟨k, hk, rfl⟩ := List.mem_map.mp hw
  exact wfX6 k (List.mem_range.mp hk)
def RX7 : String := "ShareHouse$Post"
def TX7 : u_T := fun k => match k with
  | 0 => ("ShareHouse$Post", "parties", "I", true)
  | 1 => ("ShareHouse$Post", "circuit", "LShareHouse$Circuit;", true)
  | 2 => ("ShareHouse$Post", "inputs", "LShareHouse$Inputs;", true)
  | 3 => ("ShareHouse$Post", "dealer", "LShareHouse$Dealer;", true)
  | 4 => ("ShareHouse$Post", "at", "[I", true)
  | 5 => ("ShareHouse$Post", "arrived", "[I", true)
  | 6 => ("ShareHouse$Post", "arrivedBits", "[I", true)
  | 7 => ("ShareHouse$Post", "came", "[I", true)
  | 8 => ("ShareHouse$Post", "cameEarly", "[I", true)
  | 9 => ("ShareHouse$Post", "flight", "[I", true)
  | 10 => ("ShareHouse$Post", "flying", "I", false)
  | 11 => ("ShareHouse$Post", "delivered", "I", false)
  | 12 => ("ShareHouse$Post", "done", "I", false)
  | 13 => ("ShareHouse$Post", "log", "[I", false)
  | _ => ("ShareHouse$Post", "logOfOne", "I", false)
def tyX7 : Nat → FieldType := fun k => match k with
  | 0 => .int
  | 1 => .object "ShareHouse$Circuit"
  | 2 => .object "ShareHouse$Inputs"
  | 3 => .object "ShareHouse$Dealer"
  | 4 => .array .int
  | 5 => .array .int
  | 6 => .array .int
  | 7 => .array .int
  | 8 => .array .int
  | 9 => .array .int
  | 10 => .int
  | 11 => .int
  | 12 => .int
  | 13 => .array .int
  | _ => .int
theorem nmX7 : ∀ a, a < 15 → ∀ b, b < 15 → a ≠ b → (TX7 a).2.1 ≠ (TX7 b).2.1 := by decide +kernel
theorem tyX7_ok : ∀ k, k < 15 → parseFieldDescriptor (TX7 k).2.2.1 = some (tyX7 k) := by decide +kernel
theorem wfX7 : ∀ k, k < 15 → u_lay RX7 TX7 k ∈ lg_tbl
  | 0, _ => tt_3 _ (List.mem_of_getElem? (i := 49) rfl) rfl
  | 1, _ => tt_3 _ (List.mem_of_getElem? (i := 51) rfl) rfl
  | 2, _ => tt_3 _ (List.mem_of_getElem? (i := 53) rfl) rfl
  | 3, _ => tt_3 _ (List.mem_of_getElem? (i := 55) rfl) rfl
  | 4, _ => tt_3 _ (List.mem_of_getElem? (i := 57) rfl) rfl
  | 5, _ => tt_3 _ (List.mem_of_getElem? (i := 59) rfl) rfl
  | 6, _ => tt_3 _ (List.mem_of_getElem? (i := 61) rfl) rfl
  | 7, _ => tt_3 _ (List.mem_of_getElem? (i := 63) rfl) rfl
  | 8, _ => tt_3 _ (List.mem_of_getElem? (i := 65) rfl) rfl
  | 9, _ => tt_3 _ (List.mem_of_getElem? (i := 67) rfl) rfl
  | 10, _ => tt_3 _ (List.mem_of_getElem? (i := 69) rfl) rfl
  | 11, _ => tt_3 _ (List.mem_of_getElem? (i := 71) rfl) rfl
  | 12, _ => tt_3 _ (List.mem_of_getElem? (i := 73) rfl) rfl
  | 13, _ => tt_3 _ (List.mem_of_getElem? (i := 75) rfl) rfl
  | 14, _ => tt_3 _ (List.mem_of_getElem? (i := 77) rfl) rfl
  | n + 15, h => absurd h (by omega)
theorem wsX7_in : ∀ w ∈ u_ws RX7 TX7 15, w ∈ lg_tbl := fun w hw => by
  obtain ⟨k, hk, rfl⟩ := List.mem_map.mp hw
  exact wfX7 k (List.mem_range.mp hk)
def RX8 : String := "ShareHouse$Reader"
def TX8 : u_T := fun k => match k with
  | 0 => ("ShareHouse$Reader", "words", "LShareHouse$Words;", true)
  | 1 => ("ShareHouse$Reader", "code", "LShareHouse$Code;", true)
  | 2 => ("ShareHouse$Reader", "names", "LShareHouse$Names;", true)
  | 3 => ("ShareHouse$Reader", "inputs", "LShareHouse$Inputs;", true)
  | 4 => ("ShareHouse$Reader", "parties", "I", true)
  | 5 => ("ShareHouse$Reader", "width", "I", true)
  | 6 => ("ShareHouse$Reader", "waiting", "[I", true)
  | 7 => ("ShareHouse$Reader", "waitingAt", "[I", true)
  | 8 => ("ShareHouse$Reader", "waitingRight", "[I", true)
  | 9 => ("ShareHouse$Reader", "waits", "I", false)
  | _ => ("ShareHouse$Reader", "varWords", "I", false)
def tyX8 : Nat → FieldType := fun k => match k with
  | 0 => .object "ShareHouse$Words"
  | 1 => .object "ShareHouse$Code"
  | 2 => .object "ShareHouse$Names"
  | 3 => .object "ShareHouse$Inputs"
  | 4 => .int
  | 5 => .int
  | 6 => .array .int
  | 7 => .array .int
  | 8 => .array .int
  | 9 => .int
  | _ => .int
theorem nmX8 : ∀ a, a < 11 → ∀ b, b < 11 → a ≠ b → (TX8 a).2.1 ≠ (TX8 b).2.1 := by decide +kernel
theorem tyX8_ok : ∀ k, k < 11 → parseFieldDescriptor (TX8 k).2.2.1 = some (tyX8 k) := by decide +kernel
theorem wfX8 : ∀ k, k < 11 → u_lay RX8 TX8 k ∈ lg_tbl
  | 0, _ => tt_2 _ (List.mem_of_getElem? (i := 67) rfl) rfl
  | 1, _ => tt_2 _ (List.mem_of_getElem? (i := 69) rfl) rfl
  | 2, _ => tt_2 _ (List.mem_of_getElem? (i := 71) rfl) rfl
  | 3, _ => tt_2 _ (List.mem_of_getElem? (i := 73) rfl) rfl
  | 4, _ => tt_2 _ (List.mem_of_getElem? (i := 75) rfl) rfl
  | 5, _ => tt_2 _ (List.mem_of_getElem? (i := 77) rfl) rfl
  | 6, _ => tt_2 _ (List.mem_of_getElem? (i := 79) rfl) rfl
  | 7, _ => tt_2 _ (List.mem_of_getElem? (i := 81) rfl) rfl
  | 8, _ => tt_2 _ (List.mem_of_getElem? (i := 83) rfl) rfl
  | 9, _ => tt_2 _ (List.mem_of_getElem? (i := 85) rfl) rfl
  | 10, _ => tt_2 _ (List.mem_of_getElem? (i := 87) rfl) rfl
  | n + 11, h => absurd h (by omega)
theorem wsX8_in : ∀ w ∈ u_ws RX8 TX8 11, w ∈ lg_tbl := fun w hw => by
  obtain ⟨k, hk, rfl⟩ := List.mem_map.mp hw
  exact wfX8 k (List.mem_range.mp hk)
def RX9 : String := "ShareHouse$Sorts"
def TX9 : u_T := fun k => match k with
  | 0 => ("ShareHouse$Sorts", "code", "LShareHouse$Code;", true)
  | 1 => ("ShareHouse$Sorts", "names", "LShareHouse$Names;", true)
  | 2 => ("ShareHouse$Sorts", "held", "[I", false)
  | 3 => ("ShareHouse$Sorts", "top", "I", false)
  | 4 => ("ShareHouse$Sorts", "scopes", "[I", true)
  | 5 => ("ShareHouse$Sorts", "open", "I", false)
  | 6 => ("ShareHouse$Sorts", "ahead", "[I", true)
  | 7 => ("ShareHouse$Sorts", "lowest", "[I", true)
  | 8 => ("ShareHouse$Sorts", "highest", "[I", true)
  | 9 => ("ShareHouse$Sorts", "ifs", "I", false)
  | _ => ("ShareHouse$Sorts", "varWords", "I", false)
def tyX9 : Nat → FieldType := fun k => match k with
  | 0 => .object "ShareHouse$Code"
  | 1 => .object "ShareHouse$Names"
  | 2 => .array .int
  | 3 => .int
  | 4 => .array .int
  | 5 => .int
  | 6 => .array .int
  | 7 => .array .int
  | 8 => .array .int
  | 9 => .int
  | _ => .int
theorem nmX9 : ∀ a, a < 11 → ∀ b, b < 11 → a ≠ b → (TX9 a).2.1 ≠ (TX9 b).2.1 := by decide +kernel
theorem tyX9_ok : ∀ k, k < 11 → parseFieldDescriptor (TX9 k).2.2.1 = some (tyX9 k) := by decide +kernel
theorem wfX9 : ∀ k, k < 11 → u_lay RX9 TX9 k ∈ lg_tbl
  | 0, _ => tt_2 _ (List.mem_of_getElem? (i := 107) rfl) rfl
  | 1, _ => tt_2 _ (List.mem_of_getElem? (i := 109) rfl) rfl
  | 2, _ => tt_2 _ (List.mem_of_getElem? (i := 111) rfl) rfl
  | 3, _ => tt_2 _ (List.mem_of_getElem? (i := 113) rfl) rfl
  | 4, _ => tt_2 _ (List.mem_of_getElem? (i := 115) rfl) rfl
  | 5, _ => tt_2 _ (List.mem_of_getElem? (i := 117) rfl) rfl
  | 6, _ => tt_2 _ (List.mem_of_getElem? (i := 119) rfl) rfl
  | 7, _ => tt_2 _ (List.mem_of_getElem? (i := 121) rfl) rfl
  | 8, _ => tt_2 _ (List.mem_of_getElem? (i := 123) rfl) rfl
  | 9, _ => tt_2 _ (List.mem_of_getElem? (i := 125) rfl) rfl
  | 10, _ => tt_2 _ (List.mem_of_getElem? (i := 127) rfl) rfl
  | n + 11, h => absurd h (by omega)
theorem wsX9_in : ∀ w ∈ u_ws RX9 TX9 11, w ∈ lg_tbl := fun w hw => by
  obtain ⟨k, hk, rfl⟩ := List.mem_map.mp hw
  exact wfX9 k (List.mem_range.mp hk)
def RX10 : String := "ShareHouse$Words"
def TX10 : u_T := fun k => match k with
  | 0 => ("ShareHouse$Words", "text", "[B", true)
  | 1 => ("ShareHouse$Words", "length", "I", false)
  | 2 => ("ShareHouse$Words", "kind", "I", false)
  | 3 => ("ShareHouse$Words", "start", "I", false)
  | _ => ("ShareHouse$Words", "stop", "I", false)
def tyX10 : Nat → FieldType := fun k => match k with
  | 0 => .array .byte
  | 1 => .int
  | 2 => .int
  | 3 => .int
  | _ => .int
theorem nmX10 : ∀ a, a < 5 → ∀ b, b < 5 → a ≠ b → (TX10 a).2.1 ≠ (TX10 b).2.1 := by decide +kernel
theorem tyX10_ok : ∀ k, k < 5 → parseFieldDescriptor (TX10 k).2.2.1 = some (tyX10 k) := by decide +kernel
theorem wfX10 : ∀ k, k < 5 → u_lay RX10 TX10 k ∈ lg_tbl
  | 0, _ => tt_2 _ (List.mem_of_getElem? (i := 45) rfl) rfl
  | 1, _ => tt_2 _ (List.mem_of_getElem? (i := 47) rfl) rfl
  | 2, _ => tt_2 _ (List.mem_of_getElem? (i := 49) rfl) rfl
  | 3, _ => tt_2 _ (List.mem_of_getElem? (i := 51) rfl) rfl
  | 4, _ => tt_2 _ (List.mem_of_getElem? (i := 53) rfl) rfl
  | n + 5, h => absurd h (by omega)
theorem wsX10_in : ∀ w ∈ u_ws RX10 TX10 5, w ∈ lg_tbl := fun w hw => by
  obtain ⟨k, hk, rfl⟩ := List.mem_map.mp hw
  exact wfX10 k (List.mem_range.mp hk)
def RX11 : String := "ShareHouse"
def TX11 : u_T := fun k => match k with
  | 0 => ("ShareHouse", "parties", "I", true)
  | 1 => ("ShareHouse", "width", "I", true)
  | 2 => ("ShareHouse", "ready", "[B", true)
  | 3 => ("ShareHouse", "tape", "[B", true)
  | 4 => ("ShareHouse", "taped", "I", false)
  | 5 => ("ShareHouse", "code", "LShareHouse$Code;", true)
  | 6 => ("ShareHouse", "names", "LShareHouse$Names;", true)
  | 7 => ("ShareHouse", "inputs", "LShareHouse$Inputs;", true)
  | 8 => ("ShareHouse", "circuit", "LShareHouse$Circuit;", true)
  | 9 => ("ShareHouse", "reader", "LShareHouse$Reader;", true)
  | 10 => ("ShareHouse", "sorts", "LShareHouse$Sorts;", true)
  | 11 => ("ShareHouse", "builder", "LShareHouse$Builder;", true)
  | 12 => ("ShareHouse", "dealer", "LShareHouse$Dealer;", true)
  | 13 => ("ShareHouse", "post", "LShareHouse$Post;", true)
  | 14 => ("ShareHouse", "built", "Z", false)
  | 15 => ("ShareHouse", "cut", "Z", false)
  | _ => ("ShareHouse", "worked", "Z", false)
def tyX11 : Nat → FieldType := fun k => match k with
  | 0 => .int
  | 1 => .int
  | 2 => .array .byte
  | 3 => .array .byte
  | 4 => .int
  | 5 => .object "ShareHouse$Code"
  | 6 => .object "ShareHouse$Names"
  | 7 => .object "ShareHouse$Inputs"
  | 8 => .object "ShareHouse$Circuit"
  | 9 => .object "ShareHouse$Reader"
  | 10 => .object "ShareHouse$Sorts"
  | 11 => .object "ShareHouse$Builder"
  | 12 => .object "ShareHouse$Dealer"
  | 13 => .object "ShareHouse$Post"
  | 14 => .boolean
  | 15 => .boolean
  | _ => .boolean
theorem nmX11 : ∀ a, a < 17 → ∀ b, b < 17 → a ≠ b → (TX11 a).2.1 ≠ (TX11 b).2.1 := by decide +kernel
theorem tyX11_ok : ∀ k, k < 17 → parseFieldDescriptor (TX11 k).2.2.1 = some (tyX11 k) := by decide +kernel
theorem wfX11 : ∀ k, k < 17 → u_lay RX11 TX11 k ∈ lg_tbl
  | 0, _ => tt_3 _ (List.mem_of_getElem? (i := 97) rfl) rfl
  | 1, _ => tt_3 _ (List.mem_of_getElem? (i := 99) rfl) rfl
  | 2, _ => tt_3 _ (List.mem_of_getElem? (i := 101) rfl) rfl
  | 3, _ => tt_3 _ (List.mem_of_getElem? (i := 103) rfl) rfl
  | 4, _ => tt_3 _ (List.mem_of_getElem? (i := 105) rfl) rfl
  | 5, _ => tt_3 _ (List.mem_of_getElem? (i := 107) rfl) rfl
  | 6, _ => tt_3 _ (List.mem_of_getElem? (i := 109) rfl) rfl
  | 7, _ => tt_3 _ (List.mem_of_getElem? (i := 111) rfl) rfl
  | 8, _ => tt_3 _ (List.mem_of_getElem? (i := 113) rfl) rfl
  | 9, _ => tt_3 _ (List.mem_of_getElem? (i := 115) rfl) rfl
  | 10, _ => tt_3 _ (List.mem_of_getElem? (i := 117) rfl) rfl
  | 11, _ => tt_3 _ (List.mem_of_getElem? (i := 119) rfl) rfl
  | 12, _ => tt_3 _ (List.mem_of_getElem? (i := 121) rfl) rfl
  | 13, _ => tt_3 _ (List.mem_of_getElem? (i := 123) rfl) rfl
  | 14, _ => tt_3 _ (List.mem_of_getElem? (i := 125) rfl) rfl
  | 15, _ => tt_3 _ (List.mem_of_getElem? (i := 127) rfl) rfl
  | 16, _ => tt_3 _ (List.mem_of_getElem? (i := 129) rfl) rfl
  | n + 17, h => absurd h (by omega)
theorem wsX11_in : ∀ w ∈ u_ws RX11 TX11 17, w ∈ lg_tbl := fun w hw => by
  obtain ⟨k, hk, rfl⟩ := List.mem_map.mp hw
  exact wfX11 k (List.mem_range.mp hk)
def RX12 : String := "ShareHouseModel"
def TX12 : u_T := fun k => match k with
  | 0 => ("ShareHouseModel", "n", "I", true)
  | 1 => ("ShareHouseModel", "w", "I", true)
  | 2 => ("ShareHouseModel", "mask", "J", true)
  | 3 => ("ShareHouseModel", "ready", "[I", true)
  | 4 => ("ShareHouseModel", "tape", "[I", true)
  | 5 => ("ShareHouseModel", "taped", "I", false)
  | 6 => ("ShareHouseModel", "at", "I", false)
  | 7 => ("ShareHouseModel", "fault", "I", false)
  | 8 => ("ShareHouseModel", "faultPlace", "I", false)
  | 9 => ("ShareHouseModel", "names", "I", false)
  | 10 => ("ShareHouseModel", "nameAt", "[I", true)
  | 11 => ("ShareHouseModel", "nameSize", "[I", true)
  | 12 => ("ShareHouseModel", "numberRead", "J", false)
  | 13 => ("ShareHouseModel", "many", "I", false)
  | 14 => ("ShareHouseModel", "kind", "[I", true)
  | 15 => ("ShareHouseModel", "one", "[I", true)
  | 16 => ("ShareHouseModel", "two", "[I", true)
  | 17 => ("ShareHouseModel", "place", "[I", true)
  | 18 => ("ShareHouseModel", "worth", "[J", true)
  | 19 => ("ShareHouseModel", "deep", "I", false)
  | 20 => ("ShareHouseModel", "waits", "I", false)
  | 21 => ("ShareHouseModel", "wait", "[I", true)
  | 22 => ("ShareHouseModel", "waitOne", "[I", true)
  | 23 => ("ShareHouseModel", "waitPlace", "[I", true)
  | 24 => ("ShareHouseModel", "waitMany", "[I", true)
  | 25 => ("ShareHouseModel", "wantsNext", "Z", false)
  | 26 => ("ShareHouseModel", "blocks", "I", false)
  | 27 => ("ShareHouseModel", "blockOf", "[I", true)
  | 28 => ("ShareHouseModel", "blockStep", "[I", true)
  | 29 => ("ShareHouseModel", "inputWords", "I", false)
  | 30 => ("ShareHouseModel", "varWords", "I", false)
  | 31 => ("ShareHouseModel", "size", "I", false)
  | 32 => ("ShareHouseModel", "sort", "I", false)
  | 33 => ("ShareHouseModel", "offset", "[I", true)
  | 34 => ("ShareHouseModel", "symbols", "I", false)
  | 35 => ("ShareHouseModel", "symName", "[I", true)
  | 36 => ("ShareHouseModel", "symKind", "[I", true)
  | 37 => ("ShareHouseModel", "symSort", "[I", true)
  | 38 => ("ShareHouseModel", "symSize", "[I", true)
  | 39 => ("ShareHouseModel", "symAt", "[I", true)
  | 40 => ("ShareHouseModel", "symSeen", "[Z", true)
  | 41 => ("ShareHouseModel", "symParams", "[I", true)
  | 42 => ("ShareHouseModel", "symMany", "[I", true)
  | 43 => ("ShareHouseModel", "piled", "I", false)
  | 44 => ("ShareHouseModel", "pileSort", "[I", true)
  | 45 => ("ShareHouseModel", "pileFrom", "[I", true)
  | 46 => ("ShareHouseModel", "pilePublic", "[Z", true)
  | 47 => ("ShareHouseModel", "inDef", "Z", false)
  | 48 => ("ShareHouseModel", "scopeStart", "[I", true)
  | 49 => ("ShareHouseModel", "scopes", "I", false)
  | 50 => ("ShareHouseModel", "refKind", "[I", true)
  | 51 => ("ShareHouseModel", "refAt", "[I", true)
  | 52 => ("ShareHouseModel", "refSize", "[I", true)
  | 53 => ("ShareHouseModel", "refSort", "[I", true)
  | 54 => ("ShareHouseModel", "asked", "[I", true)
  | 55 => ("ShareHouseModel", "isPublicAt", "[Z", true)
  | 56 => ("ShareHouseModel", "calls", "I", false)
  | 57 => ("ShareHouseModel", "callSymbol", "[I", true)
  | 58 => ("ShareHouseModel", "callMany", "[I", true)
  | 59 => ("ShareHouseModel", "inputOffset", "I", false)
  | 60 => ("ShareHouseModel", "params", "I", false)
  | 61 => ("ShareHouseModel", "defParams", "I", false)
  | 62 => ("ShareHouseModel", "defFirst", "I", false)
  | 63 => ("ShareHouseModel", "defStep", "I", false)
  | 64 => ("ShareHouseModel", "paramSort", "[I", true)
  | 65 => ("ShareHouseModel", "inputBits", "I", false)
  | 66 => ("ShareHouseModel", "gates", "I", false)
  | 67 => ("ShareHouseModel", "ands", "I", false)
  | 68 => ("ShareHouseModel", "deepest", "I", false)
  | 69 => ("ShareHouseModel", "outputs", "I", false)
  | 70 => ("ShareHouseModel", "steps", "I", false)
  | 71 => ("ShareHouseModel", "isAnd", "[I", true)
  | 72 => ("ShareHouseModel", "level", "[I", true)
  | 73 => ("ShareHouseModel", "left", "[I", true)
  | 74 => ("ShareHouseModel", "right", "[I", true)
  | 75 => ("ShareHouseModel", "inputs", "I", false)
  | 76 => ("ShareHouseModel", "inParty", "[I", true)
  | 77 => ("ShareHouseModel", "inBits", "[I", true)
  | 78 => ("ShareHouseModel", "inWire", "[I", true)
  | 79 => ("ShareHouseModel", "inValue", "[J", true)
  | 80 => ("ShareHouseModel", "dealtValue", "[J", true)
  | 81 => ("ShareHouseModel", "outBits", "[I", true)
  | 82 => ("ShareHouseModel", "outLiteral", "[I", true)
  | 83 => ("ShareHouseModel", "circuit", "Z", false)
  | 84 => ("ShareHouseModel", "bits", "[I", true)
  | 85 => ("ShareHouseModel", "top", "I", false)
  | 86 => ("ShareHouseModel", "x", "[I", true)
  | 87 => ("ShareHouseModel", "y", "[I", true)
  | 88 => ("ShareHouseModel", "z", "[I", true)
  | 89 => ("ShareHouseModel", "\x72", "[I", true)
  | 90 => ("ShareHouseModel", "q", "[I", true)
  | 91 => ("ShareHouseModel", "product", "[I", true)
  | 92 => ("ShareHouseModel", "rest", "[I", true)
  | 93 => ("ShareHouseModel", "quotient", "[I", true)
  | 94 => ("ShareHouseModel", "doing", "I", false)
  | 95 => ("ShareHouseModel", "doingPlace", "[I", true)
  | 96 => ("ShareHouseModel", "varLiteral", "[I", true)
  | 97 => ("ShareHouseModel", "alives", "I", false)
  | 98 => ("ShareHouseModel", "aliveAt", "[I", true)
  | 99 => ("ShareHouseModel", "aliveWords", "[I", true)
  | 100 => ("ShareHouseModel", "aliveBits", "[I", true)
  | 101 => ("ShareHouseModel", "ifs", "I", false)
  | 102 => ("ShareHouseModel", "ifLiteral", "[I", true)
  | 103 => ("ShareHouseModel", "ifAlive", "[I", true)
  | 104 => ("ShareHouseModel", "ifElse", "[Z", true)
  | 105 => ("ShareHouseModel", "before", "[I", true)
  | 106 => ("ShareHouseModel", "after", "[I", true)
  | 107 => ("ShareHouseModel", "loopNow", "[J", true)
  | 108 => ("ShareHouseModel", "loopEnd", "[J", true)
  | 109 => ("ShareHouseModel", "loopAlive", "[I", true)
  | 110 => ("ShareHouseModel", "frames", "I", false)
  | 111 => ("ShareHouseModel", "frameBase", "[I", true)
  | 112 => ("ShareHouseModel", "frameBack", "[I", true)
  | 113 => ("ShareHouseModel", "index", "[I", true)
  | 114 => ("ShareHouseModel", "pileWord", "[J", true)
  | 115 => ("ShareHouseModel", "meant", "I", false)
  | 116 => ("ShareHouseModel", "varWord", "[J", true)
  | 117 => ("ShareHouseModel", "outWord", "[J", true)
  | 118 => ("ShareHouseModel", "outs", "I", false)
  | 119 => ("ShareHouseModel", "meantNow", "Z", false)
  | 120 => ("ShareHouseModel", "seedNow", "I", false)
  | 121 => ("ShareHouseModel", "drawsWait", "I", false)
  | 122 => ("ShareHouseModel", "drawFirst", "I", false)
  | 123 => ("ShareHouseModel", "told0", "[I", true)
  | 124 => ("ShareHouseModel", "dealt", "Z", false)
  | 125 => ("ShareHouseModel", "shares", "[I", true)
  | 126 => ("ShareHouseModel", "tripleA", "[I", true)
  | 127 => ("ShareHouseModel", "tripleB", "[I", true)
  | 128 => ("ShareHouseModel", "tripleC", "[I", true)
  | 129 => ("ShareHouseModel", "levelFrom", "[I", true)
  | 130 => ("ShareHouseModel", "byLevel", "[I", true)
  | 131 => ("ShareHouseModel", "sentOf", "I", false)
  | 132 => ("ShareHouseModel", "round", "[I", true)
  | 133 => ("ShareHouseModel", "gotNow", "[I", true)
  | 134 => ("ShareHouseModel", "gotNext", "[I", true)
  | 135 => ("ShareHouseModel", "came", "[I", true)
  | 136 => ("ShareHouseModel", "cameBits", "[I", true)
  | 137 => ("ShareHouseModel", "cameFrom", "[I", true)
  | 138 => ("ShareHouseModel", "cameRound", "[I", true)
  | 139 => ("ShareHouseModel", "flying", "I", false)
  | 140 => ("ShareHouseModel", "delivered", "I", false)
  | 141 => ("ShareHouseModel", "flyFrom", "[I", true)
  | 142 => ("ShareHouseModel", "flyTo", "[I", true)
  | 143 => ("ShareHouseModel", "flyRound", "[I", true)
  | 144 => ("ShareHouseModel", "ownBits", "[I", true)
  | _ => ("ShareHouseModel", "outputBits", "I", false)
def tyX12 : Nat → FieldType := fun k => match k with
  | 0 => .int
  | 1 => .int
  | 2 => .long
  | 3 => .array .int
  | 4 => .array .int
  | 5 => .int
  | 6 => .int
  | 7 => .int
  | 8 => .int
  | 9 => .int
  | 10 => .array .int
  | 11 => .array .int
  | 12 => .long
  | 13 => .int
  | 14 => .array .int
  | 15 => .array .int
  | 16 => .array .int
  | 17 => .array .int
  | 18 => .array .long
  | 19 => .int
  | 20 => .int
  | 21 => .array .int
  | 22 => .array .int
  | 23 => .array .int
  | 24 => .array .int
  | 25 => .boolean
  | 26 => .int
  | 27 => .array .int
  | 28 => .array .int
  | 29 => .int
  | 30 => .int
  | 31 => .int
  | 32 => .int
  | 33 => .array .int
  | 34 => .int
  | 35 => .array .int
  | 36 => .array .int
  | 37 => .array .int
  | 38 => .array .int
  | 39 => .array .int
  | 40 => .array .boolean
  | 41 => .array .int
  | 42 => .array .int
  | 43 => .int
  | 44 => .array .int
  | 45 => .array .int
  | 46 => .array .boolean
  | 47 => .boolean
  | 48 => .array .int
  | 49 => .int
  | 50 => .array .int
  | 51 => .array .int
  | 52 => .array .int
  | 53 => .array .int
  | 54 => .array .int
  | 55 => .array .boolean
  | 56 => .int
  | 57 => .array .int
  | 58 => .array .int
  | 59 => .int
  | 60 => .int
  | 61 => .int
  | 62 => .int
  | 63 => .int
  | 64 => .array .int
  | 65 => .int
  | 66 => .int
  | 67 => .int
  | 68 => .int
  | 69 => .int
  | 70 => .int
  | 71 => .array .int
  | 72 => .array .int
  | 73 => .array .int
  | 74 => .array .int
  | 75 => .int
  | 76 => .array .int
  | 77 => .array .int
  | 78 => .array .int
  | 79 => .array .long
  | 80 => .array .long
  | 81 => .array .int
  | 82 => .array .int
  | 83 => .boolean
  | 84 => .array .int
  | 85 => .int
  | 86 => .array .int
  | 87 => .array .int
  | 88 => .array .int
  | 89 => .array .int
  | 90 => .array .int
  | 91 => .array .int
  | 92 => .array .int
  | 93 => .array .int
  | 94 => .int
  | 95 => .array .int
  | 96 => .array .int
  | 97 => .int
  | 98 => .array .int
  | 99 => .array .int
  | 100 => .array .int
  | 101 => .int
  | 102 => .array .int
  | 103 => .array .int
  | 104 => .array .boolean
  | 105 => .array .int
  | 106 => .array .int
  | 107 => .array .long
  | 108 => .array .long
  | 109 => .array .int
  | 110 => .int
  | 111 => .array .int
  | 112 => .array .int
  | 113 => .array .int
  | 114 => .array .long
  | 115 => .int
  | 116 => .array .long
  | 117 => .array .long
  | 118 => .int
  | 119 => .boolean
  | 120 => .int
  | 121 => .int
  | 122 => .int
  | 123 => .array .int
  | 124 => .boolean
  | 125 => .array .int
  | 126 => .array .int
  | 127 => .array .int
  | 128 => .array .int
  | 129 => .array .int
  | 130 => .array .int
  | 131 => .int
  | 132 => .array .int
  | 133 => .array .int
  | 134 => .array .int
  | 135 => .array .int
  | 136 => .array .int
  | 137 => .array .int
  | 138 => .array .int
  | 139 => .int
  | 140 => .int
  | 141 => .array .int
  | 142 => .array .int
  | 143 => .array .int
  | 144 => .array .int
  | _ => .int
theorem nmX12 : ∀ a, a < 146 → ∀ b, b < 146 → a ≠ b → (TX12 a).2.1 ≠ (TX12 b).2.1 := by decide +kernel
theorem tyX12_ok : ∀ k, k < 146 → parseFieldDescriptor (TX12 k).2.2.1 = some (tyX12 k) := by decide +kernel
theorem wfX12 : ∀ k, k < 146 → u_lay RX12 TX12 k ∈ lg_tbl
  | 0, _ => tt_7 _ (List.mem_of_getElem? (i := 221) rfl) rfl
  | 1, _ => tt_7 _ (List.mem_of_getElem? (i := 223) rfl) rfl
  | 2, _ => tt_7 _ (List.mem_of_getElem? (i := 225) rfl) rfl
  | 3, _ => tt_7 _ (List.mem_of_getElem? (i := 227) rfl) rfl
  | 4, _ => tt_7 _ (List.mem_of_getElem? (i := 229) rfl) rfl
  | 5, _ => tt_7 _ (List.mem_of_getElem? (i := 231) rfl) rfl
  | 6, _ => tt_7 _ (List.mem_of_getElem? (i := 233) rfl) rfl
  | 7, _ => tt_7 _ (List.mem_of_getElem? (i := 235) rfl) rfl
  | 8, _ => tt_7 _ (List.mem_of_getElem? (i := 237) rfl) rfl
  | 9, _ => tt_7 _ (List.mem_of_getElem? (i := 239) rfl) rfl
  | 10, _ => tt_8 _ (List.mem_of_getElem? (i := 1) rfl) rfl
  | 11, _ => tt_8 _ (List.mem_of_getElem? (i := 3) rfl) rfl
  | 12, _ => tt_8 _ (List.mem_of_getElem? (i := 5) rfl) rfl
  | 13, _ => tt_8 _ (List.mem_of_getElem? (i := 7) rfl) rfl
  | 14, _ => tt_8 _ (List.mem_of_getElem? (i := 9) rfl) rfl
  | 15, _ => tt_8 _ (List.mem_of_getElem? (i := 11) rfl) rfl
  | 16, _ => tt_8 _ (List.mem_of_getElem? (i := 13) rfl) rfl
  | 17, _ => tt_8 _ (List.mem_of_getElem? (i := 15) rfl) rfl
  | 18, _ => tt_8 _ (List.mem_of_getElem? (i := 17) rfl) rfl
  | 19, _ => tt_8 _ (List.mem_of_getElem? (i := 19) rfl) rfl
  | 20, _ => tt_8 _ (List.mem_of_getElem? (i := 21) rfl) rfl
  | 21, _ => tt_8 _ (List.mem_of_getElem? (i := 23) rfl) rfl
  | 22, _ => tt_8 _ (List.mem_of_getElem? (i := 25) rfl) rfl
  | 23, _ => tt_8 _ (List.mem_of_getElem? (i := 27) rfl) rfl
  | 24, _ => tt_8 _ (List.mem_of_getElem? (i := 29) rfl) rfl
  | 25, _ => tt_8 _ (List.mem_of_getElem? (i := 31) rfl) rfl
  | 26, _ => tt_8 _ (List.mem_of_getElem? (i := 33) rfl) rfl
  | 27, _ => tt_8 _ (List.mem_of_getElem? (i := 35) rfl) rfl
  | 28, _ => tt_8 _ (List.mem_of_getElem? (i := 37) rfl) rfl
  | 29, _ => tt_8 _ (List.mem_of_getElem? (i := 39) rfl) rfl
  | 30, _ => tt_8 _ (List.mem_of_getElem? (i := 41) rfl) rfl
  | 31, _ => tt_8 _ (List.mem_of_getElem? (i := 43) rfl) rfl
  | 32, _ => tt_8 _ (List.mem_of_getElem? (i := 45) rfl) rfl
  | 33, _ => tt_8 _ (List.mem_of_getElem? (i := 47) rfl) rfl
  | 34, _ => tt_8 _ (List.mem_of_getElem? (i := 49) rfl) rfl
  | 35, _ => tt_8 _ (List.mem_of_getElem? (i := 51) rfl) rfl
  | 36, _ => tt_8 _ (List.mem_of_getElem? (i := 53) rfl) rfl
  | 37, _ => tt_8 _ (List.mem_of_getElem? (i := 55) rfl) rfl
  | 38, _ => tt_8 _ (List.mem_of_getElem? (i := 57) rfl) rfl
  | 39, _ => tt_8 _ (List.mem_of_getElem? (i := 59) rfl) rfl
  | 40, _ => tt_8 _ (List.mem_of_getElem? (i := 61) rfl) rfl
  | 41, _ => tt_8 _ (List.mem_of_getElem? (i := 63) rfl) rfl
  | 42, _ => tt_8 _ (List.mem_of_getElem? (i := 65) rfl) rfl
  | 43, _ => tt_8 _ (List.mem_of_getElem? (i := 67) rfl) rfl
  | 44, _ => tt_8 _ (List.mem_of_getElem? (i := 69) rfl) rfl
  | 45, _ => tt_8 _ (List.mem_of_getElem? (i := 71) rfl) rfl
  | 46, _ => tt_8 _ (List.mem_of_getElem? (i := 73) rfl) rfl
  | 47, _ => tt_8 _ (List.mem_of_getElem? (i := 75) rfl) rfl
  | 48, _ => tt_8 _ (List.mem_of_getElem? (i := 77) rfl) rfl
  | 49, _ => tt_8 _ (List.mem_of_getElem? (i := 79) rfl) rfl
  | 50, _ => tt_8 _ (List.mem_of_getElem? (i := 81) rfl) rfl
  | 51, _ => tt_8 _ (List.mem_of_getElem? (i := 83) rfl) rfl
  | 52, _ => tt_8 _ (List.mem_of_getElem? (i := 85) rfl) rfl
  | 53, _ => tt_8 _ (List.mem_of_getElem? (i := 87) rfl) rfl
  | 54, _ => tt_8 _ (List.mem_of_getElem? (i := 89) rfl) rfl
  | 55, _ => tt_8 _ (List.mem_of_getElem? (i := 91) rfl) rfl
  | 56, _ => tt_8 _ (List.mem_of_getElem? (i := 93) rfl) rfl
  | 57, _ => tt_8 _ (List.mem_of_getElem? (i := 95) rfl) rfl
  | 58, _ => tt_8 _ (List.mem_of_getElem? (i := 97) rfl) rfl
  | 59, _ => tt_8 _ (List.mem_of_getElem? (i := 99) rfl) rfl
  | 60, _ => tt_8 _ (List.mem_of_getElem? (i := 101) rfl) rfl
  | 61, _ => tt_8 _ (List.mem_of_getElem? (i := 103) rfl) rfl
  | 62, _ => tt_8 _ (List.mem_of_getElem? (i := 105) rfl) rfl
  | 63, _ => tt_8 _ (List.mem_of_getElem? (i := 107) rfl) rfl
  | 64, _ => tt_8 _ (List.mem_of_getElem? (i := 109) rfl) rfl
  | 65, _ => tt_8 _ (List.mem_of_getElem? (i := 111) rfl) rfl
  | 66, _ => tt_8 _ (List.mem_of_getElem? (i := 113) rfl) rfl
  | 67, _ => tt_8 _ (List.mem_of_getElem? (i := 115) rfl) rfl
  | 68, _ => tt_8 _ (List.mem_of_getElem? (i := 117) rfl) rfl
  | 69, _ => tt_8 _ (List.mem_of_getElem? (i := 119) rfl) rfl
  | 70, _ => tt_8 _ (List.mem_of_getElem? (i := 121) rfl) rfl
  | 71, _ => tt_8 _ (List.mem_of_getElem? (i := 123) rfl) rfl
  | 72, _ => tt_8 _ (List.mem_of_getElem? (i := 125) rfl) rfl
  | 73, _ => tt_8 _ (List.mem_of_getElem? (i := 127) rfl) rfl
  | 74, _ => tt_8 _ (List.mem_of_getElem? (i := 129) rfl) rfl
  | 75, _ => tt_8 _ (List.mem_of_getElem? (i := 131) rfl) rfl
  | 76, _ => tt_8 _ (List.mem_of_getElem? (i := 133) rfl) rfl
  | 77, _ => tt_8 _ (List.mem_of_getElem? (i := 135) rfl) rfl
  | 78, _ => tt_8 _ (List.mem_of_getElem? (i := 137) rfl) rfl
  | 79, _ => tt_8 _ (List.mem_of_getElem? (i := 139) rfl) rfl
  | 80, _ => tt_8 _ (List.mem_of_getElem? (i := 141) rfl) rfl
  | 81, _ => tt_8 _ (List.mem_of_getElem? (i := 143) rfl) rfl
  | 82, _ => tt_8 _ (List.mem_of_getElem? (i := 145) rfl) rfl
  | 83, _ => tt_8 _ (List.mem_of_getElem? (i := 147) rfl) rfl
  | 84, _ => tt_8 _ (List.mem_of_getElem? (i := 149) rfl) rfl
  | 85, _ => tt_8 _ (List.mem_of_getElem? (i := 151) rfl) rfl
  | 86, _ => tt_8 _ (List.mem_of_getElem? (i := 153) rfl) rfl
  | 87, _ => tt_8 _ (List.mem_of_getElem? (i := 155) rfl) rfl
  | 88, _ => tt_8 _ (List.mem_of_getElem? (i := 157) rfl) rfl
  | 89, _ => tt_8 _ (List.mem_of_getElem? (i := 159) rfl) rfl
  | 90, _ => tt_8 _ (List.mem_of_getElem? (i := 161) rfl) rfl
  | 91, _ => tt_8 _ (List.mem_of_getElem? (i := 163) rfl) rfl
  | 92, _ => tt_8 _ (List.mem_of_getElem? (i := 165) rfl) rfl
  | 93, _ => tt_8 _ (List.mem_of_getElem? (i := 167) rfl) rfl
  | 94, _ => tt_8 _ (List.mem_of_getElem? (i := 169) rfl) rfl
  | 95, _ => tt_8 _ (List.mem_of_getElem? (i := 171) rfl) rfl
  | 96, _ => tt_8 _ (List.mem_of_getElem? (i := 173) rfl) rfl
  | 97, _ => tt_8 _ (List.mem_of_getElem? (i := 175) rfl) rfl
  | 98, _ => tt_8 _ (List.mem_of_getElem? (i := 177) rfl) rfl
  | 99, _ => tt_8 _ (List.mem_of_getElem? (i := 179) rfl) rfl
  | 100, _ => tt_8 _ (List.mem_of_getElem? (i := 181) rfl) rfl
  | 101, _ => tt_8 _ (List.mem_of_getElem? (i := 183) rfl) rfl
  | 102, _ => tt_8 _ (List.mem_of_getElem? (i := 185) rfl) rfl
  | 103, _ => tt_8 _ (List.mem_of_getElem? (i := 187) rfl) rfl
  | 104, _ => tt_8 _ (List.mem_of_getElem? (i := 189) rfl) rfl
  | 105, _ => tt_8 _ (List.mem_of_getElem? (i := 191) rfl) rfl
  | 106, _ => tt_8 _ (List.mem_of_getElem? (i := 193) rfl) rfl
  | 107, _ => tt_8 _ (List.mem_of_getElem? (i := 195) rfl) rfl
  | 108, _ => tt_8 _ (List.mem_of_getElem? (i := 197) rfl) rfl
  | 109, _ => tt_8 _ (List.mem_of_getElem? (i := 199) rfl) rfl
  | 110, _ => tt_8 _ (List.mem_of_getElem? (i := 201) rfl) rfl
  | 111, _ => tt_8 _ (List.mem_of_getElem? (i := 203) rfl) rfl
  | 112, _ => tt_8 _ (List.mem_of_getElem? (i := 205) rfl) rfl
  | 113, _ => tt_8 _ (List.mem_of_getElem? (i := 207) rfl) rfl
  | 114, _ => tt_8 _ (List.mem_of_getElem? (i := 209) rfl) rfl
  | 115, _ => tt_8 _ (List.mem_of_getElem? (i := 211) rfl) rfl
  | 116, _ => tt_8 _ (List.mem_of_getElem? (i := 213) rfl) rfl
  | 117, _ => tt_8 _ (List.mem_of_getElem? (i := 215) rfl) rfl
  | 118, _ => tt_8 _ (List.mem_of_getElem? (i := 217) rfl) rfl
  | 119, _ => tt_8 _ (List.mem_of_getElem? (i := 219) rfl) rfl
  | 120, _ => tt_8 _ (List.mem_of_getElem? (i := 221) rfl) rfl
  | 121, _ => tt_8 _ (List.mem_of_getElem? (i := 223) rfl) rfl
  | 122, _ => tt_8 _ (List.mem_of_getElem? (i := 225) rfl) rfl
  | 123, _ => tt_8 _ (List.mem_of_getElem? (i := 227) rfl) rfl
  | 124, _ => tt_8 _ (List.mem_of_getElem? (i := 229) rfl) rfl
  | 125, _ => tt_8 _ (List.mem_of_getElem? (i := 231) rfl) rfl
  | 126, _ => tt_8 _ (List.mem_of_getElem? (i := 233) rfl) rfl
  | 127, _ => tt_8 _ (List.mem_of_getElem? (i := 235) rfl) rfl
  | 128, _ => tt_8 _ (List.mem_of_getElem? (i := 237) rfl) rfl
  | 129, _ => tt_8 _ (List.mem_of_getElem? (i := 239) rfl) rfl
  | 130, _ => tt_9 _ (List.mem_of_getElem? (i := 1) rfl) rfl
  | 131, _ => tt_9 _ (List.mem_of_getElem? (i := 3) rfl) rfl
  | 132, _ => tt_9 _ (List.mem_of_getElem? (i := 5) rfl) rfl
  | 133, _ => tt_9 _ (List.mem_of_getElem? (i := 7) rfl) rfl
  | 134, _ => tt_9 _ (List.mem_of_getElem? (i := 9) rfl) rfl
  | 135, _ => tt_9 _ (List.mem_of_getElem? (i := 11) rfl) rfl
  | 136, _ => tt_9 _ (List.mem_of_getElem? (i := 13) rfl) rfl
  | 137, _ => tt_9 _ (List.mem_of_getElem? (i := 15) rfl) rfl
  | 138, _ => tt_9 _ (List.mem_of_getElem? (i := 17) rfl) rfl
  | 139, _ => tt_9 _ (List.mem_of_getElem? (i := 19) rfl) rfl
  | 140, _ => tt_9 _ (List.mem_of_getElem? (i := 21) rfl) rfl
  | 141, _ => tt_9 _ (List.mem_of_getElem? (i := 23) rfl) rfl
  | 142, _ => tt_9 _ (List.mem_of_getElem? (i := 25) rfl) rfl
  | 143, _ => tt_9 _ (List.mem_of_getElem? (i := 27) rfl) rfl
  | 144, _ => tt_9 _ (List.mem_of_getElem? (i := 29) rfl) rfl
  | 145, _ => tt_9 _ (List.mem_of_getElem? (i := 31) rfl) rfl
  | n + 146, h => absurd h (by omega)
theorem wsX12_in : ∀ w ∈ u_ws RX12 TX12 146, w ∈ lg_tbl := fun w hw => by
  obtain ⟨k, hk, rfl⟩ := List.mem_map.mp hw
  exact wfX12 k (List.mem_range.mp hk)
abbrev vwCl : List vw_C := [(RX0, TX0, 19), (RX1, TX1, 16), (RX2, TX2, 7), (RX3, TX3, 9), (RX4, TX4, 8), (RX5, TX5, 7), (RX6, TX6, 13), (RX7, TX7, 15), (RX8, TX8, 11), (RX9, TX9, 11), (RX10, TX10, 5), (RX11, TX11, 17), (RX12, TX12, 146)]
end
section
theorem fF_H_18 : ip_F lg_tbl vwCl "ShareHouse" 18 11 0 (.int) true := ⟨RX11, TX11, 17, rfl, wsX11_in, by decide, rfl, tyX11_ok 0 (by decide), rfl, ⟨tyX11, tyX11_ok⟩, nmX11, Or.inl (tt_3 _ (List.mem_of_getElem? (i := 80) rfl) rfl)⟩
theorem fF_H_18p : ip_Fp lg_tbl vwCl "ShareHouse" 18 11 0 (.int) := ⟨TX11, 17, rfl, wsX11_in, by decide, rfl, tyX11_ok 0 (by decide), rfl, ⟨tyX11, tyX11_ok⟩, nmX11, tt_3 _ (List.mem_of_getElem? (i := 80) rfl) rfl⟩
theorem fF_H_22 : ip_F lg_tbl vwCl "ShareHouse" 22 11 1 (.int) true := ⟨RX11, TX11, 17, rfl, wsX11_in, by decide, rfl, tyX11_ok 1 (by decide), rfl, ⟨tyX11, tyX11_ok⟩, nmX11, Or.inl (tt_3 _ (List.mem_of_getElem? (i := 81) rfl) rfl)⟩
theorem fF_H_22p : ip_Fp lg_tbl vwCl "ShareHouse" 22 11 1 (.int) := ⟨TX11, 17, rfl, wsX11_in, by decide, rfl, tyX11_ok 1 (by decide), rfl, ⟨tyX11, tyX11_ok⟩, nmX11, tt_3 _ (List.mem_of_getElem? (i := 81) rfl) rfl⟩
theorem fF_H_25 : ip_F lg_tbl vwCl "ShareHouse" 25 11 2 (.array .byte) true := ⟨RX11, TX11, 17, rfl, wsX11_in, by decide, rfl, tyX11_ok 2 (by decide), rfl, ⟨tyX11, tyX11_ok⟩, nmX11, Or.inl (tt_3 _ (List.mem_of_getElem? (i := 82) rfl) rfl)⟩
theorem fF_H_25p : ip_Fp lg_tbl vwCl "ShareHouse" 25 11 2 (.array .byte) := ⟨TX11, 17, rfl, wsX11_in, by decide, rfl, tyX11_ok 2 (by decide), rfl, ⟨tyX11, tyX11_ok⟩, nmX11, tt_3 _ (List.mem_of_getElem? (i := 82) rfl) rfl⟩
theorem fF_H_29 : ip_F lg_tbl vwCl "ShareHouse" 29 11 3 (.array .byte) true := ⟨RX11, TX11, 17, rfl, wsX11_in, by decide, rfl, tyX11_ok 3 (by decide), rfl, ⟨tyX11, tyX11_ok⟩, nmX11, Or.inl (tt_3 _ (List.mem_of_getElem? (i := 83) rfl) rfl)⟩
theorem fF_H_29p : ip_Fp lg_tbl vwCl "ShareHouse" 29 11 3 (.array .byte) := ⟨TX11, 17, rfl, wsX11_in, by decide, rfl, tyX11_ok 3 (by decide), rfl, ⟨tyX11, tyX11_ok⟩, nmX11, tt_3 _ (List.mem_of_getElem? (i := 83) rfl) rfl⟩
theorem fF_H_35 : ip_F lg_tbl vwCl "ShareHouse" 35 11 5 (.object "ShareHouse$Code") true := ⟨RX11, TX11, 17, rfl, wsX11_in, by decide, rfl, tyX11_ok 5 (by decide), rfl, ⟨tyX11, tyX11_ok⟩, nmX11, Or.inl (tt_3 _ (List.mem_of_getElem? (i := 85) rfl) rfl)⟩
theorem fF_H_35p : ip_Fp lg_tbl vwCl "ShareHouse" 35 11 5 (.object "ShareHouse$Code") := ⟨TX11, 17, rfl, wsX11_in, by decide, rfl, tyX11_ok 5 (by decide), rfl, ⟨tyX11, tyX11_ok⟩, nmX11, tt_3 _ (List.mem_of_getElem? (i := 85) rfl) rfl⟩
theorem fF_H_44 : ip_F lg_tbl vwCl "ShareHouse" 44 11 6 (.object "ShareHouse$Names") true := ⟨RX11, TX11, 17, rfl, wsX11_in, by decide, rfl, tyX11_ok 6 (by decide), rfl, ⟨tyX11, tyX11_ok⟩, nmX11, Or.inl (tt_3 _ (List.mem_of_getElem? (i := 86) rfl) rfl)⟩
theorem fF_H_44p : ip_Fp lg_tbl vwCl "ShareHouse" 44 11 6 (.object "ShareHouse$Names") := ⟨TX11, 17, rfl, wsX11_in, by decide, rfl, tyX11_ok 6 (by decide), rfl, ⟨tyX11, tyX11_ok⟩, nmX11, tt_3 _ (List.mem_of_getElem? (i := 86) rfl) rfl⟩
theorem fF_H_53 : ip_F lg_tbl vwCl "ShareHouse" 53 11 7 (.object "ShareHouse$Inputs") true := ⟨RX11, TX11, 17, rfl, wsX11_in, by decide, rfl, tyX11_ok 7 (by decide), rfl, ⟨tyX11, tyX11_ok⟩, nmX11, Or.inl (tt_3 _ (List.mem_of_getElem? (i := 87) rfl) rfl)⟩
theorem fF_H_53p : ip_Fp lg_tbl vwCl "ShareHouse" 53 11 7 (.object "ShareHouse$Inputs") := ⟨TX11, 17, rfl, wsX11_in, by decide, rfl, tyX11_ok 7 (by decide), rfl, ⟨tyX11, tyX11_ok⟩, nmX11, tt_3 _ (List.mem_of_getElem? (i := 87) rfl) rfl⟩
theorem fF_H_60 : ip_F lg_tbl vwCl "ShareHouse" 60 11 8 (.object "ShareHouse$Circuit") true := ⟨RX11, TX11, 17, rfl, wsX11_in, by decide, rfl, tyX11_ok 8 (by decide), rfl, ⟨tyX11, tyX11_ok⟩, nmX11, Or.inl (tt_3 _ (List.mem_of_getElem? (i := 88) rfl) rfl)⟩
theorem fF_H_60p : ip_Fp lg_tbl vwCl "ShareHouse" 60 11 8 (.object "ShareHouse$Circuit") := ⟨TX11, 17, rfl, wsX11_in, by decide, rfl, tyX11_ok 8 (by decide), rfl, ⟨tyX11, tyX11_ok⟩, nmX11, tt_3 _ (List.mem_of_getElem? (i := 88) rfl) rfl⟩
theorem fF_H_69 : ip_F lg_tbl vwCl "ShareHouse" 69 11 9 (.object "ShareHouse$Reader") true := ⟨RX11, TX11, 17, rfl, wsX11_in, by decide, rfl, tyX11_ok 9 (by decide), rfl, ⟨tyX11, tyX11_ok⟩, nmX11, Or.inl (tt_3 _ (List.mem_of_getElem? (i := 89) rfl) rfl)⟩
theorem fF_H_69p : ip_Fp lg_tbl vwCl "ShareHouse" 69 11 9 (.object "ShareHouse$Reader") := ⟨TX11, 17, rfl, wsX11_in, by decide, rfl, tyX11_ok 9 (by decide), rfl, ⟨tyX11, tyX11_ok⟩, nmX11, tt_3 _ (List.mem_of_getElem? (i := 89) rfl) rfl⟩
theorem fF_H_78 : ip_F lg_tbl vwCl "ShareHouse" 78 11 10 (.object "ShareHouse$Sorts") true := ⟨RX11, TX11, 17, rfl, wsX11_in, by decide, rfl, tyX11_ok 10 (by decide), rfl, ⟨tyX11, tyX11_ok⟩, nmX11, Or.inl (tt_3 _ (List.mem_of_getElem? (i := 90) rfl) rfl)⟩
theorem fF_H_78p : ip_Fp lg_tbl vwCl "ShareHouse" 78 11 10 (.object "ShareHouse$Sorts") := ⟨TX11, 17, rfl, wsX11_in, by decide, rfl, tyX11_ok 10 (by decide), rfl, ⟨tyX11, tyX11_ok⟩, nmX11, tt_3 _ (List.mem_of_getElem? (i := 90) rfl) rfl⟩
theorem fF_H_87 : ip_F lg_tbl vwCl "ShareHouse" 87 11 11 (.object "ShareHouse$Builder") true := ⟨RX11, TX11, 17, rfl, wsX11_in, by decide, rfl, tyX11_ok 11 (by decide), rfl, ⟨tyX11, tyX11_ok⟩, nmX11, Or.inl (tt_3 _ (List.mem_of_getElem? (i := 91) rfl) rfl)⟩
theorem fF_H_87p : ip_Fp lg_tbl vwCl "ShareHouse" 87 11 11 (.object "ShareHouse$Builder") := ⟨TX11, 17, rfl, wsX11_in, by decide, rfl, tyX11_ok 11 (by decide), rfl, ⟨tyX11, tyX11_ok⟩, nmX11, tt_3 _ (List.mem_of_getElem? (i := 91) rfl) rfl⟩
theorem fF_H_94 : ip_F lg_tbl vwCl "ShareHouse" 94 11 12 (.object "ShareHouse$Dealer") true := ⟨RX11, TX11, 17, rfl, wsX11_in, by decide, rfl, tyX11_ok 12 (by decide), rfl, ⟨tyX11, tyX11_ok⟩, nmX11, Or.inl (tt_3 _ (List.mem_of_getElem? (i := 92) rfl) rfl)⟩
theorem fF_H_94p : ip_Fp lg_tbl vwCl "ShareHouse" 94 11 12 (.object "ShareHouse$Dealer") := ⟨TX11, 17, rfl, wsX11_in, by decide, rfl, tyX11_ok 12 (by decide), rfl, ⟨tyX11, tyX11_ok⟩, nmX11, tt_3 _ (List.mem_of_getElem? (i := 92) rfl) rfl⟩
theorem fF_H_103 : ip_F lg_tbl vwCl "ShareHouse" 103 11 13 (.object "ShareHouse$Post") true := ⟨RX11, TX11, 17, rfl, wsX11_in, by decide, rfl, tyX11_ok 13 (by decide), rfl, ⟨tyX11, tyX11_ok⟩, nmX11, Or.inl (tt_3 _ (List.mem_of_getElem? (i := 93) rfl) rfl)⟩
theorem fF_H_103p : ip_Fp lg_tbl vwCl "ShareHouse" 103 11 13 (.object "ShareHouse$Post") := ⟨TX11, 17, rfl, wsX11_in, by decide, rfl, tyX11_ok 13 (by decide), rfl, ⟨tyX11, tyX11_ok⟩, nmX11, tt_3 _ (List.mem_of_getElem? (i := 93) rfl) rfl⟩
theorem fF_H_111 : ip_F lg_tbl vwCl "ShareHouse" 111 11 4 (.int) false := ⟨RX11, TX11, 17, rfl, wsX11_in, by decide, rfl, tyX11_ok 4 (by decide), rfl, ⟨tyX11, tyX11_ok⟩, nmX11, Or.inl (tt_3 _ (List.mem_of_getElem? (i := 84) rfl) rfl)⟩
theorem fF_H_130 : ip_F lg_tbl vwCl "ShareHouse" 130 11 14 (.boolean) false := ⟨RX11, TX11, 17, rfl, wsX11_in, by decide, rfl, tyX11_ok 14 (by decide), rfl, ⟨tyX11, tyX11_ok⟩, nmX11, Or.inl (tt_3 _ (List.mem_of_getElem? (i := 94) rfl) rfl)⟩
theorem fF_H_134 : ip_F lg_tbl vwCl "ShareHouse" 134 11 15 (.boolean) false := ⟨RX11, TX11, 17, rfl, wsX11_in, by decide, rfl, tyX11_ok 15 (by decide), rfl, ⟨tyX11, tyX11_ok⟩, nmX11, Or.inl (tt_3 _ (List.mem_of_getElem? (i := 95) rfl) rfl)⟩
theorem fF_H_137 : ip_F lg_tbl vwCl "ShareHouse" 137 11 16 (.boolean) false := ⟨RX11, TX11, 17, rfl, wsX11_in, by decide, rfl, tyX11_ok 16 (by decide), rfl, ⟨tyX11, tyX11_ok⟩, nmX11, Or.inl (tt_3 _ (List.mem_of_getElem? (i := 96) rfl) rfl)⟩
theorem fF_H_149 : ip_F lg_tbl vwCl "ShareHouse" 149 2 5 (.int) false := ⟨RX2, TX2, 7, rfl, wsX2_in, by decide, rfl, tyX2_ok 5 (by decide), rfl, ⟨tyX2, tyX2_ok⟩, nmX2, Or.inl (tt_1 _ (List.mem_of_getElem? (i := 63) rfl) rfl)⟩
theorem fF_H_155 : ip_F lg_tbl vwCl "ShareHouse" 155 4 7 (.int) false := ⟨RX4, TX4, 8, rfl, wsX4_in, by decide, rfl, tyX4_ok 7 (by decide), rfl, ⟨tyX4, tyX4_ok⟩, nmX4, Or.inl (tt_1 _ (List.mem_of_getElem? (i := 174) rfl) rfl)⟩
theorem fF_H_169 : ip_F lg_tbl vwCl "ShareHouse" 169 2 6 (.int) false := ⟨RX2, TX2, 7, rfl, wsX2_in, by decide, rfl, tyX2_ok 6 (by decide), rfl, ⟨tyX2, tyX2_ok⟩, nmX2, Or.inl (tt_1 _ (List.mem_of_getElem? (i := 65) rfl) rfl)⟩
theorem fF_H_172 : ip_F lg_tbl vwCl "ShareHouse" 172 7 10 (.int) false := ⟨RX7, TX7, 15, rfl, wsX7_in, by decide, rfl, tyX7_ok 10 (by decide), rfl, ⟨tyX7, tyX7_ok⟩, nmX7, Or.inl (tt_3 _ (List.mem_of_getElem? (i := 42) rfl) rfl)⟩
theorem fF_H_175 : ip_F lg_tbl vwCl "ShareHouse" 175 7 11 (.int) false := ⟨RX7, TX7, 15, rfl, wsX7_in, by decide, rfl, tyX7_ok 11 (by decide), rfl, ⟨tyX7, tyX7_ok⟩, nmX7, Or.inl (tt_3 _ (List.mem_of_getElem? (i := 44) rfl) rfl)⟩
theorem fF_H_178 : ip_F lg_tbl vwCl "ShareHouse" 178 7 12 (.int) false := ⟨RX7, TX7, 15, rfl, wsX7_in, by decide, rfl, tyX7_ok 12 (by decide), rfl, ⟨tyX7, tyX7_ok⟩, nmX7, Or.inl (tt_3 _ (List.mem_of_getElem? (i := 46) rfl) rfl)⟩
theorem fF_H_181 : ip_F lg_tbl vwCl "ShareHouse" 181 3 2 (.int) false := ⟨RX3, TX3, 9, rfl, wsX3_in, by decide, rfl, tyX3_ok 2 (by decide), rfl, ⟨tyX3, tyX3_ok⟩, nmX3, Or.inl (tt_2 _ (List.mem_of_getElem? (i := 233) rfl) rfl)⟩
theorem fF_H_184 : ip_F lg_tbl vwCl "ShareHouse" 184 3 4 (.int) false := ⟨RX3, TX3, 9, rfl, wsX3_in, by decide, rfl, tyX3_ok 4 (by decide), rfl, ⟨tyX3, tyX3_ok⟩, nmX3, Or.inl (tt_2 _ (List.mem_of_getElem? (i := 236) rfl) rfl)⟩
theorem fF_H_187 : ip_F lg_tbl vwCl "ShareHouse" 187 1 4 (.int) false := ⟨RX1, TX1, 16, rfl, wsX1_in, by decide, rfl, tyX1_ok 4 (by decide), rfl, ⟨tyX1, tyX1_ok⟩, nmX1, Or.inl (tt_1 _ (List.mem_of_getElem? (i := 213) rfl) rfl)⟩
theorem fF_H_190 : ip_F lg_tbl vwCl "ShareHouse" 190 1 3 (.array .int) false := ⟨RX1, TX1, 16, rfl, wsX1_in, by decide, rfl, tyX1_ok 3 (by decide), rfl, ⟨tyX1, tyX1_ok⟩, nmX1, Or.inl (tt_1 _ (List.mem_of_getElem? (i := 209) rfl) rfl)⟩
theorem fF_H_194 : ip_F lg_tbl vwCl "ShareHouse" 194 1 2 (.array .int) false := ⟨RX1, TX1, 16, rfl, wsX1_in, by decide, rfl, tyX1_ok 2 (by decide), rfl, ⟨tyX1, tyX1_ok⟩, nmX1, Or.inl (tt_1 _ (List.mem_of_getElem? (i := 207) rfl) rfl)⟩
theorem fF_H_197 : ip_F lg_tbl vwCl "ShareHouse" 197 1 0 (.array .int) false := ⟨RX1, TX1, 16, rfl, wsX1_in, by decide, rfl, tyX1_ok 0 (by decide), rfl, ⟨tyX1, tyX1_ok⟩, nmX1, Or.inl (tt_1 _ (List.mem_of_getElem? (i := 199) rfl) rfl)⟩
theorem fF_H_200 : ip_F lg_tbl vwCl "ShareHouse" 200 1 1 (.array .int) false := ⟨RX1, TX1, 16, rfl, wsX1_in, by decide, rfl, tyX1_ok 1 (by decide), rfl, ⟨tyX1, tyX1_ok⟩, nmX1, Or.inl (tt_1 _ (List.mem_of_getElem? (i := 203) rfl) rfl)⟩
theorem fF_H_212 : ip_F lg_tbl vwCl "ShareHouse" 212 4 6 (.int) false := ⟨RX4, TX4, 8, rfl, wsX4_in, by decide, rfl, tyX4_ok 6 (by decide), rfl, ⟨tyX4, tyX4_ok⟩, nmX4, Or.inl (tt_1 _ (List.mem_of_getElem? (i := 171) rfl) rfl)⟩
theorem fF_H_217 : ip_F lg_tbl vwCl "ShareHouse" 217 4 0 (.array .int) true := ⟨RX4, TX4, 8, rfl, wsX4_in, by decide, rfl, tyX4_ok 0 (by decide), rfl, ⟨tyX4, tyX4_ok⟩, nmX4, Or.inl (tt_1 _ (List.mem_of_getElem? (i := 151) rfl) rfl)⟩
theorem fF_H_220 : ip_F lg_tbl vwCl "ShareHouse" 220 4 1 (.array .int) true := ⟨RX4, TX4, 8, rfl, wsX4_in, by decide, rfl, tyX4_ok 1 (by decide), rfl, ⟨tyX4, tyX4_ok⟩, nmX4, Or.inl (tt_1 _ (List.mem_of_getElem? (i := 154) rfl) rfl)⟩
theorem fF_H_223 : ip_F lg_tbl vwCl "ShareHouse" 223 4 3 (.array .int) true := ⟨RX4, TX4, 8, rfl, wsX4_in, by decide, rfl, tyX4_ok 3 (by decide), rfl, ⟨tyX4, tyX4_ok⟩, nmX4, Or.inl (tt_1 _ (List.mem_of_getElem? (i := 161) rfl) rfl)⟩
theorem fF_H_242 : ip_F lg_tbl vwCl "ShareHouse" 242 1 5 (.int) false := ⟨RX1, TX1, 16, rfl, wsX1_in, by decide, rfl, tyX1_ok 5 (by decide), rfl, ⟨tyX1, tyX1_ok⟩, nmX1, Or.inl (tt_1 _ (List.mem_of_getElem? (i := 217) rfl) rfl)⟩
theorem fF_H_261 : ip_F lg_tbl vwCl "ShareHouse" 261 7 9 (.array .int) true := ⟨RX7, TX7, 15, rfl, wsX7_in, by decide, rfl, tyX7_ok 9 (by decide), rfl, ⟨tyX7, tyX7_ok⟩, nmX7, Or.inl (tt_3 _ (List.mem_of_getElem? (i := 40) rfl) rfl)⟩
theorem fF_H_286 : ip_F lg_tbl vwCl "ShareHouse" 286 7 4 (.array .int) true := ⟨RX7, TX7, 15, rfl, wsX7_in, by decide, rfl, tyX7_ok 4 (by decide), rfl, ⟨tyX7, tyX7_ok⟩, nmX7, Or.inl (tt_3 _ (List.mem_of_getElem? (i := 33) rfl) rfl)⟩
theorem fF_H_289 : ip_F lg_tbl vwCl "ShareHouse" 289 7 5 (.array .int) true := ⟨RX7, TX7, 15, rfl, wsX7_in, by decide, rfl, tyX7_ok 5 (by decide), rfl, ⟨tyX7, tyX7_ok⟩, nmX7, Or.inl (tt_3 _ (List.mem_of_getElem? (i := 35) rfl) rfl)⟩
theorem fF_H_302 : ip_F lg_tbl vwCl "ShareHouse" 302 3 5 (.array .int) false := ⟨RX3, TX3, 9, rfl, wsX3_in, by decide, rfl, tyX3_ok 5 (by decide), rfl, ⟨tyX3, tyX3_ok⟩, nmX3, Or.inl (tt_2 _ (List.mem_of_getElem? (i := 239) rfl) rfl)⟩
theorem fF_H_324 : ip_F lg_tbl vwCl "ShareHouse" 324 1 6 (.int) false := ⟨RX1, TX1, 16, rfl, wsX1_in, by decide, rfl, tyX1_ok 6 (by decide), rfl, ⟨tyX1, tyX1_ok⟩, nmX1, Or.inl (tt_1 _ (List.mem_of_getElem? (i := 220) rfl) rfl)⟩
theorem fF_H_327 : ip_F lg_tbl vwCl "ShareHouse" 327 1 12 (.int) false := ⟨RX1, TX1, 16, rfl, wsX1_in, by decide, rfl, tyX1_ok 12 (by decide), rfl, ⟨tyX1, tyX1_ok⟩, nmX1, Or.inl (tt_1 _ (List.mem_of_getElem? (i := 228) rfl) rfl)⟩
theorem fF_H_330 : ip_F lg_tbl vwCl "ShareHouse" 330 0 18 (.int) false := ⟨RX0, TX0, 19, rfl, wsX0_in, by decide, rfl, tyX0_ok 18 (by decide), rfl, ⟨tyX0, tyX0_ok⟩, nmX0, Or.inl (tt_2 _ (List.mem_of_getElem? (i := 184) rfl) rfl)⟩
theorem fF_Builder_9 : ip_F lg_tbl vwCl "ShareHouse$Builder" 9 0 7 (.array .int) false := ⟨RX0, TX0, 19, rfl, wsX0_in, by decide, rfl, tyX0_ok 7 (by decide), rfl, ⟨tyX0, tyX0_ok⟩, nmX0, Or.inl (tt_2 _ (List.mem_of_getElem? (i := 172) rfl) rfl)⟩
theorem fF_Builder_15 : ip_F lg_tbl vwCl "ShareHouse$Builder" 15 0 9 (.array .int) false := ⟨RX0, TX0, 19, rfl, wsX0_in, by decide, rfl, tyX0_ok 9 (by decide), rfl, ⟨tyX0, tyX0_ok⟩, nmX0, Or.inl (tt_2 _ (List.mem_of_getElem? (i := 174) rfl) rfl)⟩
theorem fF_Builder_18 : ip_F lg_tbl vwCl "ShareHouse$Builder" 18 0 10 (.array .int) false := ⟨RX0, TX0, 19, rfl, wsX0_in, by decide, rfl, tyX0_ok 10 (by decide), rfl, ⟨tyX0, tyX0_ok⟩, nmX0, Or.inl (tt_2 _ (List.mem_of_getElem? (i := 175) rfl) rfl)⟩
theorem fF_Builder_21 : ip_F lg_tbl vwCl "ShareHouse$Builder" 21 0 11 (.array .int) false := ⟨RX0, TX0, 19, rfl, wsX0_in, by decide, rfl, tyX0_ok 11 (by decide), rfl, ⟨tyX0, tyX0_ok⟩, nmX0, Or.inl (tt_2 _ (List.mem_of_getElem? (i := 176) rfl) rfl)⟩
theorem fF_Builder_24 : ip_F lg_tbl vwCl "ShareHouse$Builder" 24 0 14 (.array .long) false := ⟨RX0, TX0, 19, rfl, wsX0_in, by decide, rfl, tyX0_ok 14 (by decide), rfl, ⟨tyX0, tyX0_ok⟩, nmX0, Or.inl (tt_2 _ (List.mem_of_getElem? (i := 179) rfl) rfl)⟩
theorem fF_Builder_28 : ip_F lg_tbl vwCl "ShareHouse$Builder" 28 0 15 (.array .long) false := ⟨RX0, TX0, 19, rfl, wsX0_in, by decide, rfl, tyX0_ok 15 (by decide), rfl, ⟨tyX0, tyX0_ok⟩, nmX0, Or.inl (tt_2 _ (List.mem_of_getElem? (i := 180) rfl) rfl)⟩
theorem fF_Builder_31 : ip_F lg_tbl vwCl "ShareHouse$Builder" 31 0 0 (.object "ShareHouse$Code") true := ⟨RX0, TX0, 19, rfl, wsX0_in, by decide, rfl, tyX0_ok 0 (by decide), rfl, ⟨tyX0, tyX0_ok⟩, nmX0, Or.inl (tt_2 _ (List.mem_of_getElem? (i := 165) rfl) rfl)⟩
theorem fF_Builder_31p : ip_Fp lg_tbl vwCl "ShareHouse$Builder" 31 0 0 (.object "ShareHouse$Code") := ⟨TX0, 19, rfl, wsX0_in, by decide, rfl, tyX0_ok 0 (by decide), rfl, ⟨tyX0, tyX0_ok⟩, nmX0, tt_2 _ (List.mem_of_getElem? (i := 165) rfl) rfl⟩
theorem fF_Builder_35 : ip_F lg_tbl vwCl "ShareHouse$Builder" 35 0 1 (.object "ShareHouse$Names") true := ⟨RX0, TX0, 19, rfl, wsX0_in, by decide, rfl, tyX0_ok 1 (by decide), rfl, ⟨tyX0, tyX0_ok⟩, nmX0, Or.inl (tt_2 _ (List.mem_of_getElem? (i := 166) rfl) rfl)⟩
theorem fF_Builder_35p : ip_Fp lg_tbl vwCl "ShareHouse$Builder" 35 0 1 (.object "ShareHouse$Names") := ⟨TX0, 19, rfl, wsX0_in, by decide, rfl, tyX0_ok 1 (by decide), rfl, ⟨tyX0, tyX0_ok⟩, nmX0, tt_2 _ (List.mem_of_getElem? (i := 166) rfl) rfl⟩
theorem fF_Builder_39 : ip_F lg_tbl vwCl "ShareHouse$Builder" 39 0 2 (.object "ShareHouse$Inputs") true := ⟨RX0, TX0, 19, rfl, wsX0_in, by decide, rfl, tyX0_ok 2 (by decide), rfl, ⟨tyX0, tyX0_ok⟩, nmX0, Or.inl (tt_2 _ (List.mem_of_getElem? (i := 167) rfl) rfl)⟩
theorem fF_Builder_39p : ip_Fp lg_tbl vwCl "ShareHouse$Builder" 39 0 2 (.object "ShareHouse$Inputs") := ⟨TX0, 19, rfl, wsX0_in, by decide, rfl, tyX0_ok 2 (by decide), rfl, ⟨tyX0, tyX0_ok⟩, nmX0, tt_2 _ (List.mem_of_getElem? (i := 167) rfl) rfl⟩
theorem fF_Builder_43 : ip_F lg_tbl vwCl "ShareHouse$Builder" 43 0 3 (.object "ShareHouse$Circuit") true := ⟨RX0, TX0, 19, rfl, wsX0_in, by decide, rfl, tyX0_ok 3 (by decide), rfl, ⟨tyX0, tyX0_ok⟩, nmX0, Or.inl (tt_2 _ (List.mem_of_getElem? (i := 168) rfl) rfl)⟩
theorem fF_Builder_43p : ip_Fp lg_tbl vwCl "ShareHouse$Builder" 43 0 3 (.object "ShareHouse$Circuit") := ⟨TX0, 19, rfl, wsX0_in, by decide, rfl, tyX0_ok 3 (by decide), rfl, ⟨tyX0, tyX0_ok⟩, nmX0, tt_2 _ (List.mem_of_getElem? (i := 168) rfl) rfl⟩
theorem fF_Builder_47 : ip_F lg_tbl vwCl "ShareHouse$Builder" 47 0 5 (.int) true := ⟨RX0, TX0, 19, rfl, wsX0_in, by decide, rfl, tyX0_ok 5 (by decide), rfl, ⟨tyX0, tyX0_ok⟩, nmX0, Or.inl (tt_2 _ (List.mem_of_getElem? (i := 170) rfl) rfl)⟩
theorem fF_Builder_47p : ip_Fp lg_tbl vwCl "ShareHouse$Builder" 47 0 5 (.int) := ⟨TX0, 19, rfl, wsX0_in, by decide, rfl, tyX0_ok 5 (by decide), rfl, ⟨tyX0, tyX0_ok⟩, nmX0, tt_2 _ (List.mem_of_getElem? (i := 170) rfl) rfl⟩
theorem fF_Builder_56 : ip_F lg_tbl vwCl "ShareHouse$Builder" 56 0 4 (.object "ShareHouse$Logic") true := ⟨RX0, TX0, 19, rfl, wsX0_in, by decide, rfl, tyX0_ok 4 (by decide), rfl, ⟨tyX0, tyX0_ok⟩, nmX0, Or.inl (tt_2 _ (List.mem_of_getElem? (i := 169) rfl) rfl)⟩
theorem fF_Builder_56p : ip_Fp lg_tbl vwCl "ShareHouse$Builder" 56 0 4 (.object "ShareHouse$Logic") := ⟨TX0, 19, rfl, wsX0_in, by decide, rfl, tyX0_ok 4 (by decide), rfl, ⟨tyX0, tyX0_ok⟩, nmX0, tt_2 _ (List.mem_of_getElem? (i := 169) rfl) rfl⟩
theorem fF_Builder_60 : ip_F lg_tbl vwCl "ShareHouse$Builder" 60 0 6 (.array .int) true := ⟨RX0, TX0, 19, rfl, wsX0_in, by decide, rfl, tyX0_ok 6 (by decide), rfl, ⟨tyX0, tyX0_ok⟩, nmX0, Or.inl (tt_2 _ (List.mem_of_getElem? (i := 171) rfl) rfl)⟩
theorem fF_Builder_60p : ip_Fp lg_tbl vwCl "ShareHouse$Builder" 60 0 6 (.array .int) := ⟨TX0, 19, rfl, wsX0_in, by decide, rfl, tyX0_ok 6 (by decide), rfl, ⟨tyX0, tyX0_ok⟩, nmX0, tt_2 _ (List.mem_of_getElem? (i := 171) rfl) rfl⟩
theorem fF_Builder_73 : ip_F lg_tbl vwCl "ShareHouse$Builder" 73 6 9 (.int) false := ⟨RX6, TX6, 13, rfl, wsX6_in, by decide, rfl, tyX6_ok 9 (by decide), rfl, ⟨tyX6, tyX6_ok⟩, nmX6, Or.inl (tt_1 _ (List.mem_of_getElem? (i := 111) rfl) rfl)⟩
theorem fF_Builder_78 : ip_F lg_tbl vwCl "ShareHouse$Builder" 78 0 8 (.int) false := ⟨RX0, TX0, 19, rfl, wsX0_in, by decide, rfl, tyX0_ok 8 (by decide), rfl, ⟨tyX0, tyX0_ok⟩, nmX0, Or.inl (tt_2 _ (List.mem_of_getElem? (i := 173) rfl) rfl)⟩
theorem fF_Builder_81 : ip_F lg_tbl vwCl "ShareHouse$Builder" 81 0 12 (.int) false := ⟨RX0, TX0, 19, rfl, wsX0_in, by decide, rfl, tyX0_ok 12 (by decide), rfl, ⟨tyX0, tyX0_ok⟩, nmX0, Or.inl (tt_2 _ (List.mem_of_getElem? (i := 177) rfl) rfl)⟩
theorem fF_Builder_84 : ip_F lg_tbl vwCl "ShareHouse$Builder" 84 0 13 (.int) false := ⟨RX0, TX0, 19, rfl, wsX0_in, by decide, rfl, tyX0_ok 13 (by decide), rfl, ⟨tyX0, tyX0_ok⟩, nmX0, Or.inl (tt_2 _ (List.mem_of_getElem? (i := 178) rfl) rfl)⟩
theorem fF_Builder_87 : ip_F lg_tbl vwCl "ShareHouse$Builder" 87 0 16 (.int) false := ⟨RX0, TX0, 19, rfl, wsX0_in, by decide, rfl, tyX0_ok 16 (by decide), rfl, ⟨tyX0, tyX0_ok⟩, nmX0, Or.inl (tt_2 _ (List.mem_of_getElem? (i := 181) rfl) rfl)⟩
theorem fF_Builder_90 : ip_F lg_tbl vwCl "ShareHouse$Builder" 90 0 18 (.int) false := ⟨RX0, TX0, 19, rfl, wsX0_in, by decide, rfl, tyX0_ok 18 (by decide), rfl, ⟨tyX0, tyX0_ok⟩, nmX0, Or.inl (tt_2 _ (List.mem_of_getElem? (i := 183) rfl) rfl)⟩
theorem fF_Builder_94 : ip_F lg_tbl vwCl "ShareHouse$Builder" 94 2 4 (.int) false := ⟨RX2, TX2, 7, rfl, wsX2_in, by decide, rfl, tyX2_ok 4 (by decide), rfl, ⟨tyX2, tyX2_ok⟩, nmX2, Or.inl (tt_1 _ (List.mem_of_getElem? (i := 57) rfl) rfl)⟩
theorem fF_Builder_99 : ip_F lg_tbl vwCl "ShareHouse$Builder" 99 2 5 (.int) false := ⟨RX2, TX2, 7, rfl, wsX2_in, by decide, rfl, tyX2_ok 5 (by decide), rfl, ⟨tyX2, tyX2_ok⟩, nmX2, Or.inl (tt_1 _ (List.mem_of_getElem? (i := 62) rfl) rfl)⟩
theorem fF_Builder_102 : ip_F lg_tbl vwCl "ShareHouse$Builder" 102 2 0 (.array .int) false := ⟨RX2, TX2, 7, rfl, wsX2_in, by decide, rfl, tyX2_ok 0 (by decide), rfl, ⟨tyX2, tyX2_ok⟩, nmX2, Or.inl (tt_1 _ (List.mem_of_getElem? (i := 44) rfl) rfl)⟩
theorem fF_Builder_118 : ip_F lg_tbl vwCl "ShareHouse$Builder" 118 1 7 (.boolean) false := ⟨RX1, TX1, 16, rfl, wsX1_in, by decide, rfl, tyX1_ok 7 (by decide), rfl, ⟨tyX1, tyX1_ok⟩, nmX1, Or.inl (tt_1 _ (List.mem_of_getElem? (i := 222) rfl) rfl)⟩
theorem fF_Builder_125 : ip_F lg_tbl vwCl "ShareHouse$Builder" 125 0 17 (.int) false := ⟨RX0, TX0, 19, rfl, wsX0_in, by decide, rfl, tyX0_ok 17 (by decide), rfl, ⟨tyX0, tyX0_ok⟩, nmX0, Or.inl (tt_2 _ (List.mem_of_getElem? (i := 182) rfl) rfl)⟩
theorem fF_Builder_131 : ip_F lg_tbl vwCl "ShareHouse$Builder" 131 2 1 (.array .int) false := ⟨RX2, TX2, 7, rfl, wsX2_in, by decide, rfl, tyX2_ok 1 (by decide), rfl, ⟨tyX2, tyX2_ok⟩, nmX2, Or.inl (tt_1 _ (List.mem_of_getElem? (i := 47) rfl) rfl)⟩
theorem fF_Builder_134 : ip_F lg_tbl vwCl "ShareHouse$Builder" 134 2 2 (.array .int) false := ⟨RX2, TX2, 7, rfl, wsX2_in, by decide, rfl, tyX2_ok 2 (by decide), rfl, ⟨tyX2, tyX2_ok⟩, nmX2, Or.inl (tt_1 _ (List.mem_of_getElem? (i := 49) rfl) rfl)⟩
theorem fF_Builder_137 : ip_F lg_tbl vwCl "ShareHouse$Builder" 137 2 3 (.array .int) false := ⟨RX2, TX2, 7, rfl, wsX2_in, by decide, rfl, tyX2_ok 3 (by decide), rfl, ⟨tyX2, tyX2_ok⟩, nmX2, Or.inl (tt_1 _ (List.mem_of_getElem? (i := 52) rfl) rfl)⟩
theorem fF_Builder_147 : ip_F lg_tbl vwCl "ShareHouse$Builder" 147 6 7 (.array .int) false := ⟨RX6, TX6, 13, rfl, wsX6_in, by decide, rfl, tyX6_ok 7 (by decide), rfl, ⟨tyX6, tyX6_ok⟩, nmX6, Or.inl (tt_1 _ (List.mem_of_getElem? (i := 103) rfl) rfl)⟩
theorem fF_Builder_266 : ip_F lg_tbl vwCl "ShareHouse$Builder" 266 6 6 (.array .int) false := ⟨RX6, TX6, 13, rfl, wsX6_in, by decide, rfl, tyX6_ok 6 (by decide), rfl, ⟨tyX6, tyX6_ok⟩, nmX6, Or.inl (tt_1 _ (List.mem_of_getElem? (i := 101) rfl) rfl)⟩
theorem fF_Builder_274 : ip_F lg_tbl vwCl "ShareHouse$Builder" 274 6 5 (.array .int) false := ⟨RX6, TX6, 13, rfl, wsX6_in, by decide, rfl, tyX6_ok 5 (by decide), rfl, ⟨tyX6, tyX6_ok⟩, nmX6, Or.inl (tt_1 _ (List.mem_of_getElem? (i := 99) rfl) rfl)⟩
theorem fF_Builder_286 : ip_F lg_tbl vwCl "ShareHouse$Builder" 286 6 4 (.array .int) false := ⟨RX6, TX6, 13, rfl, wsX6_in, by decide, rfl, tyX6_ok 4 (by decide), rfl, ⟨tyX6, tyX6_ok⟩, nmX6, Or.inl (tt_1 _ (List.mem_of_getElem? (i := 95) rfl) rfl)⟩
theorem fF_Builder_289 : ip_F lg_tbl vwCl "ShareHouse$Builder" 289 4 2 (.array .int) true := ⟨RX4, TX4, 8, rfl, wsX4_in, by decide, rfl, tyX4_ok 2 (by decide), rfl, ⟨tyX4, tyX4_ok⟩, nmX4, Or.inl (tt_1 _ (List.mem_of_getElem? (i := 159) rfl) rfl)⟩
theorem fF_Builder_301 : ip_F lg_tbl vwCl "ShareHouse$Builder" 301 6 8 (.array .int) false := ⟨RX6, TX6, 13, rfl, wsX6_in, by decide, rfl, tyX6_ok 8 (by decide), rfl, ⟨tyX6, tyX6_ok⟩, nmX6, Or.inl (tt_1 _ (List.mem_of_getElem? (i := 109) rfl) rfl)⟩
theorem fF_Circuit_9 : ip_F lg_tbl vwCl "ShareHouse$Circuit" 9 1 0 (.array .int) false := ⟨RX1, TX1, 16, rfl, wsX1_in, by decide, rfl, tyX1_ok 0 (by decide), rfl, ⟨tyX1, tyX1_ok⟩, nmX1, Or.inl (tt_1 _ (List.mem_of_getElem? (i := 198) rfl) rfl)⟩
theorem fF_Circuit_15 : ip_F lg_tbl vwCl "ShareHouse$Circuit" 15 1 1 (.array .int) false := ⟨RX1, TX1, 16, rfl, wsX1_in, by decide, rfl, tyX1_ok 1 (by decide), rfl, ⟨tyX1, tyX1_ok⟩, nmX1, Or.inl (tt_1 _ (List.mem_of_getElem? (i := 202) rfl) rfl)⟩
theorem fF_Circuit_18 : ip_F lg_tbl vwCl "ShareHouse$Circuit" 18 1 2 (.array .int) false := ⟨RX1, TX1, 16, rfl, wsX1_in, by decide, rfl, tyX1_ok 2 (by decide), rfl, ⟨tyX1, tyX1_ok⟩, nmX1, Or.inl (tt_1 _ (List.mem_of_getElem? (i := 206) rfl) rfl)⟩
theorem fF_Circuit_21 : ip_F lg_tbl vwCl "ShareHouse$Circuit" 21 1 3 (.array .int) false := ⟨RX1, TX1, 16, rfl, wsX1_in, by decide, rfl, tyX1_ok 3 (by decide), rfl, ⟨tyX1, tyX1_ok⟩, nmX1, Or.inl (tt_1 _ (List.mem_of_getElem? (i := 208) rfl) rfl)⟩
theorem fF_Circuit_24 : ip_F lg_tbl vwCl "ShareHouse$Circuit" 24 1 9 (.array .int) false := ⟨RX1, TX1, 16, rfl, wsX1_in, by decide, rfl, tyX1_ok 9 (by decide), rfl, ⟨tyX1, tyX1_ok⟩, nmX1, Or.inl (tt_1 _ (List.mem_of_getElem? (i := 224) rfl) rfl)⟩
theorem fF_Circuit_27 : ip_F lg_tbl vwCl "ShareHouse$Circuit" 27 1 10 (.array .int) false := ⟨RX1, TX1, 16, rfl, wsX1_in, by decide, rfl, tyX1_ok 10 (by decide), rfl, ⟨tyX1, tyX1_ok⟩, nmX1, Or.inl (tt_1 _ (List.mem_of_getElem? (i := 225) rfl) rfl)⟩
theorem fF_Circuit_30 : ip_F lg_tbl vwCl "ShareHouse$Circuit" 30 1 11 (.array .int) false := ⟨RX1, TX1, 16, rfl, wsX1_in, by decide, rfl, tyX1_ok 11 (by decide), rfl, ⟨tyX1, tyX1_ok⟩, nmX1, Or.inl (tt_1 _ (List.mem_of_getElem? (i := 226) rfl) rfl)⟩
theorem fF_Circuit_33 : ip_F lg_tbl vwCl "ShareHouse$Circuit" 33 1 13 (.array .int) false := ⟨RX1, TX1, 16, rfl, wsX1_in, by decide, rfl, tyX1_ok 13 (by decide), rfl, ⟨tyX1, tyX1_ok⟩, nmX1, Or.inl (tt_1 _ (List.mem_of_getElem? (i := 229) rfl) rfl)⟩
theorem fF_Circuit_36 : ip_F lg_tbl vwCl "ShareHouse$Circuit" 36 1 14 (.array .int) false := ⟨RX1, TX1, 16, rfl, wsX1_in, by decide, rfl, tyX1_ok 14 (by decide), rfl, ⟨tyX1, tyX1_ok⟩, nmX1, Or.inl (tt_1 _ (List.mem_of_getElem? (i := 230) rfl) rfl)⟩
theorem fF_Circuit_39 : ip_F lg_tbl vwCl "ShareHouse$Circuit" 39 1 15 (.array .int) false := ⟨RX1, TX1, 16, rfl, wsX1_in, by decide, rfl, tyX1_ok 15 (by decide), rfl, ⟨tyX1, tyX1_ok⟩, nmX1, Or.inl (tt_1 _ (List.mem_of_getElem? (i := 231) rfl) rfl)⟩
theorem fF_Circuit_47 : ip_F lg_tbl vwCl "ShareHouse$Circuit" 47 1 8 (.int) false := ⟨RX1, TX1, 16, rfl, wsX1_in, by decide, rfl, tyX1_ok 8 (by decide), rfl, ⟨tyX1, tyX1_ok⟩, nmX1, Or.inl (tt_1 _ (List.mem_of_getElem? (i := 223) rfl) rfl)⟩
theorem fF_Circuit_51 : ip_F lg_tbl vwCl "ShareHouse$Circuit" 51 1 4 (.int) false := ⟨RX1, TX1, 16, rfl, wsX1_in, by decide, rfl, tyX1_ok 4 (by decide), rfl, ⟨tyX1, tyX1_ok⟩, nmX1, Or.inl (tt_1 _ (List.mem_of_getElem? (i := 212) rfl) rfl)⟩
theorem fF_Circuit_54 : ip_F lg_tbl vwCl "ShareHouse$Circuit" 54 1 5 (.int) false := ⟨RX1, TX1, 16, rfl, wsX1_in, by decide, rfl, tyX1_ok 5 (by decide), rfl, ⟨tyX1, tyX1_ok⟩, nmX1, Or.inl (tt_1 _ (List.mem_of_getElem? (i := 215) rfl) rfl)⟩
theorem fF_Circuit_57 : ip_F lg_tbl vwCl "ShareHouse$Circuit" 57 1 6 (.int) false := ⟨RX1, TX1, 16, rfl, wsX1_in, by decide, rfl, tyX1_ok 6 (by decide), rfl, ⟨tyX1, tyX1_ok⟩, nmX1, Or.inl (tt_1 _ (List.mem_of_getElem? (i := 218) rfl) rfl)⟩
theorem fF_Circuit_60 : ip_F lg_tbl vwCl "ShareHouse$Circuit" 60 1 7 (.boolean) false := ⟨RX1, TX1, 16, rfl, wsX1_in, by decide, rfl, tyX1_ok 7 (by decide), rfl, ⟨tyX1, tyX1_ok⟩, nmX1, Or.inl (tt_1 _ (List.mem_of_getElem? (i := 221) rfl) rfl)⟩
theorem fF_Circuit_64 : ip_F lg_tbl vwCl "ShareHouse$Circuit" 64 1 12 (.int) false := ⟨RX1, TX1, 16, rfl, wsX1_in, by decide, rfl, tyX1_ok 12 (by decide), rfl, ⟨tyX1, tyX1_ok⟩, nmX1, Or.inl (tt_1 _ (List.mem_of_getElem? (i := 227) rfl) rfl)⟩
theorem fF_Circuit_97 : ip_F lg_tbl vwCl "ShareHouse$Circuit" 97 4 6 (.int) false := ⟨RX4, TX4, 8, rfl, wsX4_in, by decide, rfl, tyX4_ok 6 (by decide), rfl, ⟨tyX4, tyX4_ok⟩, nmX4, Or.inl (tt_1 _ (List.mem_of_getElem? (i := 172) rfl) rfl)⟩
theorem fF_Circuit_102 : ip_F lg_tbl vwCl "ShareHouse$Circuit" 102 4 4 (.array .int) true := ⟨RX4, TX4, 8, rfl, wsX4_in, by decide, rfl, tyX4_ok 4 (by decide), rfl, ⟨tyX4, tyX4_ok⟩, nmX4, Or.inl (tt_1 _ (List.mem_of_getElem? (i := 165) rfl) rfl)⟩
theorem fF_Circuit_105 : ip_F lg_tbl vwCl "ShareHouse$Circuit" 105 4 3 (.array .int) true := ⟨RX4, TX4, 8, rfl, wsX4_in, by decide, rfl, tyX4_ok 3 (by decide), rfl, ⟨tyX4, tyX4_ok⟩, nmX4, Or.inl (tt_1 _ (List.mem_of_getElem? (i := 162) rfl) rfl)⟩
theorem fF_Circuit_108 : ip_F lg_tbl vwCl "ShareHouse$Circuit" 108 4 1 (.array .int) true := ⟨RX4, TX4, 8, rfl, wsX4_in, by decide, rfl, tyX4_ok 1 (by decide), rfl, ⟨tyX4, tyX4_ok⟩, nmX4, Or.inl (tt_1 _ (List.mem_of_getElem? (i := 155) rfl) rfl)⟩
theorem fF_Circuit_111 : ip_F lg_tbl vwCl "ShareHouse$Circuit" 111 4 2 (.array .int) true := ⟨RX4, TX4, 8, rfl, wsX4_in, by decide, rfl, tyX4_ok 2 (by decide), rfl, ⟨tyX4, tyX4_ok⟩, nmX4, Or.inl (tt_1 _ (List.mem_of_getElem? (i := 158) rfl) rfl)⟩
theorem fF_Code_11 : ip_F lg_tbl vwCl "ShareHouse$Code" 11 2 0 (.array .int) false := ⟨RX2, TX2, 7, rfl, wsX2_in, by decide, rfl, tyX2_ok 0 (by decide), rfl, ⟨tyX2, tyX2_ok⟩, nmX2, Or.inl (tt_1 _ (List.mem_of_getElem? (i := 42) rfl) rfl)⟩
theorem fF_Code_15 : ip_F lg_tbl vwCl "ShareHouse$Code" 15 2 1 (.array .int) false := ⟨RX2, TX2, 7, rfl, wsX2_in, by decide, rfl, tyX2_ok 1 (by decide), rfl, ⟨tyX2, tyX2_ok⟩, nmX2, Or.inl (tt_1 _ (List.mem_of_getElem? (i := 45) rfl) rfl)⟩
theorem fF_Code_18 : ip_F lg_tbl vwCl "ShareHouse$Code" 18 2 2 (.array .int) false := ⟨RX2, TX2, 7, rfl, wsX2_in, by decide, rfl, tyX2_ok 2 (by decide), rfl, ⟨tyX2, tyX2_ok⟩, nmX2, Or.inl (tt_1 _ (List.mem_of_getElem? (i := 48) rfl) rfl)⟩
theorem fF_Code_21 : ip_F lg_tbl vwCl "ShareHouse$Code" 21 2 3 (.array .int) false := ⟨RX2, TX2, 7, rfl, wsX2_in, by decide, rfl, tyX2_ok 3 (by decide), rfl, ⟨tyX2, tyX2_ok⟩, nmX2, Or.inl (tt_1 _ (List.mem_of_getElem? (i := 51) rfl) rfl)⟩
theorem fF_Code_24 : ip_F lg_tbl vwCl "ShareHouse$Code" 24 2 6 (.int) false := ⟨RX2, TX2, 7, rfl, wsX2_in, by decide, rfl, tyX2_ok 6 (by decide), rfl, ⟨tyX2, tyX2_ok⟩, nmX2, Or.inl (tt_1 _ (List.mem_of_getElem? (i := 64) rfl) rfl)⟩
theorem fF_Code_28 : ip_F lg_tbl vwCl "ShareHouse$Code" 28 2 4 (.int) false := ⟨RX2, TX2, 7, rfl, wsX2_in, by decide, rfl, tyX2_ok 4 (by decide), rfl, ⟨tyX2, tyX2_ok⟩, nmX2, Or.inl (tt_1 _ (List.mem_of_getElem? (i := 55) rfl) rfl)⟩
theorem fF_Code_31 : ip_F lg_tbl vwCl "ShareHouse$Code" 31 2 5 (.int) false := ⟨RX2, TX2, 7, rfl, wsX2_in, by decide, rfl, tyX2_ok 5 (by decide), rfl, ⟨tyX2, tyX2_ok⟩, nmX2, Or.inl (tt_1 _ (List.mem_of_getElem? (i := 59) rfl) rfl)⟩
theorem fF_Dealer_9 : ip_F lg_tbl vwCl "ShareHouse$Dealer" 9 3 1 (.array .byte) true := ⟨RX3, TX3, 9, rfl, wsX3_in, by decide, rfl, tyX3_ok 1 (by decide), rfl, ⟨tyX3, tyX3_ok⟩, nmX3, Or.inl (tt_2 _ (List.mem_of_getElem? (i := 231) rfl) rfl)⟩
theorem fF_Dealer_9p : ip_Fp lg_tbl vwCl "ShareHouse$Dealer" 9 3 1 (.array .byte) := ⟨TX3, 9, rfl, wsX3_in, by decide, rfl, tyX3_ok 1 (by decide), rfl, ⟨tyX3, tyX3_ok⟩, nmX3, tt_2 _ (List.mem_of_getElem? (i := 231) rfl) rfl⟩
theorem fF_Dealer_15 : ip_F lg_tbl vwCl "ShareHouse$Dealer" 15 3 4 (.int) false := ⟨RX3, TX3, 9, rfl, wsX3_in, by decide, rfl, tyX3_ok 4 (by decide), rfl, ⟨tyX3, tyX3_ok⟩, nmX3, Or.inl (tt_2 _ (List.mem_of_getElem? (i := 235) rfl) rfl)⟩
theorem fF_Dealer_19 : ip_F lg_tbl vwCl "ShareHouse$Dealer" 19 3 5 (.array .int) false := ⟨RX3, TX3, 9, rfl, wsX3_in, by decide, rfl, tyX3_ok 5 (by decide), rfl, ⟨tyX3, tyX3_ok⟩, nmX3, Or.inl (tt_2 _ (List.mem_of_getElem? (i := 237) rfl) rfl)⟩
theorem fF_Dealer_23 : ip_F lg_tbl vwCl "ShareHouse$Dealer" 23 3 6 (.array .int) false := ⟨RX3, TX3, 9, rfl, wsX3_in, by decide, rfl, tyX3_ok 6 (by decide), rfl, ⟨tyX3, tyX3_ok⟩, nmX3, Or.inl (tt_3 _ (List.mem_of_getElem? (i := 0) rfl) rfl)⟩
theorem fF_Dealer_26 : ip_F lg_tbl vwCl "ShareHouse$Dealer" 26 3 7 (.array .int) false := ⟨RX3, TX3, 9, rfl, wsX3_in, by decide, rfl, tyX3_ok 7 (by decide), rfl, ⟨tyX3, tyX3_ok⟩, nmX3, Or.inl (tt_3 _ (List.mem_of_getElem? (i := 1) rfl) rfl)⟩
theorem fF_Dealer_29 : ip_F lg_tbl vwCl "ShareHouse$Dealer" 29 3 8 (.array .int) false := ⟨RX3, TX3, 9, rfl, wsX3_in, by decide, rfl, tyX3_ok 8 (by decide), rfl, ⟨tyX3, tyX3_ok⟩, nmX3, Or.inl (tt_3 _ (List.mem_of_getElem? (i := 2) rfl) rfl)⟩
theorem fF_Dealer_32 : ip_F lg_tbl vwCl "ShareHouse$Dealer" 32 3 0 (.int) true := ⟨RX3, TX3, 9, rfl, wsX3_in, by decide, rfl, tyX3_ok 0 (by decide), rfl, ⟨tyX3, tyX3_ok⟩, nmX3, Or.inl (tt_2 _ (List.mem_of_getElem? (i := 230) rfl) rfl)⟩
theorem fF_Dealer_32p : ip_Fp lg_tbl vwCl "ShareHouse$Dealer" 32 3 0 (.int) := ⟨TX3, 9, rfl, wsX3_in, by decide, rfl, tyX3_ok 0 (by decide), rfl, ⟨tyX3, tyX3_ok⟩, nmX3, tt_2 _ (List.mem_of_getElem? (i := 230) rfl) rfl⟩
theorem fF_Dealer_35 : ip_F lg_tbl vwCl "ShareHouse$Dealer" 35 3 2 (.int) false := ⟨RX3, TX3, 9, rfl, wsX3_in, by decide, rfl, tyX3_ok 2 (by decide), rfl, ⟨tyX3, tyX3_ok⟩, nmX3, Or.inl (tt_2 _ (List.mem_of_getElem? (i := 232) rfl) rfl)⟩
theorem fF_Dealer_38 : ip_F lg_tbl vwCl "ShareHouse$Dealer" 38 3 3 (.int) false := ⟨RX3, TX3, 9, rfl, wsX3_in, by decide, rfl, tyX3_ok 3 (by decide), rfl, ⟨tyX3, tyX3_ok⟩, nmX3, Or.inl (tt_2 _ (List.mem_of_getElem? (i := 234) rfl) rfl)⟩
theorem fF_Dealer_56 : ip_F lg_tbl vwCl "ShareHouse$Dealer" 56 4 6 (.int) false := ⟨RX4, TX4, 8, rfl, wsX4_in, by decide, rfl, tyX4_ok 6 (by decide), rfl, ⟨tyX4, tyX4_ok⟩, nmX4, Or.inl (tt_1 _ (List.mem_of_getElem? (i := 170) rfl) rfl)⟩
theorem fF_Dealer_61 : ip_F lg_tbl vwCl "ShareHouse$Dealer" 61 4 0 (.array .int) true := ⟨RX4, TX4, 8, rfl, wsX4_in, by decide, rfl, tyX4_ok 0 (by decide), rfl, ⟨tyX4, tyX4_ok⟩, nmX4, Or.inl (tt_1 _ (List.mem_of_getElem? (i := 150) rfl) rfl)⟩
theorem fF_Dealer_64 : ip_F lg_tbl vwCl "ShareHouse$Dealer" 64 4 1 (.array .int) true := ⟨RX4, TX4, 8, rfl, wsX4_in, by decide, rfl, tyX4_ok 1 (by decide), rfl, ⟨tyX4, tyX4_ok⟩, nmX4, Or.inl (tt_1 _ (List.mem_of_getElem? (i := 153) rfl) rfl)⟩
theorem fF_Dealer_74 : ip_F lg_tbl vwCl "ShareHouse$Dealer" 74 4 4 (.array .int) true := ⟨RX4, TX4, 8, rfl, wsX4_in, by decide, rfl, tyX4_ok 4 (by decide), rfl, ⟨tyX4, tyX4_ok⟩, nmX4, Or.inl (tt_1 _ (List.mem_of_getElem? (i := 164) rfl) rfl)⟩
theorem fF_Dealer_77 : ip_F lg_tbl vwCl "ShareHouse$Dealer" 77 4 2 (.array .int) true := ⟨RX4, TX4, 8, rfl, wsX4_in, by decide, rfl, tyX4_ok 2 (by decide), rfl, ⟨tyX4, tyX4_ok⟩, nmX4, Or.inl (tt_1 _ (List.mem_of_getElem? (i := 157) rfl) rfl)⟩
theorem fF_Dealer_85 : ip_F lg_tbl vwCl "ShareHouse$Dealer" 85 1 4 (.int) false := ⟨RX1, TX1, 16, rfl, wsX1_in, by decide, rfl, tyX1_ok 4 (by decide), rfl, ⟨tyX1, tyX1_ok⟩, nmX1, Or.inl (tt_1 _ (List.mem_of_getElem? (i := 214) rfl) rfl)⟩
theorem fF_Dealer_88 : ip_F lg_tbl vwCl "ShareHouse$Dealer" 88 1 0 (.array .int) false := ⟨RX1, TX1, 16, rfl, wsX1_in, by decide, rfl, tyX1_ok 0 (by decide), rfl, ⟨tyX1, tyX1_ok⟩, nmX1, Or.inl (tt_1 _ (List.mem_of_getElem? (i := 200) rfl) rfl)⟩
theorem fF_Dealer_94 : ip_F lg_tbl vwCl "ShareHouse$Dealer" 94 1 1 (.array .int) false := ⟨RX1, TX1, 16, rfl, wsX1_in, by decide, rfl, tyX1_ok 1 (by decide), rfl, ⟨tyX1, tyX1_ok⟩, nmX1, Or.inl (tt_1 _ (List.mem_of_getElem? (i := 204) rfl) rfl)⟩
theorem fF_Dealer_97 : ip_F lg_tbl vwCl "ShareHouse$Dealer" 97 1 3 (.array .int) false := ⟨RX1, TX1, 16, rfl, wsX1_in, by decide, rfl, tyX1_ok 3 (by decide), rfl, ⟨tyX1, tyX1_ok⟩, nmX1, Or.inl (tt_1 _ (List.mem_of_getElem? (i := 210) rfl) rfl)⟩
theorem fF_Inputs_9 : ip_F lg_tbl vwCl "ShareHouse$Inputs" 9 4 0 (.array .int) true := ⟨RX4, TX4, 8, rfl, wsX4_in, by decide, rfl, tyX4_ok 0 (by decide), rfl, ⟨tyX4, tyX4_ok⟩, nmX4, Or.inl (tt_1 _ (List.mem_of_getElem? (i := 149) rfl) rfl)⟩
theorem fF_Inputs_9p : ip_Fp lg_tbl vwCl "ShareHouse$Inputs" 9 4 0 (.array .int) := ⟨TX4, 8, rfl, wsX4_in, by decide, rfl, tyX4_ok 0 (by decide), rfl, ⟨tyX4, tyX4_ok⟩, nmX4, tt_1 _ (List.mem_of_getElem? (i := 149) rfl) rfl⟩
theorem fF_Inputs_15 : ip_F lg_tbl vwCl "ShareHouse$Inputs" 15 4 1 (.array .int) true := ⟨RX4, TX4, 8, rfl, wsX4_in, by decide, rfl, tyX4_ok 1 (by decide), rfl, ⟨tyX4, tyX4_ok⟩, nmX4, Or.inl (tt_1 _ (List.mem_of_getElem? (i := 152) rfl) rfl)⟩
theorem fF_Inputs_15p : ip_Fp lg_tbl vwCl "ShareHouse$Inputs" 15 4 1 (.array .int) := ⟨TX4, 8, rfl, wsX4_in, by decide, rfl, tyX4_ok 1 (by decide), rfl, ⟨tyX4, tyX4_ok⟩, nmX4, tt_1 _ (List.mem_of_getElem? (i := 152) rfl) rfl⟩
theorem fF_Inputs_18 : ip_F lg_tbl vwCl "ShareHouse$Inputs" 18 4 2 (.array .int) true := ⟨RX4, TX4, 8, rfl, wsX4_in, by decide, rfl, tyX4_ok 2 (by decide), rfl, ⟨tyX4, tyX4_ok⟩, nmX4, Or.inl (tt_1 _ (List.mem_of_getElem? (i := 156) rfl) rfl)⟩
theorem fF_Inputs_18p : ip_Fp lg_tbl vwCl "ShareHouse$Inputs" 18 4 2 (.array .int) := ⟨TX4, 8, rfl, wsX4_in, by decide, rfl, tyX4_ok 2 (by decide), rfl, ⟨tyX4, tyX4_ok⟩, nmX4, tt_1 _ (List.mem_of_getElem? (i := 156) rfl) rfl⟩
theorem fF_Inputs_21 : ip_F lg_tbl vwCl "ShareHouse$Inputs" 21 4 3 (.array .int) true := ⟨RX4, TX4, 8, rfl, wsX4_in, by decide, rfl, tyX4_ok 3 (by decide), rfl, ⟨tyX4, tyX4_ok⟩, nmX4, Or.inl (tt_1 _ (List.mem_of_getElem? (i := 160) rfl) rfl)⟩
theorem fF_Inputs_21p : ip_Fp lg_tbl vwCl "ShareHouse$Inputs" 21 4 3 (.array .int) := ⟨TX4, 8, rfl, wsX4_in, by decide, rfl, tyX4_ok 3 (by decide), rfl, ⟨tyX4, tyX4_ok⟩, nmX4, tt_1 _ (List.mem_of_getElem? (i := 160) rfl) rfl⟩
theorem fF_Inputs_24 : ip_F lg_tbl vwCl "ShareHouse$Inputs" 24 4 4 (.array .int) true := ⟨RX4, TX4, 8, rfl, wsX4_in, by decide, rfl, tyX4_ok 4 (by decide), rfl, ⟨tyX4, tyX4_ok⟩, nmX4, Or.inl (tt_1 _ (List.mem_of_getElem? (i := 163) rfl) rfl)⟩
theorem fF_Inputs_24p : ip_Fp lg_tbl vwCl "ShareHouse$Inputs" 24 4 4 (.array .int) := ⟨TX4, 8, rfl, wsX4_in, by decide, rfl, tyX4_ok 4 (by decide), rfl, ⟨tyX4, tyX4_ok⟩, nmX4, tt_1 _ (List.mem_of_getElem? (i := 163) rfl) rfl⟩
theorem fF_Inputs_27 : ip_F lg_tbl vwCl "ShareHouse$Inputs" 27 4 5 (.array .int) true := ⟨RX4, TX4, 8, rfl, wsX4_in, by decide, rfl, tyX4_ok 5 (by decide), rfl, ⟨tyX4, tyX4_ok⟩, nmX4, Or.inl (tt_1 _ (List.mem_of_getElem? (i := 166) rfl) rfl)⟩
theorem fF_Inputs_27p : ip_Fp lg_tbl vwCl "ShareHouse$Inputs" 27 4 5 (.array .int) := ⟨TX4, 8, rfl, wsX4_in, by decide, rfl, tyX4_ok 5 (by decide), rfl, ⟨tyX4, tyX4_ok⟩, nmX4, tt_1 _ (List.mem_of_getElem? (i := 166) rfl) rfl⟩
theorem fF_Inputs_30 : ip_F lg_tbl vwCl "ShareHouse$Inputs" 30 4 6 (.int) false := ⟨RX4, TX4, 8, rfl, wsX4_in, by decide, rfl, tyX4_ok 6 (by decide), rfl, ⟨tyX4, tyX4_ok⟩, nmX4, Or.inl (tt_1 _ (List.mem_of_getElem? (i := 168) rfl) rfl)⟩
theorem fF_Inputs_34 : ip_F lg_tbl vwCl "ShareHouse$Inputs" 34 4 7 (.int) false := ⟨RX4, TX4, 8, rfl, wsX4_in, by decide, rfl, tyX4_ok 7 (by decide), rfl, ⟨tyX4, tyX4_ok⟩, nmX4, Or.inl (tt_1 _ (List.mem_of_getElem? (i := 173) rfl) rfl)⟩
theorem fF_Logic_9 : ip_F lg_tbl vwCl "ShareHouse$Logic" 9 5 0 (.object "ShareHouse$Circuit") true := ⟨RX5, TX5, 7, rfl, wsX5_in, by decide, rfl, tyX5_ok 0 (by decide), rfl, ⟨tyX5, tyX5_ok⟩, nmX5, Or.inl (tt_2 _ (List.mem_of_getElem? (i := 142) rfl) rfl)⟩
theorem fF_Logic_9p : ip_Fp lg_tbl vwCl "ShareHouse$Logic" 9 5 0 (.object "ShareHouse$Circuit") := ⟨TX5, 7, rfl, wsX5_in, by decide, rfl, tyX5_ok 0 (by decide), rfl, ⟨tyX5, tyX5_ok⟩, nmX5, tt_2 _ (List.mem_of_getElem? (i := 142) rfl) rfl⟩
theorem fF_Logic_15 : ip_F lg_tbl vwCl "ShareHouse$Logic" 15 5 1 (.int) true := ⟨RX5, TX5, 7, rfl, wsX5_in, by decide, rfl, tyX5_ok 1 (by decide), rfl, ⟨tyX5, tyX5_ok⟩, nmX5, Or.inl (tt_2 _ (List.mem_of_getElem? (i := 143) rfl) rfl)⟩
theorem fF_Logic_15p : ip_Fp lg_tbl vwCl "ShareHouse$Logic" 15 5 1 (.int) := ⟨TX5, 7, rfl, wsX5_in, by decide, rfl, tyX5_ok 1 (by decide), rfl, ⟨tyX5, tyX5_ok⟩, nmX5, tt_2 _ (List.mem_of_getElem? (i := 143) rfl) rfl⟩
theorem fF_Logic_19 : ip_F lg_tbl vwCl "ShareHouse$Logic" 19 5 2 (.array .int) true := ⟨RX5, TX5, 7, rfl, wsX5_in, by decide, rfl, tyX5_ok 2 (by decide), rfl, ⟨tyX5, tyX5_ok⟩, nmX5, Or.inl (tt_2 _ (List.mem_of_getElem? (i := 144) rfl) rfl)⟩
theorem fF_Logic_19p : ip_Fp lg_tbl vwCl "ShareHouse$Logic" 19 5 2 (.array .int) := ⟨TX5, 7, rfl, wsX5_in, by decide, rfl, tyX5_ok 2 (by decide), rfl, ⟨tyX5, tyX5_ok⟩, nmX5, tt_2 _ (List.mem_of_getElem? (i := 144) rfl) rfl⟩
theorem fF_Logic_23 : ip_F lg_tbl vwCl "ShareHouse$Logic" 23 5 3 (.array .int) true := ⟨RX5, TX5, 7, rfl, wsX5_in, by decide, rfl, tyX5_ok 3 (by decide), rfl, ⟨tyX5, tyX5_ok⟩, nmX5, Or.inl (tt_2 _ (List.mem_of_getElem? (i := 145) rfl) rfl)⟩
theorem fF_Logic_23p : ip_Fp lg_tbl vwCl "ShareHouse$Logic" 23 5 3 (.array .int) := ⟨TX5, 7, rfl, wsX5_in, by decide, rfl, tyX5_ok 3 (by decide), rfl, ⟨tyX5, tyX5_ok⟩, nmX5, tt_2 _ (List.mem_of_getElem? (i := 145) rfl) rfl⟩
theorem fF_Logic_26 : ip_F lg_tbl vwCl "ShareHouse$Logic" 26 5 4 (.array .int) true := ⟨RX5, TX5, 7, rfl, wsX5_in, by decide, rfl, tyX5_ok 4 (by decide), rfl, ⟨tyX5, tyX5_ok⟩, nmX5, Or.inl (tt_2 _ (List.mem_of_getElem? (i := 146) rfl) rfl)⟩
theorem fF_Logic_26p : ip_Fp lg_tbl vwCl "ShareHouse$Logic" 26 5 4 (.array .int) := ⟨TX5, 7, rfl, wsX5_in, by decide, rfl, tyX5_ok 4 (by decide), rfl, ⟨tyX5, tyX5_ok⟩, nmX5, tt_2 _ (List.mem_of_getElem? (i := 146) rfl) rfl⟩
theorem fF_Logic_29 : ip_F lg_tbl vwCl "ShareHouse$Logic" 29 5 5 (.array .int) true := ⟨RX5, TX5, 7, rfl, wsX5_in, by decide, rfl, tyX5_ok 5 (by decide), rfl, ⟨tyX5, tyX5_ok⟩, nmX5, Or.inl (tt_2 _ (List.mem_of_getElem? (i := 147) rfl) rfl)⟩
theorem fF_Logic_29p : ip_Fp lg_tbl vwCl "ShareHouse$Logic" 29 5 5 (.array .int) := ⟨TX5, 7, rfl, wsX5_in, by decide, rfl, tyX5_ok 5 (by decide), rfl, ⟨tyX5, tyX5_ok⟩, nmX5, tt_2 _ (List.mem_of_getElem? (i := 147) rfl) rfl⟩
theorem fF_Logic_32 : ip_F lg_tbl vwCl "ShareHouse$Logic" 32 5 6 (.array .int) true := ⟨RX5, TX5, 7, rfl, wsX5_in, by decide, rfl, tyX5_ok 6 (by decide), rfl, ⟨tyX5, tyX5_ok⟩, nmX5, Or.inl (tt_2 _ (List.mem_of_getElem? (i := 148) rfl) rfl)⟩
theorem fF_Logic_32p : ip_Fp lg_tbl vwCl "ShareHouse$Logic" 32 5 6 (.array .int) := ⟨TX5, 7, rfl, wsX5_in, by decide, rfl, tyX5_ok 6 (by decide), rfl, ⟨tyX5, tyX5_ok⟩, nmX5, tt_2 _ (List.mem_of_getElem? (i := 148) rfl) rfl⟩
theorem fF_Names_9 : ip_F lg_tbl vwCl "ShareHouse$Names" 9 6 2 (.array .int) false := ⟨RX6, TX6, 13, rfl, wsX6_in, by decide, rfl, tyX6_ok 2 (by decide), rfl, ⟨tyX6, tyX6_ok⟩, nmX6, Or.inl (tt_1 _ (List.mem_of_getElem? (i := 91) rfl) rfl)⟩
theorem fF_Names_15 : ip_F lg_tbl vwCl "ShareHouse$Names" 15 6 3 (.array .int) false := ⟨RX6, TX6, 13, rfl, wsX6_in, by decide, rfl, tyX6_ok 3 (by decide), rfl, ⟨tyX6, tyX6_ok⟩, nmX6, Or.inl (tt_1 _ (List.mem_of_getElem? (i := 92) rfl) rfl)⟩
theorem fF_Names_18 : ip_F lg_tbl vwCl "ShareHouse$Names" 18 6 4 (.array .int) false := ⟨RX6, TX6, 13, rfl, wsX6_in, by decide, rfl, tyX6_ok 4 (by decide), rfl, ⟨tyX6, tyX6_ok⟩, nmX6, Or.inl (tt_1 _ (List.mem_of_getElem? (i := 93) rfl) rfl)⟩
theorem fF_Names_21 : ip_F lg_tbl vwCl "ShareHouse$Names" 21 6 5 (.array .int) false := ⟨RX6, TX6, 13, rfl, wsX6_in, by decide, rfl, tyX6_ok 5 (by decide), rfl, ⟨tyX6, tyX6_ok⟩, nmX6, Or.inl (tt_1 _ (List.mem_of_getElem? (i := 96) rfl) rfl)⟩
theorem fF_Names_24 : ip_F lg_tbl vwCl "ShareHouse$Names" 24 6 6 (.array .int) false := ⟨RX6, TX6, 13, rfl, wsX6_in, by decide, rfl, tyX6_ok 6 (by decide), rfl, ⟨tyX6, tyX6_ok⟩, nmX6, Or.inl (tt_1 _ (List.mem_of_getElem? (i := 100) rfl) rfl)⟩
theorem fF_Names_27 : ip_F lg_tbl vwCl "ShareHouse$Names" 27 6 7 (.array .int) false := ⟨RX6, TX6, 13, rfl, wsX6_in, by decide, rfl, tyX6_ok 7 (by decide), rfl, ⟨tyX6, tyX6_ok⟩, nmX6, Or.inl (tt_1 _ (List.mem_of_getElem? (i := 102) rfl) rfl)⟩
theorem fF_Names_30 : ip_F lg_tbl vwCl "ShareHouse$Names" 30 6 8 (.array .int) false := ⟨RX6, TX6, 13, rfl, wsX6_in, by decide, rfl, tyX6_ok 8 (by decide), rfl, ⟨tyX6, tyX6_ok⟩, nmX6, Or.inl (tt_1 _ (List.mem_of_getElem? (i := 106) rfl) rfl)⟩
theorem fF_Names_33 : ip_F lg_tbl vwCl "ShareHouse$Names" 33 6 10 (.array .int) false := ⟨RX6, TX6, 13, rfl, wsX6_in, by decide, rfl, tyX6_ok 10 (by decide), rfl, ⟨tyX6, tyX6_ok⟩, nmX6, Or.inl (tt_1 _ (List.mem_of_getElem? (i := 112) rfl) rfl)⟩
theorem fF_Names_36 : ip_F lg_tbl vwCl "ShareHouse$Names" 36 6 0 (.array .byte) true := ⟨RX6, TX6, 13, rfl, wsX6_in, by decide, rfl, tyX6_ok 0 (by decide), rfl, ⟨tyX6, tyX6_ok⟩, nmX6, Or.inl (tt_1 _ (List.mem_of_getElem? (i := 89) rfl) rfl)⟩
theorem fF_Names_36p : ip_Fp lg_tbl vwCl "ShareHouse$Names" 36 6 0 (.array .byte) := ⟨TX6, 13, rfl, wsX6_in, by decide, rfl, tyX6_ok 0 (by decide), rfl, ⟨tyX6, tyX6_ok⟩, nmX6, tt_1 _ (List.mem_of_getElem? (i := 89) rfl) rfl⟩
theorem fF_Names_40 : ip_F lg_tbl vwCl "ShareHouse$Names" 40 6 1 (.int) false := ⟨RX6, TX6, 13, rfl, wsX6_in, by decide, rfl, tyX6_ok 1 (by decide), rfl, ⟨tyX6, tyX6_ok⟩, nmX6, Or.inl (tt_1 _ (List.mem_of_getElem? (i := 90) rfl) rfl)⟩
theorem fF_Names_44 : ip_F lg_tbl vwCl "ShareHouse$Names" 44 6 9 (.int) false := ⟨RX6, TX6, 13, rfl, wsX6_in, by decide, rfl, tyX6_ok 9 (by decide), rfl, ⟨tyX6, tyX6_ok⟩, nmX6, Or.inl (tt_1 _ (List.mem_of_getElem? (i := 110) rfl) rfl)⟩
theorem fF_Names_47 : ip_F lg_tbl vwCl "ShareHouse$Names" 47 6 11 (.int) false := ⟨RX6, TX6, 13, rfl, wsX6_in, by decide, rfl, tyX6_ok 11 (by decide), rfl, ⟨tyX6, tyX6_ok⟩, nmX6, Or.inl (tt_1 _ (List.mem_of_getElem? (i := 113) rfl) rfl)⟩
theorem fF_Names_50 : ip_F lg_tbl vwCl "ShareHouse$Names" 50 6 12 (.int) false := ⟨RX6, TX6, 13, rfl, wsX6_in, by decide, rfl, tyX6_ok 12 (by decide), rfl, ⟨tyX6, tyX6_ok⟩, nmX6, Or.inl (tt_1 _ (List.mem_of_getElem? (i := 115) rfl) rfl)⟩
theorem fF_Post_9 : ip_F lg_tbl vwCl "ShareHouse$Post" 9 7 13 (.array .int) false := ⟨RX7, TX7, 15, rfl, wsX7_in, by decide, rfl, tyX7_ok 13 (by decide), rfl, ⟨tyX7, tyX7_ok⟩, nmX7, Or.inl (tt_3 _ (List.mem_of_getElem? (i := 47) rfl) rfl)⟩
theorem fF_Post_15 : ip_F lg_tbl vwCl "ShareHouse$Post" 15 7 0 (.int) true := ⟨RX7, TX7, 15, rfl, wsX7_in, by decide, rfl, tyX7_ok 0 (by decide), rfl, ⟨tyX7, tyX7_ok⟩, nmX7, Or.inl (tt_3 _ (List.mem_of_getElem? (i := 28) rfl) rfl)⟩
theorem fF_Post_15p : ip_Fp lg_tbl vwCl "ShareHouse$Post" 15 7 0 (.int) := ⟨TX7, 15, rfl, wsX7_in, by decide, rfl, tyX7_ok 0 (by decide), rfl, ⟨tyX7, tyX7_ok⟩, nmX7, tt_3 _ (List.mem_of_getElem? (i := 28) rfl) rfl⟩
theorem fF_Post_19 : ip_F lg_tbl vwCl "ShareHouse$Post" 19 7 1 (.object "ShareHouse$Circuit") true := ⟨RX7, TX7, 15, rfl, wsX7_in, by decide, rfl, tyX7_ok 1 (by decide), rfl, ⟨tyX7, tyX7_ok⟩, nmX7, Or.inl (tt_3 _ (List.mem_of_getElem? (i := 29) rfl) rfl)⟩
theorem fF_Post_19p : ip_Fp lg_tbl vwCl "ShareHouse$Post" 19 7 1 (.object "ShareHouse$Circuit") := ⟨TX7, 15, rfl, wsX7_in, by decide, rfl, tyX7_ok 1 (by decide), rfl, ⟨tyX7, tyX7_ok⟩, nmX7, tt_3 _ (List.mem_of_getElem? (i := 29) rfl) rfl⟩
theorem fF_Post_23 : ip_F lg_tbl vwCl "ShareHouse$Post" 23 7 2 (.object "ShareHouse$Inputs") true := ⟨RX7, TX7, 15, rfl, wsX7_in, by decide, rfl, tyX7_ok 2 (by decide), rfl, ⟨tyX7, tyX7_ok⟩, nmX7, Or.inl (tt_3 _ (List.mem_of_getElem? (i := 30) rfl) rfl)⟩
theorem fF_Post_23p : ip_Fp lg_tbl vwCl "ShareHouse$Post" 23 7 2 (.object "ShareHouse$Inputs") := ⟨TX7, 15, rfl, wsX7_in, by decide, rfl, tyX7_ok 2 (by decide), rfl, ⟨tyX7, tyX7_ok⟩, nmX7, tt_3 _ (List.mem_of_getElem? (i := 30) rfl) rfl⟩
theorem fF_Post_27 : ip_F lg_tbl vwCl "ShareHouse$Post" 27 7 3 (.object "ShareHouse$Dealer") true := ⟨RX7, TX7, 15, rfl, wsX7_in, by decide, rfl, tyX7_ok 3 (by decide), rfl, ⟨tyX7, tyX7_ok⟩, nmX7, Or.inl (tt_3 _ (List.mem_of_getElem? (i := 31) rfl) rfl)⟩
theorem fF_Post_27p : ip_Fp lg_tbl vwCl "ShareHouse$Post" 27 7 3 (.object "ShareHouse$Dealer") := ⟨TX7, 15, rfl, wsX7_in, by decide, rfl, tyX7_ok 3 (by decide), rfl, ⟨tyX7, tyX7_ok⟩, nmX7, tt_3 _ (List.mem_of_getElem? (i := 31) rfl) rfl⟩
theorem fF_Post_31 : ip_F lg_tbl vwCl "ShareHouse$Post" 31 7 4 (.array .int) true := ⟨RX7, TX7, 15, rfl, wsX7_in, by decide, rfl, tyX7_ok 4 (by decide), rfl, ⟨tyX7, tyX7_ok⟩, nmX7, Or.inl (tt_3 _ (List.mem_of_getElem? (i := 32) rfl) rfl)⟩
theorem fF_Post_31p : ip_Fp lg_tbl vwCl "ShareHouse$Post" 31 7 4 (.array .int) := ⟨TX7, 15, rfl, wsX7_in, by decide, rfl, tyX7_ok 4 (by decide), rfl, ⟨tyX7, tyX7_ok⟩, nmX7, tt_3 _ (List.mem_of_getElem? (i := 32) rfl) rfl⟩
theorem fF_Post_34 : ip_F lg_tbl vwCl "ShareHouse$Post" 34 7 5 (.array .int) true := ⟨RX7, TX7, 15, rfl, wsX7_in, by decide, rfl, tyX7_ok 5 (by decide), rfl, ⟨tyX7, tyX7_ok⟩, nmX7, Or.inl (tt_3 _ (List.mem_of_getElem? (i := 34) rfl) rfl)⟩
theorem fF_Post_34p : ip_Fp lg_tbl vwCl "ShareHouse$Post" 34 7 5 (.array .int) := ⟨TX7, 15, rfl, wsX7_in, by decide, rfl, tyX7_ok 5 (by decide), rfl, ⟨tyX7, tyX7_ok⟩, nmX7, tt_3 _ (List.mem_of_getElem? (i := 34) rfl) rfl⟩
theorem fF_Post_37 : ip_F lg_tbl vwCl "ShareHouse$Post" 37 7 6 (.array .int) true := ⟨RX7, TX7, 15, rfl, wsX7_in, by decide, rfl, tyX7_ok 6 (by decide), rfl, ⟨tyX7, tyX7_ok⟩, nmX7, Or.inl (tt_3 _ (List.mem_of_getElem? (i := 36) rfl) rfl)⟩
theorem fF_Post_37p : ip_Fp lg_tbl vwCl "ShareHouse$Post" 37 7 6 (.array .int) := ⟨TX7, 15, rfl, wsX7_in, by decide, rfl, tyX7_ok 6 (by decide), rfl, ⟨tyX7, tyX7_ok⟩, nmX7, tt_3 _ (List.mem_of_getElem? (i := 36) rfl) rfl⟩
theorem fF_Post_40 : ip_F lg_tbl vwCl "ShareHouse$Post" 40 7 7 (.array .int) true := ⟨RX7, TX7, 15, rfl, wsX7_in, by decide, rfl, tyX7_ok 7 (by decide), rfl, ⟨tyX7, tyX7_ok⟩, nmX7, Or.inl (tt_3 _ (List.mem_of_getElem? (i := 37) rfl) rfl)⟩
theorem fF_Post_40p : ip_Fp lg_tbl vwCl "ShareHouse$Post" 40 7 7 (.array .int) := ⟨TX7, 15, rfl, wsX7_in, by decide, rfl, tyX7_ok 7 (by decide), rfl, ⟨tyX7, tyX7_ok⟩, nmX7, tt_3 _ (List.mem_of_getElem? (i := 37) rfl) rfl⟩
theorem fF_Post_43 : ip_F lg_tbl vwCl "ShareHouse$Post" 43 7 8 (.array .int) true := ⟨RX7, TX7, 15, rfl, wsX7_in, by decide, rfl, tyX7_ok 8 (by decide), rfl, ⟨tyX7, tyX7_ok⟩, nmX7, Or.inl (tt_3 _ (List.mem_of_getElem? (i := 38) rfl) rfl)⟩
theorem fF_Post_43p : ip_Fp lg_tbl vwCl "ShareHouse$Post" 43 7 8 (.array .int) := ⟨TX7, 15, rfl, wsX7_in, by decide, rfl, tyX7_ok 8 (by decide), rfl, ⟨tyX7, tyX7_ok⟩, nmX7, tt_3 _ (List.mem_of_getElem? (i := 38) rfl) rfl⟩
theorem fF_Post_46 : ip_F lg_tbl vwCl "ShareHouse$Post" 46 7 9 (.array .int) true := ⟨RX7, TX7, 15, rfl, wsX7_in, by decide, rfl, tyX7_ok 9 (by decide), rfl, ⟨tyX7, tyX7_ok⟩, nmX7, Or.inl (tt_3 _ (List.mem_of_getElem? (i := 39) rfl) rfl)⟩
theorem fF_Post_46p : ip_Fp lg_tbl vwCl "ShareHouse$Post" 46 7 9 (.array .int) := ⟨TX7, 15, rfl, wsX7_in, by decide, rfl, tyX7_ok 9 (by decide), rfl, ⟨tyX7, tyX7_ok⟩, nmX7, tt_3 _ (List.mem_of_getElem? (i := 39) rfl) rfl⟩
theorem fF_Post_49 : ip_F lg_tbl vwCl "ShareHouse$Post" 49 1 6 (.int) false := ⟨RX1, TX1, 16, rfl, wsX1_in, by decide, rfl, tyX1_ok 6 (by decide), rfl, ⟨tyX1, tyX1_ok⟩, nmX1, Or.inl (tt_1 _ (List.mem_of_getElem? (i := 219) rfl) rfl)⟩
theorem fF_Post_54 : ip_F lg_tbl vwCl "ShareHouse$Post" 54 7 14 (.int) false := ⟨RX7, TX7, 15, rfl, wsX7_in, by decide, rfl, tyX7_ok 14 (by decide), rfl, ⟨tyX7, tyX7_ok⟩, nmX7, Or.inl (tt_3 _ (List.mem_of_getElem? (i := 48) rfl) rfl)⟩
theorem fF_Post_67 : ip_F lg_tbl vwCl "ShareHouse$Post" 67 7 10 (.int) false := ⟨RX7, TX7, 15, rfl, wsX7_in, by decide, rfl, tyX7_ok 10 (by decide), rfl, ⟨tyX7, tyX7_ok⟩, nmX7, Or.inl (tt_3 _ (List.mem_of_getElem? (i := 41) rfl) rfl)⟩
theorem fF_Post_70 : ip_F lg_tbl vwCl "ShareHouse$Post" 70 7 11 (.int) false := ⟨RX7, TX7, 15, rfl, wsX7_in, by decide, rfl, tyX7_ok 11 (by decide), rfl, ⟨tyX7, tyX7_ok⟩, nmX7, Or.inl (tt_3 _ (List.mem_of_getElem? (i := 43) rfl) rfl)⟩
theorem fF_Post_73 : ip_F lg_tbl vwCl "ShareHouse$Post" 73 7 12 (.int) false := ⟨RX7, TX7, 15, rfl, wsX7_in, by decide, rfl, tyX7_ok 12 (by decide), rfl, ⟨tyX7, tyX7_ok⟩, nmX7, Or.inl (tt_3 _ (List.mem_of_getElem? (i := 45) rfl) rfl)⟩
theorem fF_Post_102 : ip_F lg_tbl vwCl "ShareHouse$Post" 102 4 5 (.array .int) true := ⟨RX4, TX4, 8, rfl, wsX4_in, by decide, rfl, tyX4_ok 5 (by decide), rfl, ⟨tyX4, tyX4_ok⟩, nmX4, Or.inl (tt_1 _ (List.mem_of_getElem? (i := 167) rfl) rfl)⟩
theorem fF_Post_117 : ip_F lg_tbl vwCl "ShareHouse$Post" 117 3 5 (.array .int) false := ⟨RX3, TX3, 9, rfl, wsX3_in, by decide, rfl, tyX3_ok 5 (by decide), rfl, ⟨tyX3, tyX3_ok⟩, nmX3, Or.inl (tt_2 _ (List.mem_of_getElem? (i := 238) rfl) rfl)⟩
theorem fF_Post_135 : ip_F lg_tbl vwCl "ShareHouse$Post" 135 1 0 (.array .int) false := ⟨RX1, TX1, 16, rfl, wsX1_in, by decide, rfl, tyX1_ok 0 (by decide), rfl, ⟨tyX1, tyX1_ok⟩, nmX1, Or.inl (tt_1 _ (List.mem_of_getElem? (i := 201) rfl) rfl)⟩
theorem fF_Post_138 : ip_F lg_tbl vwCl "ShareHouse$Post" 138 1 1 (.array .int) false := ⟨RX1, TX1, 16, rfl, wsX1_in, by decide, rfl, tyX1_ok 1 (by decide), rfl, ⟨tyX1, tyX1_ok⟩, nmX1, Or.inl (tt_1 _ (List.mem_of_getElem? (i := 205) rfl) rfl)⟩
theorem fF_Post_141 : ip_F lg_tbl vwCl "ShareHouse$Post" 141 1 3 (.array .int) false := ⟨RX1, TX1, 16, rfl, wsX1_in, by decide, rfl, tyX1_ok 3 (by decide), rfl, ⟨tyX1, tyX1_ok⟩, nmX1, Or.inl (tt_1 _ (List.mem_of_getElem? (i := 211) rfl) rfl)⟩
theorem fF_Post_148 : ip_F lg_tbl vwCl "ShareHouse$Post" 148 1 5 (.int) false := ⟨RX1, TX1, 16, rfl, wsX1_in, by decide, rfl, tyX1_ok 5 (by decide), rfl, ⟨tyX1, tyX1_ok⟩, nmX1, Or.inl (tt_1 _ (List.mem_of_getElem? (i := 216) rfl) rfl)⟩
theorem fF_Reader_11 : ip_F lg_tbl vwCl "ShareHouse$Reader" 11 8 6 (.array .int) true := ⟨RX8, TX8, 11, rfl, wsX8_in, by decide, rfl, tyX8_ok 6 (by decide), rfl, ⟨tyX8, tyX8_ok⟩, nmX8, Or.inl (tt_2 _ (List.mem_of_getElem? (i := 62) rfl) rfl)⟩
theorem fF_Reader_11p : ip_Fp lg_tbl vwCl "ShareHouse$Reader" 11 8 6 (.array .int) := ⟨TX8, 11, rfl, wsX8_in, by decide, rfl, tyX8_ok 6 (by decide), rfl, ⟨tyX8, tyX8_ok⟩, nmX8, tt_2 _ (List.mem_of_getElem? (i := 62) rfl) rfl⟩
theorem fF_Reader_17 : ip_F lg_tbl vwCl "ShareHouse$Reader" 17 8 7 (.array .int) true := ⟨RX8, TX8, 11, rfl, wsX8_in, by decide, rfl, tyX8_ok 7 (by decide), rfl, ⟨tyX8, tyX8_ok⟩, nmX8, Or.inl (tt_2 _ (List.mem_of_getElem? (i := 63) rfl) rfl)⟩
theorem fF_Reader_17p : ip_Fp lg_tbl vwCl "ShareHouse$Reader" 17 8 7 (.array .int) := ⟨TX8, 11, rfl, wsX8_in, by decide, rfl, tyX8_ok 7 (by decide), rfl, ⟨tyX8, tyX8_ok⟩, nmX8, tt_2 _ (List.mem_of_getElem? (i := 63) rfl) rfl⟩
theorem fF_Reader_20 : ip_F lg_tbl vwCl "ShareHouse$Reader" 20 8 8 (.array .int) true := ⟨RX8, TX8, 11, rfl, wsX8_in, by decide, rfl, tyX8_ok 8 (by decide), rfl, ⟨tyX8, tyX8_ok⟩, nmX8, Or.inl (tt_2 _ (List.mem_of_getElem? (i := 64) rfl) rfl)⟩
theorem fF_Reader_20p : ip_Fp lg_tbl vwCl "ShareHouse$Reader" 20 8 8 (.array .int) := ⟨TX8, 11, rfl, wsX8_in, by decide, rfl, tyX8_ok 8 (by decide), rfl, ⟨tyX8, tyX8_ok⟩, nmX8, tt_2 _ (List.mem_of_getElem? (i := 64) rfl) rfl⟩
theorem fF_Reader_28 : ip_F lg_tbl vwCl "ShareHouse$Reader" 28 8 0 (.object "ShareHouse$Words") true := ⟨RX8, TX8, 11, rfl, wsX8_in, by decide, rfl, tyX8_ok 0 (by decide), rfl, ⟨tyX8, tyX8_ok⟩, nmX8, Or.inl (tt_2 _ (List.mem_of_getElem? (i := 56) rfl) rfl)⟩
theorem fF_Reader_28p : ip_Fp lg_tbl vwCl "ShareHouse$Reader" 28 8 0 (.object "ShareHouse$Words") := ⟨TX8, 11, rfl, wsX8_in, by decide, rfl, tyX8_ok 0 (by decide), rfl, ⟨tyX8, tyX8_ok⟩, nmX8, tt_2 _ (List.mem_of_getElem? (i := 56) rfl) rfl⟩
theorem fF_Reader_32 : ip_F lg_tbl vwCl "ShareHouse$Reader" 32 8 1 (.object "ShareHouse$Code") true := ⟨RX8, TX8, 11, rfl, wsX8_in, by decide, rfl, tyX8_ok 1 (by decide), rfl, ⟨tyX8, tyX8_ok⟩, nmX8, Or.inl (tt_2 _ (List.mem_of_getElem? (i := 57) rfl) rfl)⟩
theorem fF_Reader_32p : ip_Fp lg_tbl vwCl "ShareHouse$Reader" 32 8 1 (.object "ShareHouse$Code") := ⟨TX8, 11, rfl, wsX8_in, by decide, rfl, tyX8_ok 1 (by decide), rfl, ⟨tyX8, tyX8_ok⟩, nmX8, tt_2 _ (List.mem_of_getElem? (i := 57) rfl) rfl⟩
theorem fF_Reader_36 : ip_F lg_tbl vwCl "ShareHouse$Reader" 36 8 2 (.object "ShareHouse$Names") true := ⟨RX8, TX8, 11, rfl, wsX8_in, by decide, rfl, tyX8_ok 2 (by decide), rfl, ⟨tyX8, tyX8_ok⟩, nmX8, Or.inl (tt_2 _ (List.mem_of_getElem? (i := 58) rfl) rfl)⟩
theorem fF_Reader_36p : ip_Fp lg_tbl vwCl "ShareHouse$Reader" 36 8 2 (.object "ShareHouse$Names") := ⟨TX8, 11, rfl, wsX8_in, by decide, rfl, tyX8_ok 2 (by decide), rfl, ⟨tyX8, tyX8_ok⟩, nmX8, tt_2 _ (List.mem_of_getElem? (i := 58) rfl) rfl⟩
theorem fF_Reader_40 : ip_F lg_tbl vwCl "ShareHouse$Reader" 40 8 3 (.object "ShareHouse$Inputs") true := ⟨RX8, TX8, 11, rfl, wsX8_in, by decide, rfl, tyX8_ok 3 (by decide), rfl, ⟨tyX8, tyX8_ok⟩, nmX8, Or.inl (tt_2 _ (List.mem_of_getElem? (i := 59) rfl) rfl)⟩
theorem fF_Reader_40p : ip_Fp lg_tbl vwCl "ShareHouse$Reader" 40 8 3 (.object "ShareHouse$Inputs") := ⟨TX8, 11, rfl, wsX8_in, by decide, rfl, tyX8_ok 3 (by decide), rfl, ⟨tyX8, tyX8_ok⟩, nmX8, tt_2 _ (List.mem_of_getElem? (i := 59) rfl) rfl⟩
theorem fF_Reader_44 : ip_F lg_tbl vwCl "ShareHouse$Reader" 44 8 4 (.int) true := ⟨RX8, TX8, 11, rfl, wsX8_in, by decide, rfl, tyX8_ok 4 (by decide), rfl, ⟨tyX8, tyX8_ok⟩, nmX8, Or.inl (tt_2 _ (List.mem_of_getElem? (i := 60) rfl) rfl)⟩
theorem fF_Reader_44p : ip_Fp lg_tbl vwCl "ShareHouse$Reader" 44 8 4 (.int) := ⟨TX8, 11, rfl, wsX8_in, by decide, rfl, tyX8_ok 4 (by decide), rfl, ⟨tyX8, tyX8_ok⟩, nmX8, tt_2 _ (List.mem_of_getElem? (i := 60) rfl) rfl⟩
theorem fF_Reader_48 : ip_F lg_tbl vwCl "ShareHouse$Reader" 48 8 5 (.int) true := ⟨RX8, TX8, 11, rfl, wsX8_in, by decide, rfl, tyX8_ok 5 (by decide), rfl, ⟨tyX8, tyX8_ok⟩, nmX8, Or.inl (tt_2 _ (List.mem_of_getElem? (i := 61) rfl) rfl)⟩
theorem fF_Reader_48p : ip_Fp lg_tbl vwCl "ShareHouse$Reader" 48 8 5 (.int) := ⟨TX8, 11, rfl, wsX8_in, by decide, rfl, tyX8_ok 5 (by decide), rfl, ⟨tyX8, tyX8_ok⟩, nmX8, tt_2 _ (List.mem_of_getElem? (i := 61) rfl) rfl⟩
theorem fF_Reader_51 : ip_F lg_tbl vwCl "ShareHouse$Reader" 51 8 9 (.int) false := ⟨RX8, TX8, 11, rfl, wsX8_in, by decide, rfl, tyX8_ok 9 (by decide), rfl, ⟨tyX8, tyX8_ok⟩, nmX8, Or.inl (tt_2 _ (List.mem_of_getElem? (i := 65) rfl) rfl)⟩
theorem fF_Reader_54 : ip_F lg_tbl vwCl "ShareHouse$Reader" 54 8 10 (.int) false := ⟨RX8, TX8, 11, rfl, wsX8_in, by decide, rfl, tyX8_ok 10 (by decide), rfl, ⟨tyX8, tyX8_ok⟩, nmX8, Or.inl (tt_2 _ (List.mem_of_getElem? (i := 66) rfl) rfl)⟩
theorem fF_Reader_61 : ip_F lg_tbl vwCl "ShareHouse$Reader" 61 2 5 (.int) false := ⟨RX2, TX2, 7, rfl, wsX2_in, by decide, rfl, tyX2_ok 5 (by decide), rfl, ⟨tyX2, tyX2_ok⟩, nmX2, Or.inl (tt_1 _ (List.mem_of_getElem? (i := 60) rfl) rfl)⟩
theorem fF_Reader_64 : ip_F lg_tbl vwCl "ShareHouse$Reader" 64 10 2 (.int) false := ⟨RX10, TX10, 5, rfl, wsX10_in, by decide, rfl, tyX10_ok 2 (by decide), rfl, ⟨tyX10, tyX10_ok⟩, nmX10, Or.inl (tt_2 _ (List.mem_of_getElem? (i := 39) rfl) rfl)⟩
theorem fF_Reader_95 : ip_F lg_tbl vwCl "ShareHouse$Reader" 95 4 6 (.int) false := ⟨RX4, TX4, 8, rfl, wsX4_in, by decide, rfl, tyX4_ok 6 (by decide), rfl, ⟨tyX4, tyX4_ok⟩, nmX4, Or.inl (tt_1 _ (List.mem_of_getElem? (i := 169) rfl) rfl)⟩
theorem fF_Reader_103 : ip_F lg_tbl vwCl "ShareHouse$Reader" 103 6 5 (.array .int) false := ⟨RX6, TX6, 13, rfl, wsX6_in, by decide, rfl, tyX6_ok 5 (by decide), rfl, ⟨tyX6, tyX6_ok⟩, nmX6, Or.inl (tt_1 _ (List.mem_of_getElem? (i := 97) rfl) rfl)⟩
theorem fF_Reader_124 : ip_F lg_tbl vwCl "ShareHouse$Reader" 124 6 7 (.array .int) false := ⟨RX6, TX6, 13, rfl, wsX6_in, by decide, rfl, tyX6_ok 7 (by decide), rfl, ⟨tyX6, tyX6_ok⟩, nmX6, Or.inl (tt_1 _ (List.mem_of_getElem? (i := 104) rfl) rfl)⟩
theorem fF_Reader_127 : ip_F lg_tbl vwCl "ShareHouse$Reader" 127 2 4 (.int) false := ⟨RX2, TX2, 7, rfl, wsX2_in, by decide, rfl, tyX2_ok 4 (by decide), rfl, ⟨tyX2, tyX2_ok⟩, nmX2, Or.inl (tt_1 _ (List.mem_of_getElem? (i := 58) rfl) rfl)⟩
theorem fF_Reader_130 : ip_F lg_tbl vwCl "ShareHouse$Reader" 130 10 3 (.int) false := ⟨RX10, TX10, 5, rfl, wsX10_in, by decide, rfl, tyX10_ok 3 (by decide), rfl, ⟨tyX10, tyX10_ok⟩, nmX10, Or.inl (tt_2 _ (List.mem_of_getElem? (i := 42) rfl) rfl)⟩
theorem fF_Reader_136 : ip_F lg_tbl vwCl "ShareHouse$Reader" 136 2 3 (.array .int) false := ⟨RX2, TX2, 7, rfl, wsX2_in, by decide, rfl, tyX2_ok 3 (by decide), rfl, ⟨tyX2, tyX2_ok⟩, nmX2, Or.inl (tt_1 _ (List.mem_of_getElem? (i := 53) rfl) rfl)⟩
theorem fF_Reader_139 : ip_F lg_tbl vwCl "ShareHouse$Reader" 139 6 8 (.array .int) false := ⟨RX6, TX6, 13, rfl, wsX6_in, by decide, rfl, tyX6_ok 8 (by decide), rfl, ⟨tyX6, tyX6_ok⟩, nmX6, Or.inl (tt_1 _ (List.mem_of_getElem? (i := 107) rfl) rfl)⟩
theorem fF_Reader_199 : ip_F lg_tbl vwCl "ShareHouse$Reader" 199 10 4 (.int) false := ⟨RX10, TX10, 5, rfl, wsX10_in, by decide, rfl, tyX10_ok 4 (by decide), rfl, ⟨tyX10, tyX10_ok⟩, nmX10, Or.inl (tt_2 _ (List.mem_of_getElem? (i := 44) rfl) rfl)⟩
theorem fF_Sorts_9 : ip_F lg_tbl vwCl "ShareHouse$Sorts" 9 9 2 (.array .int) false := ⟨RX9, TX9, 11, rfl, wsX9_in, by decide, rfl, tyX9_ok 2 (by decide), rfl, ⟨tyX9, tyX9_ok⟩, nmX9, Or.inl (tt_2 _ (List.mem_of_getElem? (i := 98) rfl) rfl)⟩
theorem fF_Sorts_15 : ip_F lg_tbl vwCl "ShareHouse$Sorts" 15 9 4 (.array .int) true := ⟨RX9, TX9, 11, rfl, wsX9_in, by decide, rfl, tyX9_ok 4 (by decide), rfl, ⟨tyX9, tyX9_ok⟩, nmX9, Or.inl (tt_2 _ (List.mem_of_getElem? (i := 100) rfl) rfl)⟩
theorem fF_Sorts_15p : ip_Fp lg_tbl vwCl "ShareHouse$Sorts" 15 9 4 (.array .int) := ⟨TX9, 11, rfl, wsX9_in, by decide, rfl, tyX9_ok 4 (by decide), rfl, ⟨tyX9, tyX9_ok⟩, nmX9, tt_2 _ (List.mem_of_getElem? (i := 100) rfl) rfl⟩
theorem fF_Sorts_18 : ip_F lg_tbl vwCl "ShareHouse$Sorts" 18 9 6 (.array .int) true := ⟨RX9, TX9, 11, rfl, wsX9_in, by decide, rfl, tyX9_ok 6 (by decide), rfl, ⟨tyX9, tyX9_ok⟩, nmX9, Or.inl (tt_2 _ (List.mem_of_getElem? (i := 102) rfl) rfl)⟩
theorem fF_Sorts_18p : ip_Fp lg_tbl vwCl "ShareHouse$Sorts" 18 9 6 (.array .int) := ⟨TX9, 11, rfl, wsX9_in, by decide, rfl, tyX9_ok 6 (by decide), rfl, ⟨tyX9, tyX9_ok⟩, nmX9, tt_2 _ (List.mem_of_getElem? (i := 102) rfl) rfl⟩
theorem fF_Sorts_21 : ip_F lg_tbl vwCl "ShareHouse$Sorts" 21 9 7 (.array .int) true := ⟨RX9, TX9, 11, rfl, wsX9_in, by decide, rfl, tyX9_ok 7 (by decide), rfl, ⟨tyX9, tyX9_ok⟩, nmX9, Or.inl (tt_2 _ (List.mem_of_getElem? (i := 103) rfl) rfl)⟩
theorem fF_Sorts_21p : ip_Fp lg_tbl vwCl "ShareHouse$Sorts" 21 9 7 (.array .int) := ⟨TX9, 11, rfl, wsX9_in, by decide, rfl, tyX9_ok 7 (by decide), rfl, ⟨tyX9, tyX9_ok⟩, nmX9, tt_2 _ (List.mem_of_getElem? (i := 103) rfl) rfl⟩
theorem fF_Sorts_24 : ip_F lg_tbl vwCl "ShareHouse$Sorts" 24 9 8 (.array .int) true := ⟨RX9, TX9, 11, rfl, wsX9_in, by decide, rfl, tyX9_ok 8 (by decide), rfl, ⟨tyX9, tyX9_ok⟩, nmX9, Or.inl (tt_2 _ (List.mem_of_getElem? (i := 104) rfl) rfl)⟩
theorem fF_Sorts_24p : ip_Fp lg_tbl vwCl "ShareHouse$Sorts" 24 9 8 (.array .int) := ⟨TX9, 11, rfl, wsX9_in, by decide, rfl, tyX9_ok 8 (by decide), rfl, ⟨tyX9, tyX9_ok⟩, nmX9, tt_2 _ (List.mem_of_getElem? (i := 104) rfl) rfl⟩
theorem fF_Sorts_27 : ip_F lg_tbl vwCl "ShareHouse$Sorts" 27 9 0 (.object "ShareHouse$Code") true := ⟨RX9, TX9, 11, rfl, wsX9_in, by decide, rfl, tyX9_ok 0 (by decide), rfl, ⟨tyX9, tyX9_ok⟩, nmX9, Or.inl (tt_2 _ (List.mem_of_getElem? (i := 96) rfl) rfl)⟩
theorem fF_Sorts_27p : ip_Fp lg_tbl vwCl "ShareHouse$Sorts" 27 9 0 (.object "ShareHouse$Code") := ⟨TX9, 11, rfl, wsX9_in, by decide, rfl, tyX9_ok 0 (by decide), rfl, ⟨tyX9, tyX9_ok⟩, nmX9, tt_2 _ (List.mem_of_getElem? (i := 96) rfl) rfl⟩
theorem fF_Sorts_31 : ip_F lg_tbl vwCl "ShareHouse$Sorts" 31 9 1 (.object "ShareHouse$Names") true := ⟨RX9, TX9, 11, rfl, wsX9_in, by decide, rfl, tyX9_ok 1 (by decide), rfl, ⟨tyX9, tyX9_ok⟩, nmX9, Or.inl (tt_2 _ (List.mem_of_getElem? (i := 97) rfl) rfl)⟩
theorem fF_Sorts_31p : ip_Fp lg_tbl vwCl "ShareHouse$Sorts" 31 9 1 (.object "ShareHouse$Names") := ⟨TX9, 11, rfl, wsX9_in, by decide, rfl, tyX9_ok 1 (by decide), rfl, ⟨tyX9, tyX9_ok⟩, nmX9, tt_2 _ (List.mem_of_getElem? (i := 97) rfl) rfl⟩
theorem fF_Sorts_35 : ip_F lg_tbl vwCl "ShareHouse$Sorts" 35 9 3 (.int) false := ⟨RX9, TX9, 11, rfl, wsX9_in, by decide, rfl, tyX9_ok 3 (by decide), rfl, ⟨tyX9, tyX9_ok⟩, nmX9, Or.inl (tt_2 _ (List.mem_of_getElem? (i := 99) rfl) rfl)⟩
theorem fF_Sorts_39 : ip_F lg_tbl vwCl "ShareHouse$Sorts" 39 9 5 (.int) false := ⟨RX9, TX9, 11, rfl, wsX9_in, by decide, rfl, tyX9_ok 5 (by decide), rfl, ⟨tyX9, tyX9_ok⟩, nmX9, Or.inl (tt_2 _ (List.mem_of_getElem? (i := 101) rfl) rfl)⟩
theorem fF_Sorts_42 : ip_F lg_tbl vwCl "ShareHouse$Sorts" 42 9 9 (.int) false := ⟨RX9, TX9, 11, rfl, wsX9_in, by decide, rfl, tyX9_ok 9 (by decide), rfl, ⟨tyX9, tyX9_ok⟩, nmX9, Or.inl (tt_2 _ (List.mem_of_getElem? (i := 105) rfl) rfl)⟩
theorem fF_Sorts_45 : ip_F lg_tbl vwCl "ShareHouse$Sorts" 45 9 10 (.int) false := ⟨RX9, TX9, 11, rfl, wsX9_in, by decide, rfl, tyX9_ok 10 (by decide), rfl, ⟨tyX9, tyX9_ok⟩, nmX9, Or.inl (tt_2 _ (List.mem_of_getElem? (i := 106) rfl) rfl)⟩
theorem fF_Sorts_48 : ip_F lg_tbl vwCl "ShareHouse$Sorts" 48 2 4 (.int) false := ⟨RX2, TX2, 7, rfl, wsX2_in, by decide, rfl, tyX2_ok 4 (by decide), rfl, ⟨tyX2, tyX2_ok⟩, nmX2, Or.inl (tt_1 _ (List.mem_of_getElem? (i := 56) rfl) rfl)⟩
theorem fF_Sorts_53 : ip_F lg_tbl vwCl "ShareHouse$Sorts" 53 2 5 (.int) false := ⟨RX2, TX2, 7, rfl, wsX2_in, by decide, rfl, tyX2_ok 5 (by decide), rfl, ⟨tyX2, tyX2_ok⟩, nmX2, Or.inl (tt_1 _ (List.mem_of_getElem? (i := 61) rfl) rfl)⟩
theorem fF_Sorts_56 : ip_F lg_tbl vwCl "ShareHouse$Sorts" 56 2 0 (.array .int) false := ⟨RX2, TX2, 7, rfl, wsX2_in, by decide, rfl, tyX2_ok 0 (by decide), rfl, ⟨tyX2, tyX2_ok⟩, nmX2, Or.inl (tt_1 _ (List.mem_of_getElem? (i := 43) rfl) rfl)⟩
theorem fF_Sorts_72 : ip_F lg_tbl vwCl "ShareHouse$Sorts" 72 2 1 (.array .int) false := ⟨RX2, TX2, 7, rfl, wsX2_in, by decide, rfl, tyX2_ok 1 (by decide), rfl, ⟨tyX2, tyX2_ok⟩, nmX2, Or.inl (tt_1 _ (List.mem_of_getElem? (i := 46) rfl) rfl)⟩
theorem fF_Sorts_87 : ip_F lg_tbl vwCl "ShareHouse$Sorts" 87 6 5 (.array .int) false := ⟨RX6, TX6, 13, rfl, wsX6_in, by decide, rfl, tyX6_ok 5 (by decide), rfl, ⟨tyX6, tyX6_ok⟩, nmX6, Or.inl (tt_1 _ (List.mem_of_getElem? (i := 98) rfl) rfl)⟩
theorem fF_Sorts_130 : ip_F lg_tbl vwCl "ShareHouse$Sorts" 130 2 2 (.array .int) false := ⟨RX2, TX2, 7, rfl, wsX2_in, by decide, rfl, tyX2_ok 2 (by decide), rfl, ⟨tyX2, tyX2_ok⟩, nmX2, Or.inl (tt_1 _ (List.mem_of_getElem? (i := 50) rfl) rfl)⟩
theorem fF_Sorts_145 : ip_F lg_tbl vwCl "ShareHouse$Sorts" 145 2 3 (.array .int) false := ⟨RX2, TX2, 7, rfl, wsX2_in, by decide, rfl, tyX2_ok 3 (by decide), rfl, ⟨tyX2, tyX2_ok⟩, nmX2, Or.inl (tt_1 _ (List.mem_of_getElem? (i := 54) rfl) rfl)⟩
theorem fF_Sorts_157 : ip_F lg_tbl vwCl "ShareHouse$Sorts" 157 6 4 (.array .int) false := ⟨RX6, TX6, 13, rfl, wsX6_in, by decide, rfl, tyX6_ok 4 (by decide), rfl, ⟨tyX6, tyX6_ok⟩, nmX6, Or.inl (tt_1 _ (List.mem_of_getElem? (i := 94) rfl) rfl)⟩
theorem fF_Sorts_164 : ip_F lg_tbl vwCl "ShareHouse$Sorts" 164 6 8 (.array .int) false := ⟨RX6, TX6, 13, rfl, wsX6_in, by decide, rfl, tyX6_ok 8 (by decide), rfl, ⟨tyX6, tyX6_ok⟩, nmX6, Or.inl (tt_1 _ (List.mem_of_getElem? (i := 108) rfl) rfl)⟩
theorem fF_Sorts_171 : ip_F lg_tbl vwCl "ShareHouse$Sorts" 171 6 11 (.int) false := ⟨RX6, TX6, 13, rfl, wsX6_in, by decide, rfl, tyX6_ok 11 (by decide), rfl, ⟨tyX6, tyX6_ok⟩, nmX6, Or.inl (tt_1 _ (List.mem_of_getElem? (i := 114) rfl) rfl)⟩
theorem fF_Sorts_177 : ip_F lg_tbl vwCl "ShareHouse$Sorts" 177 6 7 (.array .int) false := ⟨RX6, TX6, 13, rfl, wsX6_in, by decide, rfl, tyX6_ok 7 (by decide), rfl, ⟨tyX6, tyX6_ok⟩, nmX6, Or.inl (tt_1 _ (List.mem_of_getElem? (i := 105) rfl) rfl)⟩
theorem fF_Words_9 : ip_F lg_tbl vwCl "ShareHouse$Words" 9 10 0 (.array .byte) true := ⟨RX10, TX10, 5, rfl, wsX10_in, by decide, rfl, tyX10_ok 0 (by decide), rfl, ⟨tyX10, tyX10_ok⟩, nmX10, Or.inl (tt_2 _ (List.mem_of_getElem? (i := 37) rfl) rfl)⟩
theorem fF_Words_9p : ip_Fp lg_tbl vwCl "ShareHouse$Words" 9 10 0 (.array .byte) := ⟨TX10, 5, rfl, wsX10_in, by decide, rfl, tyX10_ok 0 (by decide), rfl, ⟨tyX10, tyX10_ok⟩, nmX10, tt_2 _ (List.mem_of_getElem? (i := 37) rfl) rfl⟩
theorem fF_Words_15 : ip_F lg_tbl vwCl "ShareHouse$Words" 15 10 1 (.int) false := ⟨RX10, TX10, 5, rfl, wsX10_in, by decide, rfl, tyX10_ok 1 (by decide), rfl, ⟨tyX10, tyX10_ok⟩, nmX10, Or.inl (tt_2 _ (List.mem_of_getElem? (i := 38) rfl) rfl)⟩
theorem fF_Words_19 : ip_F lg_tbl vwCl "ShareHouse$Words" 19 10 4 (.int) false := ⟨RX10, TX10, 5, rfl, wsX10_in, by decide, rfl, tyX10_ok 4 (by decide), rfl, ⟨tyX10, tyX10_ok⟩, nmX10, Or.inl (tt_2 _ (List.mem_of_getElem? (i := 43) rfl) rfl)⟩
theorem fF_Words_28 : ip_F lg_tbl vwCl "ShareHouse$Words" 28 10 3 (.int) false := ⟨RX10, TX10, 5, rfl, wsX10_in, by decide, rfl, tyX10_ok 3 (by decide), rfl, ⟨tyX10, tyX10_ok⟩, nmX10, Or.inl (tt_2 _ (List.mem_of_getElem? (i := 41) rfl) rfl)⟩
theorem fF_Words_31 : ip_F lg_tbl vwCl "ShareHouse$Words" 31 10 2 (.int) false := ⟨RX10, TX10, 5, rfl, wsX10_in, by decide, rfl, tyX10_ok 2 (by decide), rfl, ⟨tyX10, tyX10_ok⟩, nmX10, Or.inl (tt_2 _ (List.mem_of_getElem? (i := 40) rfl) rfl)⟩
theorem fF_Mo_7 : ip_F lg_tbl vwCl "ShareHouseModel" 7 12 3 (.array .int) true := ⟨RX12, TX12, 146, rfl, wsX12_in, by decide, rfl, tyX12_ok 3 (by decide), rfl, ⟨tyX12, tyX12_ok⟩, nmX12, Or.inl (tt_7 _ (List.mem_of_getElem? (i := 78) rfl) rfl)⟩
theorem fF_Mo_7p : ip_Fp lg_tbl vwCl "ShareHouseModel" 7 12 3 (.array .int) := ⟨TX12, 146, rfl, wsX12_in, by decide, rfl, tyX12_ok 3 (by decide), rfl, ⟨tyX12, tyX12_ok⟩, nmX12, tt_7 _ (List.mem_of_getElem? (i := 78) rfl) rfl⟩
theorem fF_Mo_13 : ip_F lg_tbl vwCl "ShareHouseModel" 13 12 4 (.array .int) true := ⟨RX12, TX12, 146, rfl, wsX12_in, by decide, rfl, tyX12_ok 4 (by decide), rfl, ⟨tyX12, tyX12_ok⟩, nmX12, Or.inl (tt_7 _ (List.mem_of_getElem? (i := 79) rfl) rfl)⟩
theorem fF_Mo_13p : ip_Fp lg_tbl vwCl "ShareHouseModel" 13 12 4 (.array .int) := ⟨TX12, 146, rfl, wsX12_in, by decide, rfl, tyX12_ok 4 (by decide), rfl, ⟨tyX12, tyX12_ok⟩, nmX12, tt_7 _ (List.mem_of_getElem? (i := 79) rfl) rfl⟩
theorem fF_Mo_16 : ip_F lg_tbl vwCl "ShareHouseModel" 16 12 10 (.array .int) true := ⟨RX12, TX12, 146, rfl, wsX12_in, by decide, rfl, tyX12_ok 10 (by decide), rfl, ⟨tyX12, tyX12_ok⟩, nmX12, Or.inl (tt_7 _ (List.mem_of_getElem? (i := 85) rfl) rfl)⟩
theorem fF_Mo_16p : ip_Fp lg_tbl vwCl "ShareHouseModel" 16 12 10 (.array .int) := ⟨TX12, 146, rfl, wsX12_in, by decide, rfl, tyX12_ok 10 (by decide), rfl, ⟨tyX12, tyX12_ok⟩, nmX12, tt_7 _ (List.mem_of_getElem? (i := 85) rfl) rfl⟩
theorem fF_Mo_19 : ip_F lg_tbl vwCl "ShareHouseModel" 19 12 11 (.array .int) true := ⟨RX12, TX12, 146, rfl, wsX12_in, by decide, rfl, tyX12_ok 11 (by decide), rfl, ⟨tyX12, tyX12_ok⟩, nmX12, Or.inl (tt_7 _ (List.mem_of_getElem? (i := 86) rfl) rfl)⟩
theorem fF_Mo_19p : ip_Fp lg_tbl vwCl "ShareHouseModel" 19 12 11 (.array .int) := ⟨TX12, 146, rfl, wsX12_in, by decide, rfl, tyX12_ok 11 (by decide), rfl, ⟨tyX12, tyX12_ok⟩, nmX12, tt_7 _ (List.mem_of_getElem? (i := 86) rfl) rfl⟩
theorem fF_Mo_22 : ip_F lg_tbl vwCl "ShareHouseModel" 22 12 14 (.array .int) true := ⟨RX12, TX12, 146, rfl, wsX12_in, by decide, rfl, tyX12_ok 14 (by decide), rfl, ⟨tyX12, tyX12_ok⟩, nmX12, Or.inl (tt_7 _ (List.mem_of_getElem? (i := 89) rfl) rfl)⟩
theorem fF_Mo_22p : ip_Fp lg_tbl vwCl "ShareHouseModel" 22 12 14 (.array .int) := ⟨TX12, 146, rfl, wsX12_in, by decide, rfl, tyX12_ok 14 (by decide), rfl, ⟨tyX12, tyX12_ok⟩, nmX12, tt_7 _ (List.mem_of_getElem? (i := 89) rfl) rfl⟩
theorem fF_Mo_25 : ip_F lg_tbl vwCl "ShareHouseModel" 25 12 15 (.array .int) true := ⟨RX12, TX12, 146, rfl, wsX12_in, by decide, rfl, tyX12_ok 15 (by decide), rfl, ⟨tyX12, tyX12_ok⟩, nmX12, Or.inl (tt_7 _ (List.mem_of_getElem? (i := 90) rfl) rfl)⟩
theorem fF_Mo_25p : ip_Fp lg_tbl vwCl "ShareHouseModel" 25 12 15 (.array .int) := ⟨TX12, 146, rfl, wsX12_in, by decide, rfl, tyX12_ok 15 (by decide), rfl, ⟨tyX12, tyX12_ok⟩, nmX12, tt_7 _ (List.mem_of_getElem? (i := 90) rfl) rfl⟩
theorem fF_Mo_28 : ip_F lg_tbl vwCl "ShareHouseModel" 28 12 16 (.array .int) true := ⟨RX12, TX12, 146, rfl, wsX12_in, by decide, rfl, tyX12_ok 16 (by decide), rfl, ⟨tyX12, tyX12_ok⟩, nmX12, Or.inl (tt_7 _ (List.mem_of_getElem? (i := 91) rfl) rfl)⟩
theorem fF_Mo_28p : ip_Fp lg_tbl vwCl "ShareHouseModel" 28 12 16 (.array .int) := ⟨TX12, 146, rfl, wsX12_in, by decide, rfl, tyX12_ok 16 (by decide), rfl, ⟨tyX12, tyX12_ok⟩, nmX12, tt_7 _ (List.mem_of_getElem? (i := 91) rfl) rfl⟩
theorem fF_Mo_31 : ip_F lg_tbl vwCl "ShareHouseModel" 31 12 17 (.array .int) true := ⟨RX12, TX12, 146, rfl, wsX12_in, by decide, rfl, tyX12_ok 17 (by decide), rfl, ⟨tyX12, tyX12_ok⟩, nmX12, Or.inl (tt_7 _ (List.mem_of_getElem? (i := 92) rfl) rfl)⟩
theorem fF_Mo_31p : ip_Fp lg_tbl vwCl "ShareHouseModel" 31 12 17 (.array .int) := ⟨TX12, 146, rfl, wsX12_in, by decide, rfl, tyX12_ok 17 (by decide), rfl, ⟨tyX12, tyX12_ok⟩, nmX12, tt_7 _ (List.mem_of_getElem? (i := 92) rfl) rfl⟩
theorem fF_Mo_34 : ip_F lg_tbl vwCl "ShareHouseModel" 34 12 18 (.array .long) true := ⟨RX12, TX12, 146, rfl, wsX12_in, by decide, rfl, tyX12_ok 18 (by decide), rfl, ⟨tyX12, tyX12_ok⟩, nmX12, Or.inl (tt_7 _ (List.mem_of_getElem? (i := 93) rfl) rfl)⟩
theorem fF_Mo_34p : ip_Fp lg_tbl vwCl "ShareHouseModel" 34 12 18 (.array .long) := ⟨TX12, 146, rfl, wsX12_in, by decide, rfl, tyX12_ok 18 (by decide), rfl, ⟨tyX12, tyX12_ok⟩, nmX12, tt_7 _ (List.mem_of_getElem? (i := 93) rfl) rfl⟩
theorem fF_Mo_38 : ip_F lg_tbl vwCl "ShareHouseModel" 38 12 21 (.array .int) true := ⟨RX12, TX12, 146, rfl, wsX12_in, by decide, rfl, tyX12_ok 21 (by decide), rfl, ⟨tyX12, tyX12_ok⟩, nmX12, Or.inl (tt_7 _ (List.mem_of_getElem? (i := 96) rfl) rfl)⟩
theorem fF_Mo_38p : ip_Fp lg_tbl vwCl "ShareHouseModel" 38 12 21 (.array .int) := ⟨TX12, 146, rfl, wsX12_in, by decide, rfl, tyX12_ok 21 (by decide), rfl, ⟨tyX12, tyX12_ok⟩, nmX12, tt_7 _ (List.mem_of_getElem? (i := 96) rfl) rfl⟩
theorem fF_Mo_41 : ip_F lg_tbl vwCl "ShareHouseModel" 41 12 22 (.array .int) true := ⟨RX12, TX12, 146, rfl, wsX12_in, by decide, rfl, tyX12_ok 22 (by decide), rfl, ⟨tyX12, tyX12_ok⟩, nmX12, Or.inl (tt_7 _ (List.mem_of_getElem? (i := 97) rfl) rfl)⟩
theorem fF_Mo_41p : ip_Fp lg_tbl vwCl "ShareHouseModel" 41 12 22 (.array .int) := ⟨TX12, 146, rfl, wsX12_in, by decide, rfl, tyX12_ok 22 (by decide), rfl, ⟨tyX12, tyX12_ok⟩, nmX12, tt_7 _ (List.mem_of_getElem? (i := 97) rfl) rfl⟩
theorem fF_Mo_44 : ip_F lg_tbl vwCl "ShareHouseModel" 44 12 23 (.array .int) true := ⟨RX12, TX12, 146, rfl, wsX12_in, by decide, rfl, tyX12_ok 23 (by decide), rfl, ⟨tyX12, tyX12_ok⟩, nmX12, Or.inl (tt_7 _ (List.mem_of_getElem? (i := 98) rfl) rfl)⟩
theorem fF_Mo_44p : ip_Fp lg_tbl vwCl "ShareHouseModel" 44 12 23 (.array .int) := ⟨TX12, 146, rfl, wsX12_in, by decide, rfl, tyX12_ok 23 (by decide), rfl, ⟨tyX12, tyX12_ok⟩, nmX12, tt_7 _ (List.mem_of_getElem? (i := 98) rfl) rfl⟩
theorem fF_Mo_47 : ip_F lg_tbl vwCl "ShareHouseModel" 47 12 24 (.array .int) true := ⟨RX12, TX12, 146, rfl, wsX12_in, by decide, rfl, tyX12_ok 24 (by decide), rfl, ⟨tyX12, tyX12_ok⟩, nmX12, Or.inl (tt_7 _ (List.mem_of_getElem? (i := 99) rfl) rfl)⟩
theorem fF_Mo_47p : ip_Fp lg_tbl vwCl "ShareHouseModel" 47 12 24 (.array .int) := ⟨TX12, 146, rfl, wsX12_in, by decide, rfl, tyX12_ok 24 (by decide), rfl, ⟨tyX12, tyX12_ok⟩, nmX12, tt_7 _ (List.mem_of_getElem? (i := 99) rfl) rfl⟩
theorem fF_Mo_50 : ip_F lg_tbl vwCl "ShareHouseModel" 50 12 27 (.array .int) true := ⟨RX12, TX12, 146, rfl, wsX12_in, by decide, rfl, tyX12_ok 27 (by decide), rfl, ⟨tyX12, tyX12_ok⟩, nmX12, Or.inl (tt_7 _ (List.mem_of_getElem? (i := 102) rfl) rfl)⟩
theorem fF_Mo_50p : ip_Fp lg_tbl vwCl "ShareHouseModel" 50 12 27 (.array .int) := ⟨TX12, 146, rfl, wsX12_in, by decide, rfl, tyX12_ok 27 (by decide), rfl, ⟨tyX12, tyX12_ok⟩, nmX12, tt_7 _ (List.mem_of_getElem? (i := 102) rfl) rfl⟩
theorem fF_Mo_53 : ip_F lg_tbl vwCl "ShareHouseModel" 53 12 28 (.array .int) true := ⟨RX12, TX12, 146, rfl, wsX12_in, by decide, rfl, tyX12_ok 28 (by decide), rfl, ⟨tyX12, tyX12_ok⟩, nmX12, Or.inl (tt_7 _ (List.mem_of_getElem? (i := 103) rfl) rfl)⟩
theorem fF_Mo_53p : ip_Fp lg_tbl vwCl "ShareHouseModel" 53 12 28 (.array .int) := ⟨TX12, 146, rfl, wsX12_in, by decide, rfl, tyX12_ok 28 (by decide), rfl, ⟨tyX12, tyX12_ok⟩, nmX12, tt_7 _ (List.mem_of_getElem? (i := 103) rfl) rfl⟩
theorem fF_Mo_56 : ip_F lg_tbl vwCl "ShareHouseModel" 56 12 33 (.array .int) true := ⟨RX12, TX12, 146, rfl, wsX12_in, by decide, rfl, tyX12_ok 33 (by decide), rfl, ⟨tyX12, tyX12_ok⟩, nmX12, Or.inl (tt_7 _ (List.mem_of_getElem? (i := 108) rfl) rfl)⟩
theorem fF_Mo_56p : ip_Fp lg_tbl vwCl "ShareHouseModel" 56 12 33 (.array .int) := ⟨TX12, 146, rfl, wsX12_in, by decide, rfl, tyX12_ok 33 (by decide), rfl, ⟨tyX12, tyX12_ok⟩, nmX12, tt_7 _ (List.mem_of_getElem? (i := 108) rfl) rfl⟩
theorem fF_Mo_59 : ip_F lg_tbl vwCl "ShareHouseModel" 59 12 35 (.array .int) true := ⟨RX12, TX12, 146, rfl, wsX12_in, by decide, rfl, tyX12_ok 35 (by decide), rfl, ⟨tyX12, tyX12_ok⟩, nmX12, Or.inl (tt_7 _ (List.mem_of_getElem? (i := 110) rfl) rfl)⟩
theorem fF_Mo_59p : ip_Fp lg_tbl vwCl "ShareHouseModel" 59 12 35 (.array .int) := ⟨TX12, 146, rfl, wsX12_in, by decide, rfl, tyX12_ok 35 (by decide), rfl, ⟨tyX12, tyX12_ok⟩, nmX12, tt_7 _ (List.mem_of_getElem? (i := 110) rfl) rfl⟩
theorem fF_Mo_62 : ip_F lg_tbl vwCl "ShareHouseModel" 62 12 36 (.array .int) true := ⟨RX12, TX12, 146, rfl, wsX12_in, by decide, rfl, tyX12_ok 36 (by decide), rfl, ⟨tyX12, tyX12_ok⟩, nmX12, Or.inl (tt_7 _ (List.mem_of_getElem? (i := 111) rfl) rfl)⟩
theorem fF_Mo_62p : ip_Fp lg_tbl vwCl "ShareHouseModel" 62 12 36 (.array .int) := ⟨TX12, 146, rfl, wsX12_in, by decide, rfl, tyX12_ok 36 (by decide), rfl, ⟨tyX12, tyX12_ok⟩, nmX12, tt_7 _ (List.mem_of_getElem? (i := 111) rfl) rfl⟩
theorem fF_Mo_65 : ip_F lg_tbl vwCl "ShareHouseModel" 65 12 37 (.array .int) true := ⟨RX12, TX12, 146, rfl, wsX12_in, by decide, rfl, tyX12_ok 37 (by decide), rfl, ⟨tyX12, tyX12_ok⟩, nmX12, Or.inl (tt_7 _ (List.mem_of_getElem? (i := 112) rfl) rfl)⟩
theorem fF_Mo_65p : ip_Fp lg_tbl vwCl "ShareHouseModel" 65 12 37 (.array .int) := ⟨TX12, 146, rfl, wsX12_in, by decide, rfl, tyX12_ok 37 (by decide), rfl, ⟨tyX12, tyX12_ok⟩, nmX12, tt_7 _ (List.mem_of_getElem? (i := 112) rfl) rfl⟩
theorem fF_Mo_68 : ip_F lg_tbl vwCl "ShareHouseModel" 68 12 38 (.array .int) true := ⟨RX12, TX12, 146, rfl, wsX12_in, by decide, rfl, tyX12_ok 38 (by decide), rfl, ⟨tyX12, tyX12_ok⟩, nmX12, Or.inl (tt_7 _ (List.mem_of_getElem? (i := 113) rfl) rfl)⟩
theorem fF_Mo_68p : ip_Fp lg_tbl vwCl "ShareHouseModel" 68 12 38 (.array .int) := ⟨TX12, 146, rfl, wsX12_in, by decide, rfl, tyX12_ok 38 (by decide), rfl, ⟨tyX12, tyX12_ok⟩, nmX12, tt_7 _ (List.mem_of_getElem? (i := 113) rfl) rfl⟩
theorem fF_Mo_71 : ip_F lg_tbl vwCl "ShareHouseModel" 71 12 39 (.array .int) true := ⟨RX12, TX12, 146, rfl, wsX12_in, by decide, rfl, tyX12_ok 39 (by decide), rfl, ⟨tyX12, tyX12_ok⟩, nmX12, Or.inl (tt_7 _ (List.mem_of_getElem? (i := 114) rfl) rfl)⟩
theorem fF_Mo_71p : ip_Fp lg_tbl vwCl "ShareHouseModel" 71 12 39 (.array .int) := ⟨TX12, 146, rfl, wsX12_in, by decide, rfl, tyX12_ok 39 (by decide), rfl, ⟨tyX12, tyX12_ok⟩, nmX12, tt_7 _ (List.mem_of_getElem? (i := 114) rfl) rfl⟩
theorem fF_Mo_74 : ip_F lg_tbl vwCl "ShareHouseModel" 74 12 40 (.array .boolean) true := ⟨RX12, TX12, 146, rfl, wsX12_in, by decide, rfl, tyX12_ok 40 (by decide), rfl, ⟨tyX12, tyX12_ok⟩, nmX12, Or.inl (tt_7 _ (List.mem_of_getElem? (i := 115) rfl) rfl)⟩
theorem fF_Mo_74p : ip_Fp lg_tbl vwCl "ShareHouseModel" 74 12 40 (.array .boolean) := ⟨TX12, 146, rfl, wsX12_in, by decide, rfl, tyX12_ok 40 (by decide), rfl, ⟨tyX12, tyX12_ok⟩, nmX12, tt_7 _ (List.mem_of_getElem? (i := 115) rfl) rfl⟩
theorem fF_Mo_78 : ip_F lg_tbl vwCl "ShareHouseModel" 78 12 41 (.array .int) true := ⟨RX12, TX12, 146, rfl, wsX12_in, by decide, rfl, tyX12_ok 41 (by decide), rfl, ⟨tyX12, tyX12_ok⟩, nmX12, Or.inl (tt_7 _ (List.mem_of_getElem? (i := 116) rfl) rfl)⟩
theorem fF_Mo_78p : ip_Fp lg_tbl vwCl "ShareHouseModel" 78 12 41 (.array .int) := ⟨TX12, 146, rfl, wsX12_in, by decide, rfl, tyX12_ok 41 (by decide), rfl, ⟨tyX12, tyX12_ok⟩, nmX12, tt_7 _ (List.mem_of_getElem? (i := 116) rfl) rfl⟩
theorem fF_Mo_81 : ip_F lg_tbl vwCl "ShareHouseModel" 81 12 42 (.array .int) true := ⟨RX12, TX12, 146, rfl, wsX12_in, by decide, rfl, tyX12_ok 42 (by decide), rfl, ⟨tyX12, tyX12_ok⟩, nmX12, Or.inl (tt_7 _ (List.mem_of_getElem? (i := 117) rfl) rfl)⟩
theorem fF_Mo_81p : ip_Fp lg_tbl vwCl "ShareHouseModel" 81 12 42 (.array .int) := ⟨TX12, 146, rfl, wsX12_in, by decide, rfl, tyX12_ok 42 (by decide), rfl, ⟨tyX12, tyX12_ok⟩, nmX12, tt_7 _ (List.mem_of_getElem? (i := 117) rfl) rfl⟩
theorem fF_Mo_84 : ip_F lg_tbl vwCl "ShareHouseModel" 84 12 44 (.array .int) true := ⟨RX12, TX12, 146, rfl, wsX12_in, by decide, rfl, tyX12_ok 44 (by decide), rfl, ⟨tyX12, tyX12_ok⟩, nmX12, Or.inl (tt_7 _ (List.mem_of_getElem? (i := 119) rfl) rfl)⟩
theorem fF_Mo_84p : ip_Fp lg_tbl vwCl "ShareHouseModel" 84 12 44 (.array .int) := ⟨TX12, 146, rfl, wsX12_in, by decide, rfl, tyX12_ok 44 (by decide), rfl, ⟨tyX12, tyX12_ok⟩, nmX12, tt_7 _ (List.mem_of_getElem? (i := 119) rfl) rfl⟩
theorem fF_Mo_87 : ip_F lg_tbl vwCl "ShareHouseModel" 87 12 45 (.array .int) true := ⟨RX12, TX12, 146, rfl, wsX12_in, by decide, rfl, tyX12_ok 45 (by decide), rfl, ⟨tyX12, tyX12_ok⟩, nmX12, Or.inl (tt_7 _ (List.mem_of_getElem? (i := 120) rfl) rfl)⟩
theorem fF_Mo_87p : ip_Fp lg_tbl vwCl "ShareHouseModel" 87 12 45 (.array .int) := ⟨TX12, 146, rfl, wsX12_in, by decide, rfl, tyX12_ok 45 (by decide), rfl, ⟨tyX12, tyX12_ok⟩, nmX12, tt_7 _ (List.mem_of_getElem? (i := 120) rfl) rfl⟩
theorem fF_Mo_90 : ip_F lg_tbl vwCl "ShareHouseModel" 90 12 46 (.array .boolean) true := ⟨RX12, TX12, 146, rfl, wsX12_in, by decide, rfl, tyX12_ok 46 (by decide), rfl, ⟨tyX12, tyX12_ok⟩, nmX12, Or.inl (tt_7 _ (List.mem_of_getElem? (i := 121) rfl) rfl)⟩
theorem fF_Mo_90p : ip_Fp lg_tbl vwCl "ShareHouseModel" 90 12 46 (.array .boolean) := ⟨TX12, 146, rfl, wsX12_in, by decide, rfl, tyX12_ok 46 (by decide), rfl, ⟨tyX12, tyX12_ok⟩, nmX12, tt_7 _ (List.mem_of_getElem? (i := 121) rfl) rfl⟩
theorem fF_Mo_93 : ip_F lg_tbl vwCl "ShareHouseModel" 93 12 48 (.array .int) true := ⟨RX12, TX12, 146, rfl, wsX12_in, by decide, rfl, tyX12_ok 48 (by decide), rfl, ⟨tyX12, tyX12_ok⟩, nmX12, Or.inl (tt_7 _ (List.mem_of_getElem? (i := 123) rfl) rfl)⟩
theorem fF_Mo_93p : ip_Fp lg_tbl vwCl "ShareHouseModel" 93 12 48 (.array .int) := ⟨TX12, 146, rfl, wsX12_in, by decide, rfl, tyX12_ok 48 (by decide), rfl, ⟨tyX12, tyX12_ok⟩, nmX12, tt_7 _ (List.mem_of_getElem? (i := 123) rfl) rfl⟩
theorem fF_Mo_96 : ip_F lg_tbl vwCl "ShareHouseModel" 96 12 50 (.array .int) true := ⟨RX12, TX12, 146, rfl, wsX12_in, by decide, rfl, tyX12_ok 50 (by decide), rfl, ⟨tyX12, tyX12_ok⟩, nmX12, Or.inl (tt_7 _ (List.mem_of_getElem? (i := 125) rfl) rfl)⟩
theorem fF_Mo_96p : ip_Fp lg_tbl vwCl "ShareHouseModel" 96 12 50 (.array .int) := ⟨TX12, 146, rfl, wsX12_in, by decide, rfl, tyX12_ok 50 (by decide), rfl, ⟨tyX12, tyX12_ok⟩, nmX12, tt_7 _ (List.mem_of_getElem? (i := 125) rfl) rfl⟩
theorem fF_Mo_99 : ip_F lg_tbl vwCl "ShareHouseModel" 99 12 51 (.array .int) true := ⟨RX12, TX12, 146, rfl, wsX12_in, by decide, rfl, tyX12_ok 51 (by decide), rfl, ⟨tyX12, tyX12_ok⟩, nmX12, Or.inl (tt_7 _ (List.mem_of_getElem? (i := 126) rfl) rfl)⟩
theorem fF_Mo_99p : ip_Fp lg_tbl vwCl "ShareHouseModel" 99 12 51 (.array .int) := ⟨TX12, 146, rfl, wsX12_in, by decide, rfl, tyX12_ok 51 (by decide), rfl, ⟨tyX12, tyX12_ok⟩, nmX12, tt_7 _ (List.mem_of_getElem? (i := 126) rfl) rfl⟩
theorem fF_Mo_102 : ip_F lg_tbl vwCl "ShareHouseModel" 102 12 52 (.array .int) true := ⟨RX12, TX12, 146, rfl, wsX12_in, by decide, rfl, tyX12_ok 52 (by decide), rfl, ⟨tyX12, tyX12_ok⟩, nmX12, Or.inl (tt_7 _ (List.mem_of_getElem? (i := 127) rfl) rfl)⟩
theorem fF_Mo_102p : ip_Fp lg_tbl vwCl "ShareHouseModel" 102 12 52 (.array .int) := ⟨TX12, 146, rfl, wsX12_in, by decide, rfl, tyX12_ok 52 (by decide), rfl, ⟨tyX12, tyX12_ok⟩, nmX12, tt_7 _ (List.mem_of_getElem? (i := 127) rfl) rfl⟩
theorem fF_Mo_105 : ip_F lg_tbl vwCl "ShareHouseModel" 105 12 53 (.array .int) true := ⟨RX12, TX12, 146, rfl, wsX12_in, by decide, rfl, tyX12_ok 53 (by decide), rfl, ⟨tyX12, tyX12_ok⟩, nmX12, Or.inl (tt_7 _ (List.mem_of_getElem? (i := 128) rfl) rfl)⟩
theorem fF_Mo_105p : ip_Fp lg_tbl vwCl "ShareHouseModel" 105 12 53 (.array .int) := ⟨TX12, 146, rfl, wsX12_in, by decide, rfl, tyX12_ok 53 (by decide), rfl, ⟨tyX12, tyX12_ok⟩, nmX12, tt_7 _ (List.mem_of_getElem? (i := 128) rfl) rfl⟩
theorem fF_Mo_108 : ip_F lg_tbl vwCl "ShareHouseModel" 108 12 54 (.array .int) true := ⟨RX12, TX12, 146, rfl, wsX12_in, by decide, rfl, tyX12_ok 54 (by decide), rfl, ⟨tyX12, tyX12_ok⟩, nmX12, Or.inl (tt_7 _ (List.mem_of_getElem? (i := 129) rfl) rfl)⟩
theorem fF_Mo_108p : ip_Fp lg_tbl vwCl "ShareHouseModel" 108 12 54 (.array .int) := ⟨TX12, 146, rfl, wsX12_in, by decide, rfl, tyX12_ok 54 (by decide), rfl, ⟨tyX12, tyX12_ok⟩, nmX12, tt_7 _ (List.mem_of_getElem? (i := 129) rfl) rfl⟩
theorem fF_Mo_111 : ip_F lg_tbl vwCl "ShareHouseModel" 111 12 55 (.array .boolean) true := ⟨RX12, TX12, 146, rfl, wsX12_in, by decide, rfl, tyX12_ok 55 (by decide), rfl, ⟨tyX12, tyX12_ok⟩, nmX12, Or.inl (tt_7 _ (List.mem_of_getElem? (i := 130) rfl) rfl)⟩
theorem fF_Mo_111p : ip_Fp lg_tbl vwCl "ShareHouseModel" 111 12 55 (.array .boolean) := ⟨TX12, 146, rfl, wsX12_in, by decide, rfl, tyX12_ok 55 (by decide), rfl, ⟨tyX12, tyX12_ok⟩, nmX12, tt_7 _ (List.mem_of_getElem? (i := 130) rfl) rfl⟩
theorem fF_Mo_114 : ip_F lg_tbl vwCl "ShareHouseModel" 114 12 57 (.array .int) true := ⟨RX12, TX12, 146, rfl, wsX12_in, by decide, rfl, tyX12_ok 57 (by decide), rfl, ⟨tyX12, tyX12_ok⟩, nmX12, Or.inl (tt_7 _ (List.mem_of_getElem? (i := 132) rfl) rfl)⟩
theorem fF_Mo_114p : ip_Fp lg_tbl vwCl "ShareHouseModel" 114 12 57 (.array .int) := ⟨TX12, 146, rfl, wsX12_in, by decide, rfl, tyX12_ok 57 (by decide), rfl, ⟨tyX12, tyX12_ok⟩, nmX12, tt_7 _ (List.mem_of_getElem? (i := 132) rfl) rfl⟩
theorem fF_Mo_117 : ip_F lg_tbl vwCl "ShareHouseModel" 117 12 58 (.array .int) true := ⟨RX12, TX12, 146, rfl, wsX12_in, by decide, rfl, tyX12_ok 58 (by decide), rfl, ⟨tyX12, tyX12_ok⟩, nmX12, Or.inl (tt_7 _ (List.mem_of_getElem? (i := 133) rfl) rfl)⟩
theorem fF_Mo_117p : ip_Fp lg_tbl vwCl "ShareHouseModel" 117 12 58 (.array .int) := ⟨TX12, 146, rfl, wsX12_in, by decide, rfl, tyX12_ok 58 (by decide), rfl, ⟨tyX12, tyX12_ok⟩, nmX12, tt_7 _ (List.mem_of_getElem? (i := 133) rfl) rfl⟩
theorem fF_Mo_120 : ip_F lg_tbl vwCl "ShareHouseModel" 120 12 64 (.array .int) true := ⟨RX12, TX12, 146, rfl, wsX12_in, by decide, rfl, tyX12_ok 64 (by decide), rfl, ⟨tyX12, tyX12_ok⟩, nmX12, Or.inl (tt_7 _ (List.mem_of_getElem? (i := 139) rfl) rfl)⟩
theorem fF_Mo_120p : ip_Fp lg_tbl vwCl "ShareHouseModel" 120 12 64 (.array .int) := ⟨TX12, 146, rfl, wsX12_in, by decide, rfl, tyX12_ok 64 (by decide), rfl, ⟨tyX12, tyX12_ok⟩, nmX12, tt_7 _ (List.mem_of_getElem? (i := 139) rfl) rfl⟩
theorem fF_Mo_124 : ip_F lg_tbl vwCl "ShareHouseModel" 124 12 71 (.array .int) true := ⟨RX12, TX12, 146, rfl, wsX12_in, by decide, rfl, tyX12_ok 71 (by decide), rfl, ⟨tyX12, tyX12_ok⟩, nmX12, Or.inl (tt_7 _ (List.mem_of_getElem? (i := 146) rfl) rfl)⟩
theorem fF_Mo_124p : ip_Fp lg_tbl vwCl "ShareHouseModel" 124 12 71 (.array .int) := ⟨TX12, 146, rfl, wsX12_in, by decide, rfl, tyX12_ok 71 (by decide), rfl, ⟨tyX12, tyX12_ok⟩, nmX12, tt_7 _ (List.mem_of_getElem? (i := 146) rfl) rfl⟩
theorem fF_Mo_127 : ip_F lg_tbl vwCl "ShareHouseModel" 127 12 72 (.array .int) true := ⟨RX12, TX12, 146, rfl, wsX12_in, by decide, rfl, tyX12_ok 72 (by decide), rfl, ⟨tyX12, tyX12_ok⟩, nmX12, Or.inl (tt_7 _ (List.mem_of_getElem? (i := 147) rfl) rfl)⟩
theorem fF_Mo_127p : ip_Fp lg_tbl vwCl "ShareHouseModel" 127 12 72 (.array .int) := ⟨TX12, 146, rfl, wsX12_in, by decide, rfl, tyX12_ok 72 (by decide), rfl, ⟨tyX12, tyX12_ok⟩, nmX12, tt_7 _ (List.mem_of_getElem? (i := 147) rfl) rfl⟩
theorem fF_Mo_130 : ip_F lg_tbl vwCl "ShareHouseModel" 130 12 73 (.array .int) true := ⟨RX12, TX12, 146, rfl, wsX12_in, by decide, rfl, tyX12_ok 73 (by decide), rfl, ⟨tyX12, tyX12_ok⟩, nmX12, Or.inl (tt_7 _ (List.mem_of_getElem? (i := 148) rfl) rfl)⟩
theorem fF_Mo_130p : ip_Fp lg_tbl vwCl "ShareHouseModel" 130 12 73 (.array .int) := ⟨TX12, 146, rfl, wsX12_in, by decide, rfl, tyX12_ok 73 (by decide), rfl, ⟨tyX12, tyX12_ok⟩, nmX12, tt_7 _ (List.mem_of_getElem? (i := 148) rfl) rfl⟩
theorem fF_Mo_133 : ip_F lg_tbl vwCl "ShareHouseModel" 133 12 74 (.array .int) true := ⟨RX12, TX12, 146, rfl, wsX12_in, by decide, rfl, tyX12_ok 74 (by decide), rfl, ⟨tyX12, tyX12_ok⟩, nmX12, Or.inl (tt_7 _ (List.mem_of_getElem? (i := 149) rfl) rfl)⟩
theorem fF_Mo_133p : ip_Fp lg_tbl vwCl "ShareHouseModel" 133 12 74 (.array .int) := ⟨TX12, 146, rfl, wsX12_in, by decide, rfl, tyX12_ok 74 (by decide), rfl, ⟨tyX12, tyX12_ok⟩, nmX12, tt_7 _ (List.mem_of_getElem? (i := 149) rfl) rfl⟩
theorem fF_Mo_136 : ip_F lg_tbl vwCl "ShareHouseModel" 136 12 76 (.array .int) true := ⟨RX12, TX12, 146, rfl, wsX12_in, by decide, rfl, tyX12_ok 76 (by decide), rfl, ⟨tyX12, tyX12_ok⟩, nmX12, Or.inl (tt_7 _ (List.mem_of_getElem? (i := 151) rfl) rfl)⟩
theorem fF_Mo_136p : ip_Fp lg_tbl vwCl "ShareHouseModel" 136 12 76 (.array .int) := ⟨TX12, 146, rfl, wsX12_in, by decide, rfl, tyX12_ok 76 (by decide), rfl, ⟨tyX12, tyX12_ok⟩, nmX12, tt_7 _ (List.mem_of_getElem? (i := 151) rfl) rfl⟩
theorem fF_Mo_139 : ip_F lg_tbl vwCl "ShareHouseModel" 139 12 77 (.array .int) true := ⟨RX12, TX12, 146, rfl, wsX12_in, by decide, rfl, tyX12_ok 77 (by decide), rfl, ⟨tyX12, tyX12_ok⟩, nmX12, Or.inl (tt_7 _ (List.mem_of_getElem? (i := 152) rfl) rfl)⟩
theorem fF_Mo_139p : ip_Fp lg_tbl vwCl "ShareHouseModel" 139 12 77 (.array .int) := ⟨TX12, 146, rfl, wsX12_in, by decide, rfl, tyX12_ok 77 (by decide), rfl, ⟨tyX12, tyX12_ok⟩, nmX12, tt_7 _ (List.mem_of_getElem? (i := 152) rfl) rfl⟩
theorem fF_Mo_142 : ip_F lg_tbl vwCl "ShareHouseModel" 142 12 78 (.array .int) true := ⟨RX12, TX12, 146, rfl, wsX12_in, by decide, rfl, tyX12_ok 78 (by decide), rfl, ⟨tyX12, tyX12_ok⟩, nmX12, Or.inl (tt_7 _ (List.mem_of_getElem? (i := 153) rfl) rfl)⟩
theorem fF_Mo_142p : ip_Fp lg_tbl vwCl "ShareHouseModel" 142 12 78 (.array .int) := ⟨TX12, 146, rfl, wsX12_in, by decide, rfl, tyX12_ok 78 (by decide), rfl, ⟨tyX12, tyX12_ok⟩, nmX12, tt_7 _ (List.mem_of_getElem? (i := 153) rfl) rfl⟩
theorem fF_Mo_145 : ip_F lg_tbl vwCl "ShareHouseModel" 145 12 79 (.array .long) true := ⟨RX12, TX12, 146, rfl, wsX12_in, by decide, rfl, tyX12_ok 79 (by decide), rfl, ⟨tyX12, tyX12_ok⟩, nmX12, Or.inl (tt_7 _ (List.mem_of_getElem? (i := 154) rfl) rfl)⟩
theorem fF_Mo_145p : ip_Fp lg_tbl vwCl "ShareHouseModel" 145 12 79 (.array .long) := ⟨TX12, 146, rfl, wsX12_in, by decide, rfl, tyX12_ok 79 (by decide), rfl, ⟨tyX12, tyX12_ok⟩, nmX12, tt_7 _ (List.mem_of_getElem? (i := 154) rfl) rfl⟩
theorem fF_Mo_148 : ip_F lg_tbl vwCl "ShareHouseModel" 148 12 80 (.array .long) true := ⟨RX12, TX12, 146, rfl, wsX12_in, by decide, rfl, tyX12_ok 80 (by decide), rfl, ⟨tyX12, tyX12_ok⟩, nmX12, Or.inl (tt_7 _ (List.mem_of_getElem? (i := 155) rfl) rfl)⟩
theorem fF_Mo_148p : ip_Fp lg_tbl vwCl "ShareHouseModel" 148 12 80 (.array .long) := ⟨TX12, 146, rfl, wsX12_in, by decide, rfl, tyX12_ok 80 (by decide), rfl, ⟨tyX12, tyX12_ok⟩, nmX12, tt_7 _ (List.mem_of_getElem? (i := 155) rfl) rfl⟩
theorem fF_Mo_151 : ip_F lg_tbl vwCl "ShareHouseModel" 151 12 81 (.array .int) true := ⟨RX12, TX12, 146, rfl, wsX12_in, by decide, rfl, tyX12_ok 81 (by decide), rfl, ⟨tyX12, tyX12_ok⟩, nmX12, Or.inl (tt_7 _ (List.mem_of_getElem? (i := 156) rfl) rfl)⟩
theorem fF_Mo_151p : ip_Fp lg_tbl vwCl "ShareHouseModel" 151 12 81 (.array .int) := ⟨TX12, 146, rfl, wsX12_in, by decide, rfl, tyX12_ok 81 (by decide), rfl, ⟨tyX12, tyX12_ok⟩, nmX12, tt_7 _ (List.mem_of_getElem? (i := 156) rfl) rfl⟩
theorem fF_Mo_154 : ip_F lg_tbl vwCl "ShareHouseModel" 154 12 82 (.array .int) true := ⟨RX12, TX12, 146, rfl, wsX12_in, by decide, rfl, tyX12_ok 82 (by decide), rfl, ⟨tyX12, tyX12_ok⟩, nmX12, Or.inl (tt_7 _ (List.mem_of_getElem? (i := 157) rfl) rfl)⟩
theorem fF_Mo_154p : ip_Fp lg_tbl vwCl "ShareHouseModel" 154 12 82 (.array .int) := ⟨TX12, 146, rfl, wsX12_in, by decide, rfl, tyX12_ok 82 (by decide), rfl, ⟨tyX12, tyX12_ok⟩, nmX12, tt_7 _ (List.mem_of_getElem? (i := 157) rfl) rfl⟩
theorem fF_Mo_158 : ip_F lg_tbl vwCl "ShareHouseModel" 158 12 84 (.array .int) true := ⟨RX12, TX12, 146, rfl, wsX12_in, by decide, rfl, tyX12_ok 84 (by decide), rfl, ⟨tyX12, tyX12_ok⟩, nmX12, Or.inl (tt_7 _ (List.mem_of_getElem? (i := 159) rfl) rfl)⟩
theorem fF_Mo_158p : ip_Fp lg_tbl vwCl "ShareHouseModel" 158 12 84 (.array .int) := ⟨TX12, 146, rfl, wsX12_in, by decide, rfl, tyX12_ok 84 (by decide), rfl, ⟨tyX12, tyX12_ok⟩, nmX12, tt_7 _ (List.mem_of_getElem? (i := 159) rfl) rfl⟩
theorem fF_Mo_161 : ip_F lg_tbl vwCl "ShareHouseModel" 161 12 86 (.array .int) true := ⟨RX12, TX12, 146, rfl, wsX12_in, by decide, rfl, tyX12_ok 86 (by decide), rfl, ⟨tyX12, tyX12_ok⟩, nmX12, Or.inl (tt_7 _ (List.mem_of_getElem? (i := 161) rfl) rfl)⟩
theorem fF_Mo_161p : ip_Fp lg_tbl vwCl "ShareHouseModel" 161 12 86 (.array .int) := ⟨TX12, 146, rfl, wsX12_in, by decide, rfl, tyX12_ok 86 (by decide), rfl, ⟨tyX12, tyX12_ok⟩, nmX12, tt_7 _ (List.mem_of_getElem? (i := 161) rfl) rfl⟩
theorem fF_Mo_164 : ip_F lg_tbl vwCl "ShareHouseModel" 164 12 87 (.array .int) true := ⟨RX12, TX12, 146, rfl, wsX12_in, by decide, rfl, tyX12_ok 87 (by decide), rfl, ⟨tyX12, tyX12_ok⟩, nmX12, Or.inl (tt_7 _ (List.mem_of_getElem? (i := 162) rfl) rfl)⟩
theorem fF_Mo_164p : ip_Fp lg_tbl vwCl "ShareHouseModel" 164 12 87 (.array .int) := ⟨TX12, 146, rfl, wsX12_in, by decide, rfl, tyX12_ok 87 (by decide), rfl, ⟨tyX12, tyX12_ok⟩, nmX12, tt_7 _ (List.mem_of_getElem? (i := 162) rfl) rfl⟩
theorem fF_Mo_167 : ip_F lg_tbl vwCl "ShareHouseModel" 167 12 88 (.array .int) true := ⟨RX12, TX12, 146, rfl, wsX12_in, by decide, rfl, tyX12_ok 88 (by decide), rfl, ⟨tyX12, tyX12_ok⟩, nmX12, Or.inl (tt_7 _ (List.mem_of_getElem? (i := 163) rfl) rfl)⟩
theorem fF_Mo_167p : ip_Fp lg_tbl vwCl "ShareHouseModel" 167 12 88 (.array .int) := ⟨TX12, 146, rfl, wsX12_in, by decide, rfl, tyX12_ok 88 (by decide), rfl, ⟨tyX12, tyX12_ok⟩, nmX12, tt_7 _ (List.mem_of_getElem? (i := 163) rfl) rfl⟩
theorem fF_Mo_170 : ip_F lg_tbl vwCl "ShareHouseModel" 170 12 89 (.array .int) true := ⟨RX12, TX12, 146, rfl, wsX12_in, by decide, rfl, tyX12_ok 89 (by decide), rfl, ⟨tyX12, tyX12_ok⟩, nmX12, Or.inl (tt_7 _ (List.mem_of_getElem? (i := 164) rfl) rfl)⟩
theorem fF_Mo_170p : ip_Fp lg_tbl vwCl "ShareHouseModel" 170 12 89 (.array .int) := ⟨TX12, 146, rfl, wsX12_in, by decide, rfl, tyX12_ok 89 (by decide), rfl, ⟨tyX12, tyX12_ok⟩, nmX12, tt_7 _ (List.mem_of_getElem? (i := 164) rfl) rfl⟩
theorem fF_Mo_173 : ip_F lg_tbl vwCl "ShareHouseModel" 173 12 90 (.array .int) true := ⟨RX12, TX12, 146, rfl, wsX12_in, by decide, rfl, tyX12_ok 90 (by decide), rfl, ⟨tyX12, tyX12_ok⟩, nmX12, Or.inl (tt_7 _ (List.mem_of_getElem? (i := 165) rfl) rfl)⟩
theorem fF_Mo_173p : ip_Fp lg_tbl vwCl "ShareHouseModel" 173 12 90 (.array .int) := ⟨TX12, 146, rfl, wsX12_in, by decide, rfl, tyX12_ok 90 (by decide), rfl, ⟨tyX12, tyX12_ok⟩, nmX12, tt_7 _ (List.mem_of_getElem? (i := 165) rfl) rfl⟩
theorem fF_Mo_176 : ip_F lg_tbl vwCl "ShareHouseModel" 176 12 91 (.array .int) true := ⟨RX12, TX12, 146, rfl, wsX12_in, by decide, rfl, tyX12_ok 91 (by decide), rfl, ⟨tyX12, tyX12_ok⟩, nmX12, Or.inl (tt_7 _ (List.mem_of_getElem? (i := 166) rfl) rfl)⟩
theorem fF_Mo_176p : ip_Fp lg_tbl vwCl "ShareHouseModel" 176 12 91 (.array .int) := ⟨TX12, 146, rfl, wsX12_in, by decide, rfl, tyX12_ok 91 (by decide), rfl, ⟨tyX12, tyX12_ok⟩, nmX12, tt_7 _ (List.mem_of_getElem? (i := 166) rfl) rfl⟩
theorem fF_Mo_179 : ip_F lg_tbl vwCl "ShareHouseModel" 179 12 92 (.array .int) true := ⟨RX12, TX12, 146, rfl, wsX12_in, by decide, rfl, tyX12_ok 92 (by decide), rfl, ⟨tyX12, tyX12_ok⟩, nmX12, Or.inl (tt_7 _ (List.mem_of_getElem? (i := 167) rfl) rfl)⟩
theorem fF_Mo_179p : ip_Fp lg_tbl vwCl "ShareHouseModel" 179 12 92 (.array .int) := ⟨TX12, 146, rfl, wsX12_in, by decide, rfl, tyX12_ok 92 (by decide), rfl, ⟨tyX12, tyX12_ok⟩, nmX12, tt_7 _ (List.mem_of_getElem? (i := 167) rfl) rfl⟩
theorem fF_Mo_182 : ip_F lg_tbl vwCl "ShareHouseModel" 182 12 93 (.array .int) true := ⟨RX12, TX12, 146, rfl, wsX12_in, by decide, rfl, tyX12_ok 93 (by decide), rfl, ⟨tyX12, tyX12_ok⟩, nmX12, Or.inl (tt_7 _ (List.mem_of_getElem? (i := 168) rfl) rfl)⟩
theorem fF_Mo_182p : ip_Fp lg_tbl vwCl "ShareHouseModel" 182 12 93 (.array .int) := ⟨TX12, 146, rfl, wsX12_in, by decide, rfl, tyX12_ok 93 (by decide), rfl, ⟨tyX12, tyX12_ok⟩, nmX12, tt_7 _ (List.mem_of_getElem? (i := 168) rfl) rfl⟩
theorem fF_Mo_185 : ip_F lg_tbl vwCl "ShareHouseModel" 185 12 95 (.array .int) true := ⟨RX12, TX12, 146, rfl, wsX12_in, by decide, rfl, tyX12_ok 95 (by decide), rfl, ⟨tyX12, tyX12_ok⟩, nmX12, Or.inl (tt_7 _ (List.mem_of_getElem? (i := 170) rfl) rfl)⟩
theorem fF_Mo_185p : ip_Fp lg_tbl vwCl "ShareHouseModel" 185 12 95 (.array .int) := ⟨TX12, 146, rfl, wsX12_in, by decide, rfl, tyX12_ok 95 (by decide), rfl, ⟨tyX12, tyX12_ok⟩, nmX12, tt_7 _ (List.mem_of_getElem? (i := 170) rfl) rfl⟩
theorem fF_Mo_188 : ip_F lg_tbl vwCl "ShareHouseModel" 188 12 96 (.array .int) true := ⟨RX12, TX12, 146, rfl, wsX12_in, by decide, rfl, tyX12_ok 96 (by decide), rfl, ⟨tyX12, tyX12_ok⟩, nmX12, Or.inl (tt_7 _ (List.mem_of_getElem? (i := 171) rfl) rfl)⟩
theorem fF_Mo_188p : ip_Fp lg_tbl vwCl "ShareHouseModel" 188 12 96 (.array .int) := ⟨TX12, 146, rfl, wsX12_in, by decide, rfl, tyX12_ok 96 (by decide), rfl, ⟨tyX12, tyX12_ok⟩, nmX12, tt_7 _ (List.mem_of_getElem? (i := 171) rfl) rfl⟩
theorem fF_Mo_191 : ip_F lg_tbl vwCl "ShareHouseModel" 191 12 98 (.array .int) true := ⟨RX12, TX12, 146, rfl, wsX12_in, by decide, rfl, tyX12_ok 98 (by decide), rfl, ⟨tyX12, tyX12_ok⟩, nmX12, Or.inl (tt_7 _ (List.mem_of_getElem? (i := 173) rfl) rfl)⟩
theorem fF_Mo_191p : ip_Fp lg_tbl vwCl "ShareHouseModel" 191 12 98 (.array .int) := ⟨TX12, 146, rfl, wsX12_in, by decide, rfl, tyX12_ok 98 (by decide), rfl, ⟨tyX12, tyX12_ok⟩, nmX12, tt_7 _ (List.mem_of_getElem? (i := 173) rfl) rfl⟩
theorem fF_Mo_194 : ip_F lg_tbl vwCl "ShareHouseModel" 194 12 99 (.array .int) true := ⟨RX12, TX12, 146, rfl, wsX12_in, by decide, rfl, tyX12_ok 99 (by decide), rfl, ⟨tyX12, tyX12_ok⟩, nmX12, Or.inl (tt_7 _ (List.mem_of_getElem? (i := 174) rfl) rfl)⟩
theorem fF_Mo_194p : ip_Fp lg_tbl vwCl "ShareHouseModel" 194 12 99 (.array .int) := ⟨TX12, 146, rfl, wsX12_in, by decide, rfl, tyX12_ok 99 (by decide), rfl, ⟨tyX12, tyX12_ok⟩, nmX12, tt_7 _ (List.mem_of_getElem? (i := 174) rfl) rfl⟩
theorem fF_Mo_197 : ip_F lg_tbl vwCl "ShareHouseModel" 197 12 100 (.array .int) true := ⟨RX12, TX12, 146, rfl, wsX12_in, by decide, rfl, tyX12_ok 100 (by decide), rfl, ⟨tyX12, tyX12_ok⟩, nmX12, Or.inl (tt_7 _ (List.mem_of_getElem? (i := 175) rfl) rfl)⟩
theorem fF_Mo_197p : ip_Fp lg_tbl vwCl "ShareHouseModel" 197 12 100 (.array .int) := ⟨TX12, 146, rfl, wsX12_in, by decide, rfl, tyX12_ok 100 (by decide), rfl, ⟨tyX12, tyX12_ok⟩, nmX12, tt_7 _ (List.mem_of_getElem? (i := 175) rfl) rfl⟩
theorem fF_Mo_200 : ip_F lg_tbl vwCl "ShareHouseModel" 200 12 102 (.array .int) true := ⟨RX12, TX12, 146, rfl, wsX12_in, by decide, rfl, tyX12_ok 102 (by decide), rfl, ⟨tyX12, tyX12_ok⟩, nmX12, Or.inl (tt_7 _ (List.mem_of_getElem? (i := 177) rfl) rfl)⟩
theorem fF_Mo_200p : ip_Fp lg_tbl vwCl "ShareHouseModel" 200 12 102 (.array .int) := ⟨TX12, 146, rfl, wsX12_in, by decide, rfl, tyX12_ok 102 (by decide), rfl, ⟨tyX12, tyX12_ok⟩, nmX12, tt_7 _ (List.mem_of_getElem? (i := 177) rfl) rfl⟩
theorem fF_Mo_203 : ip_F lg_tbl vwCl "ShareHouseModel" 203 12 103 (.array .int) true := ⟨RX12, TX12, 146, rfl, wsX12_in, by decide, rfl, tyX12_ok 103 (by decide), rfl, ⟨tyX12, tyX12_ok⟩, nmX12, Or.inl (tt_7 _ (List.mem_of_getElem? (i := 178) rfl) rfl)⟩
theorem fF_Mo_203p : ip_Fp lg_tbl vwCl "ShareHouseModel" 203 12 103 (.array .int) := ⟨TX12, 146, rfl, wsX12_in, by decide, rfl, tyX12_ok 103 (by decide), rfl, ⟨tyX12, tyX12_ok⟩, nmX12, tt_7 _ (List.mem_of_getElem? (i := 178) rfl) rfl⟩
theorem fF_Mo_206 : ip_F lg_tbl vwCl "ShareHouseModel" 206 12 104 (.array .boolean) true := ⟨RX12, TX12, 146, rfl, wsX12_in, by decide, rfl, tyX12_ok 104 (by decide), rfl, ⟨tyX12, tyX12_ok⟩, nmX12, Or.inl (tt_7 _ (List.mem_of_getElem? (i := 179) rfl) rfl)⟩
theorem fF_Mo_206p : ip_Fp lg_tbl vwCl "ShareHouseModel" 206 12 104 (.array .boolean) := ⟨TX12, 146, rfl, wsX12_in, by decide, rfl, tyX12_ok 104 (by decide), rfl, ⟨tyX12, tyX12_ok⟩, nmX12, tt_7 _ (List.mem_of_getElem? (i := 179) rfl) rfl⟩
theorem fF_Mo_210 : ip_F lg_tbl vwCl "ShareHouseModel" 210 12 105 (.array .int) true := ⟨RX12, TX12, 146, rfl, wsX12_in, by decide, rfl, tyX12_ok 105 (by decide), rfl, ⟨tyX12, tyX12_ok⟩, nmX12, Or.inl (tt_7 _ (List.mem_of_getElem? (i := 180) rfl) rfl)⟩
theorem fF_Mo_210p : ip_Fp lg_tbl vwCl "ShareHouseModel" 210 12 105 (.array .int) := ⟨TX12, 146, rfl, wsX12_in, by decide, rfl, tyX12_ok 105 (by decide), rfl, ⟨tyX12, tyX12_ok⟩, nmX12, tt_7 _ (List.mem_of_getElem? (i := 180) rfl) rfl⟩
theorem fF_Mo_213 : ip_F lg_tbl vwCl "ShareHouseModel" 213 12 106 (.array .int) true := ⟨RX12, TX12, 146, rfl, wsX12_in, by decide, rfl, tyX12_ok 106 (by decide), rfl, ⟨tyX12, tyX12_ok⟩, nmX12, Or.inl (tt_7 _ (List.mem_of_getElem? (i := 181) rfl) rfl)⟩
theorem fF_Mo_213p : ip_Fp lg_tbl vwCl "ShareHouseModel" 213 12 106 (.array .int) := ⟨TX12, 146, rfl, wsX12_in, by decide, rfl, tyX12_ok 106 (by decide), rfl, ⟨tyX12, tyX12_ok⟩, nmX12, tt_7 _ (List.mem_of_getElem? (i := 181) rfl) rfl⟩
theorem fF_Mo_216 : ip_F lg_tbl vwCl "ShareHouseModel" 216 12 107 (.array .long) true := ⟨RX12, TX12, 146, rfl, wsX12_in, by decide, rfl, tyX12_ok 107 (by decide), rfl, ⟨tyX12, tyX12_ok⟩, nmX12, Or.inl (tt_7 _ (List.mem_of_getElem? (i := 182) rfl) rfl)⟩
theorem fF_Mo_216p : ip_Fp lg_tbl vwCl "ShareHouseModel" 216 12 107 (.array .long) := ⟨TX12, 146, rfl, wsX12_in, by decide, rfl, tyX12_ok 107 (by decide), rfl, ⟨tyX12, tyX12_ok⟩, nmX12, tt_7 _ (List.mem_of_getElem? (i := 182) rfl) rfl⟩
theorem fF_Mo_219 : ip_F lg_tbl vwCl "ShareHouseModel" 219 12 108 (.array .long) true := ⟨RX12, TX12, 146, rfl, wsX12_in, by decide, rfl, tyX12_ok 108 (by decide), rfl, ⟨tyX12, tyX12_ok⟩, nmX12, Or.inl (tt_7 _ (List.mem_of_getElem? (i := 183) rfl) rfl)⟩
theorem fF_Mo_219p : ip_Fp lg_tbl vwCl "ShareHouseModel" 219 12 108 (.array .long) := ⟨TX12, 146, rfl, wsX12_in, by decide, rfl, tyX12_ok 108 (by decide), rfl, ⟨tyX12, tyX12_ok⟩, nmX12, tt_7 _ (List.mem_of_getElem? (i := 183) rfl) rfl⟩
theorem fF_Mo_222 : ip_F lg_tbl vwCl "ShareHouseModel" 222 12 109 (.array .int) true := ⟨RX12, TX12, 146, rfl, wsX12_in, by decide, rfl, tyX12_ok 109 (by decide), rfl, ⟨tyX12, tyX12_ok⟩, nmX12, Or.inl (tt_7 _ (List.mem_of_getElem? (i := 184) rfl) rfl)⟩
theorem fF_Mo_222p : ip_Fp lg_tbl vwCl "ShareHouseModel" 222 12 109 (.array .int) := ⟨TX12, 146, rfl, wsX12_in, by decide, rfl, tyX12_ok 109 (by decide), rfl, ⟨tyX12, tyX12_ok⟩, nmX12, tt_7 _ (List.mem_of_getElem? (i := 184) rfl) rfl⟩
theorem fF_Mo_225 : ip_F lg_tbl vwCl "ShareHouseModel" 225 12 111 (.array .int) true := ⟨RX12, TX12, 146, rfl, wsX12_in, by decide, rfl, tyX12_ok 111 (by decide), rfl, ⟨tyX12, tyX12_ok⟩, nmX12, Or.inl (tt_7 _ (List.mem_of_getElem? (i := 186) rfl) rfl)⟩
theorem fF_Mo_225p : ip_Fp lg_tbl vwCl "ShareHouseModel" 225 12 111 (.array .int) := ⟨TX12, 146, rfl, wsX12_in, by decide, rfl, tyX12_ok 111 (by decide), rfl, ⟨tyX12, tyX12_ok⟩, nmX12, tt_7 _ (List.mem_of_getElem? (i := 186) rfl) rfl⟩
theorem fF_Mo_228 : ip_F lg_tbl vwCl "ShareHouseModel" 228 12 112 (.array .int) true := ⟨RX12, TX12, 146, rfl, wsX12_in, by decide, rfl, tyX12_ok 112 (by decide), rfl, ⟨tyX12, tyX12_ok⟩, nmX12, Or.inl (tt_7 _ (List.mem_of_getElem? (i := 187) rfl) rfl)⟩
theorem fF_Mo_228p : ip_Fp lg_tbl vwCl "ShareHouseModel" 228 12 112 (.array .int) := ⟨TX12, 146, rfl, wsX12_in, by decide, rfl, tyX12_ok 112 (by decide), rfl, ⟨tyX12, tyX12_ok⟩, nmX12, tt_7 _ (List.mem_of_getElem? (i := 187) rfl) rfl⟩
theorem fF_Mo_231 : ip_F lg_tbl vwCl "ShareHouseModel" 231 12 113 (.array .int) true := ⟨RX12, TX12, 146, rfl, wsX12_in, by decide, rfl, tyX12_ok 113 (by decide), rfl, ⟨tyX12, tyX12_ok⟩, nmX12, Or.inl (tt_7 _ (List.mem_of_getElem? (i := 188) rfl) rfl)⟩
theorem fF_Mo_231p : ip_Fp lg_tbl vwCl "ShareHouseModel" 231 12 113 (.array .int) := ⟨TX12, 146, rfl, wsX12_in, by decide, rfl, tyX12_ok 113 (by decide), rfl, ⟨tyX12, tyX12_ok⟩, nmX12, tt_7 _ (List.mem_of_getElem? (i := 188) rfl) rfl⟩
theorem fF_Mo_234 : ip_F lg_tbl vwCl "ShareHouseModel" 234 12 114 (.array .long) true := ⟨RX12, TX12, 146, rfl, wsX12_in, by decide, rfl, tyX12_ok 114 (by decide), rfl, ⟨tyX12, tyX12_ok⟩, nmX12, Or.inl (tt_7 _ (List.mem_of_getElem? (i := 189) rfl) rfl)⟩
theorem fF_Mo_234p : ip_Fp lg_tbl vwCl "ShareHouseModel" 234 12 114 (.array .long) := ⟨TX12, 146, rfl, wsX12_in, by decide, rfl, tyX12_ok 114 (by decide), rfl, ⟨tyX12, tyX12_ok⟩, nmX12, tt_7 _ (List.mem_of_getElem? (i := 189) rfl) rfl⟩
theorem fF_Mo_237 : ip_F lg_tbl vwCl "ShareHouseModel" 237 12 116 (.array .long) true := ⟨RX12, TX12, 146, rfl, wsX12_in, by decide, rfl, tyX12_ok 116 (by decide), rfl, ⟨tyX12, tyX12_ok⟩, nmX12, Or.inl (tt_7 _ (List.mem_of_getElem? (i := 191) rfl) rfl)⟩
theorem fF_Mo_237p : ip_Fp lg_tbl vwCl "ShareHouseModel" 237 12 116 (.array .long) := ⟨TX12, 146, rfl, wsX12_in, by decide, rfl, tyX12_ok 116 (by decide), rfl, ⟨tyX12, tyX12_ok⟩, nmX12, tt_7 _ (List.mem_of_getElem? (i := 191) rfl) rfl⟩
theorem fF_Mo_240 : ip_F lg_tbl vwCl "ShareHouseModel" 240 12 117 (.array .long) true := ⟨RX12, TX12, 146, rfl, wsX12_in, by decide, rfl, tyX12_ok 117 (by decide), rfl, ⟨tyX12, tyX12_ok⟩, nmX12, Or.inl (tt_7 _ (List.mem_of_getElem? (i := 192) rfl) rfl)⟩
theorem fF_Mo_240p : ip_Fp lg_tbl vwCl "ShareHouseModel" 240 12 117 (.array .long) := ⟨TX12, 146, rfl, wsX12_in, by decide, rfl, tyX12_ok 117 (by decide), rfl, ⟨tyX12, tyX12_ok⟩, nmX12, tt_7 _ (List.mem_of_getElem? (i := 192) rfl) rfl⟩
theorem fF_Mo_243 : ip_F lg_tbl vwCl "ShareHouseModel" 243 12 123 (.array .int) true := ⟨RX12, TX12, 146, rfl, wsX12_in, by decide, rfl, tyX12_ok 123 (by decide), rfl, ⟨tyX12, tyX12_ok⟩, nmX12, Or.inl (tt_7 _ (List.mem_of_getElem? (i := 198) rfl) rfl)⟩
theorem fF_Mo_243p : ip_Fp lg_tbl vwCl "ShareHouseModel" 243 12 123 (.array .int) := ⟨TX12, 146, rfl, wsX12_in, by decide, rfl, tyX12_ok 123 (by decide), rfl, ⟨tyX12, tyX12_ok⟩, nmX12, tt_7 _ (List.mem_of_getElem? (i := 198) rfl) rfl⟩
theorem fF_Mo_247 : ip_F lg_tbl vwCl "ShareHouseModel" 247 12 125 (.array .int) true := ⟨RX12, TX12, 146, rfl, wsX12_in, by decide, rfl, tyX12_ok 125 (by decide), rfl, ⟨tyX12, tyX12_ok⟩, nmX12, Or.inl (tt_7 _ (List.mem_of_getElem? (i := 200) rfl) rfl)⟩
theorem fF_Mo_247p : ip_Fp lg_tbl vwCl "ShareHouseModel" 247 12 125 (.array .int) := ⟨TX12, 146, rfl, wsX12_in, by decide, rfl, tyX12_ok 125 (by decide), rfl, ⟨tyX12, tyX12_ok⟩, nmX12, tt_7 _ (List.mem_of_getElem? (i := 200) rfl) rfl⟩
theorem fF_Mo_250 : ip_F lg_tbl vwCl "ShareHouseModel" 250 12 126 (.array .int) true := ⟨RX12, TX12, 146, rfl, wsX12_in, by decide, rfl, tyX12_ok 126 (by decide), rfl, ⟨tyX12, tyX12_ok⟩, nmX12, Or.inl (tt_7 _ (List.mem_of_getElem? (i := 201) rfl) rfl)⟩
theorem fF_Mo_250p : ip_Fp lg_tbl vwCl "ShareHouseModel" 250 12 126 (.array .int) := ⟨TX12, 146, rfl, wsX12_in, by decide, rfl, tyX12_ok 126 (by decide), rfl, ⟨tyX12, tyX12_ok⟩, nmX12, tt_7 _ (List.mem_of_getElem? (i := 201) rfl) rfl⟩
theorem fF_Mo_253 : ip_F lg_tbl vwCl "ShareHouseModel" 253 12 127 (.array .int) true := ⟨RX12, TX12, 146, rfl, wsX12_in, by decide, rfl, tyX12_ok 127 (by decide), rfl, ⟨tyX12, tyX12_ok⟩, nmX12, Or.inl (tt_7 _ (List.mem_of_getElem? (i := 202) rfl) rfl)⟩
theorem fF_Mo_253p : ip_Fp lg_tbl vwCl "ShareHouseModel" 253 12 127 (.array .int) := ⟨TX12, 146, rfl, wsX12_in, by decide, rfl, tyX12_ok 127 (by decide), rfl, ⟨tyX12, tyX12_ok⟩, nmX12, tt_7 _ (List.mem_of_getElem? (i := 202) rfl) rfl⟩
theorem fF_Mo_256 : ip_F lg_tbl vwCl "ShareHouseModel" 256 12 128 (.array .int) true := ⟨RX12, TX12, 146, rfl, wsX12_in, by decide, rfl, tyX12_ok 128 (by decide), rfl, ⟨tyX12, tyX12_ok⟩, nmX12, Or.inl (tt_7 _ (List.mem_of_getElem? (i := 203) rfl) rfl)⟩
theorem fF_Mo_256p : ip_Fp lg_tbl vwCl "ShareHouseModel" 256 12 128 (.array .int) := ⟨TX12, 146, rfl, wsX12_in, by decide, rfl, tyX12_ok 128 (by decide), rfl, ⟨tyX12, tyX12_ok⟩, nmX12, tt_7 _ (List.mem_of_getElem? (i := 203) rfl) rfl⟩
theorem fF_Mo_259 : ip_F lg_tbl vwCl "ShareHouseModel" 259 12 129 (.array .int) true := ⟨RX12, TX12, 146, rfl, wsX12_in, by decide, rfl, tyX12_ok 129 (by decide), rfl, ⟨tyX12, tyX12_ok⟩, nmX12, Or.inl (tt_7 _ (List.mem_of_getElem? (i := 204) rfl) rfl)⟩
theorem fF_Mo_259p : ip_Fp lg_tbl vwCl "ShareHouseModel" 259 12 129 (.array .int) := ⟨TX12, 146, rfl, wsX12_in, by decide, rfl, tyX12_ok 129 (by decide), rfl, ⟨tyX12, tyX12_ok⟩, nmX12, tt_7 _ (List.mem_of_getElem? (i := 204) rfl) rfl⟩
theorem fF_Mo_262 : ip_F lg_tbl vwCl "ShareHouseModel" 262 12 130 (.array .int) true := ⟨RX12, TX12, 146, rfl, wsX12_in, by decide, rfl, tyX12_ok 130 (by decide), rfl, ⟨tyX12, tyX12_ok⟩, nmX12, Or.inl (tt_7 _ (List.mem_of_getElem? (i := 205) rfl) rfl)⟩
theorem fF_Mo_262p : ip_Fp lg_tbl vwCl "ShareHouseModel" 262 12 130 (.array .int) := ⟨TX12, 146, rfl, wsX12_in, by decide, rfl, tyX12_ok 130 (by decide), rfl, ⟨tyX12, tyX12_ok⟩, nmX12, tt_7 _ (List.mem_of_getElem? (i := 205) rfl) rfl⟩
theorem fF_Mo_265 : ip_F lg_tbl vwCl "ShareHouseModel" 265 12 132 (.array .int) true := ⟨RX12, TX12, 146, rfl, wsX12_in, by decide, rfl, tyX12_ok 132 (by decide), rfl, ⟨tyX12, tyX12_ok⟩, nmX12, Or.inl (tt_7 _ (List.mem_of_getElem? (i := 207) rfl) rfl)⟩
theorem fF_Mo_265p : ip_Fp lg_tbl vwCl "ShareHouseModel" 265 12 132 (.array .int) := ⟨TX12, 146, rfl, wsX12_in, by decide, rfl, tyX12_ok 132 (by decide), rfl, ⟨tyX12, tyX12_ok⟩, nmX12, tt_7 _ (List.mem_of_getElem? (i := 207) rfl) rfl⟩
theorem fF_Mo_268 : ip_F lg_tbl vwCl "ShareHouseModel" 268 12 133 (.array .int) true := ⟨RX12, TX12, 146, rfl, wsX12_in, by decide, rfl, tyX12_ok 133 (by decide), rfl, ⟨tyX12, tyX12_ok⟩, nmX12, Or.inl (tt_7 _ (List.mem_of_getElem? (i := 208) rfl) rfl)⟩
theorem fF_Mo_268p : ip_Fp lg_tbl vwCl "ShareHouseModel" 268 12 133 (.array .int) := ⟨TX12, 146, rfl, wsX12_in, by decide, rfl, tyX12_ok 133 (by decide), rfl, ⟨tyX12, tyX12_ok⟩, nmX12, tt_7 _ (List.mem_of_getElem? (i := 208) rfl) rfl⟩
theorem fF_Mo_271 : ip_F lg_tbl vwCl "ShareHouseModel" 271 12 134 (.array .int) true := ⟨RX12, TX12, 146, rfl, wsX12_in, by decide, rfl, tyX12_ok 134 (by decide), rfl, ⟨tyX12, tyX12_ok⟩, nmX12, Or.inl (tt_7 _ (List.mem_of_getElem? (i := 209) rfl) rfl)⟩
theorem fF_Mo_271p : ip_Fp lg_tbl vwCl "ShareHouseModel" 271 12 134 (.array .int) := ⟨TX12, 146, rfl, wsX12_in, by decide, rfl, tyX12_ok 134 (by decide), rfl, ⟨tyX12, tyX12_ok⟩, nmX12, tt_7 _ (List.mem_of_getElem? (i := 209) rfl) rfl⟩
theorem fF_Mo_274 : ip_F lg_tbl vwCl "ShareHouseModel" 274 12 135 (.array .int) true := ⟨RX12, TX12, 146, rfl, wsX12_in, by decide, rfl, tyX12_ok 135 (by decide), rfl, ⟨tyX12, tyX12_ok⟩, nmX12, Or.inl (tt_7 _ (List.mem_of_getElem? (i := 210) rfl) rfl)⟩
theorem fF_Mo_274p : ip_Fp lg_tbl vwCl "ShareHouseModel" 274 12 135 (.array .int) := ⟨TX12, 146, rfl, wsX12_in, by decide, rfl, tyX12_ok 135 (by decide), rfl, ⟨tyX12, tyX12_ok⟩, nmX12, tt_7 _ (List.mem_of_getElem? (i := 210) rfl) rfl⟩
theorem fF_Mo_277 : ip_F lg_tbl vwCl "ShareHouseModel" 277 12 136 (.array .int) true := ⟨RX12, TX12, 146, rfl, wsX12_in, by decide, rfl, tyX12_ok 136 (by decide), rfl, ⟨tyX12, tyX12_ok⟩, nmX12, Or.inl (tt_7 _ (List.mem_of_getElem? (i := 211) rfl) rfl)⟩
theorem fF_Mo_277p : ip_Fp lg_tbl vwCl "ShareHouseModel" 277 12 136 (.array .int) := ⟨TX12, 146, rfl, wsX12_in, by decide, rfl, tyX12_ok 136 (by decide), rfl, ⟨tyX12, tyX12_ok⟩, nmX12, tt_7 _ (List.mem_of_getElem? (i := 211) rfl) rfl⟩
theorem fF_Mo_281 : ip_F lg_tbl vwCl "ShareHouseModel" 281 12 137 (.array .int) true := ⟨RX12, TX12, 146, rfl, wsX12_in, by decide, rfl, tyX12_ok 137 (by decide), rfl, ⟨tyX12, tyX12_ok⟩, nmX12, Or.inl (tt_7 _ (List.mem_of_getElem? (i := 212) rfl) rfl)⟩
theorem fF_Mo_281p : ip_Fp lg_tbl vwCl "ShareHouseModel" 281 12 137 (.array .int) := ⟨TX12, 146, rfl, wsX12_in, by decide, rfl, tyX12_ok 137 (by decide), rfl, ⟨tyX12, tyX12_ok⟩, nmX12, tt_7 _ (List.mem_of_getElem? (i := 212) rfl) rfl⟩
theorem fF_Mo_284 : ip_F lg_tbl vwCl "ShareHouseModel" 284 12 138 (.array .int) true := ⟨RX12, TX12, 146, rfl, wsX12_in, by decide, rfl, tyX12_ok 138 (by decide), rfl, ⟨tyX12, tyX12_ok⟩, nmX12, Or.inl (tt_7 _ (List.mem_of_getElem? (i := 213) rfl) rfl)⟩
theorem fF_Mo_284p : ip_Fp lg_tbl vwCl "ShareHouseModel" 284 12 138 (.array .int) := ⟨TX12, 146, rfl, wsX12_in, by decide, rfl, tyX12_ok 138 (by decide), rfl, ⟨tyX12, tyX12_ok⟩, nmX12, tt_7 _ (List.mem_of_getElem? (i := 213) rfl) rfl⟩
theorem fF_Mo_287 : ip_F lg_tbl vwCl "ShareHouseModel" 287 12 141 (.array .int) true := ⟨RX12, TX12, 146, rfl, wsX12_in, by decide, rfl, tyX12_ok 141 (by decide), rfl, ⟨tyX12, tyX12_ok⟩, nmX12, Or.inl (tt_7 _ (List.mem_of_getElem? (i := 216) rfl) rfl)⟩
theorem fF_Mo_287p : ip_Fp lg_tbl vwCl "ShareHouseModel" 287 12 141 (.array .int) := ⟨TX12, 146, rfl, wsX12_in, by decide, rfl, tyX12_ok 141 (by decide), rfl, ⟨tyX12, tyX12_ok⟩, nmX12, tt_7 _ (List.mem_of_getElem? (i := 216) rfl) rfl⟩
theorem fF_Mo_290 : ip_F lg_tbl vwCl "ShareHouseModel" 290 12 142 (.array .int) true := ⟨RX12, TX12, 146, rfl, wsX12_in, by decide, rfl, tyX12_ok 142 (by decide), rfl, ⟨tyX12, tyX12_ok⟩, nmX12, Or.inl (tt_7 _ (List.mem_of_getElem? (i := 217) rfl) rfl)⟩
theorem fF_Mo_290p : ip_Fp lg_tbl vwCl "ShareHouseModel" 290 12 142 (.array .int) := ⟨TX12, 146, rfl, wsX12_in, by decide, rfl, tyX12_ok 142 (by decide), rfl, ⟨tyX12, tyX12_ok⟩, nmX12, tt_7 _ (List.mem_of_getElem? (i := 217) rfl) rfl⟩
theorem fF_Mo_293 : ip_F lg_tbl vwCl "ShareHouseModel" 293 12 143 (.array .int) true := ⟨RX12, TX12, 146, rfl, wsX12_in, by decide, rfl, tyX12_ok 143 (by decide), rfl, ⟨tyX12, tyX12_ok⟩, nmX12, Or.inl (tt_7 _ (List.mem_of_getElem? (i := 218) rfl) rfl)⟩
theorem fF_Mo_293p : ip_Fp lg_tbl vwCl "ShareHouseModel" 293 12 143 (.array .int) := ⟨TX12, 146, rfl, wsX12_in, by decide, rfl, tyX12_ok 143 (by decide), rfl, ⟨tyX12, tyX12_ok⟩, nmX12, tt_7 _ (List.mem_of_getElem? (i := 218) rfl) rfl⟩
theorem fF_Mo_296 : ip_F lg_tbl vwCl "ShareHouseModel" 296 12 144 (.array .int) true := ⟨RX12, TX12, 146, rfl, wsX12_in, by decide, rfl, tyX12_ok 144 (by decide), rfl, ⟨tyX12, tyX12_ok⟩, nmX12, Or.inl (tt_7 _ (List.mem_of_getElem? (i := 219) rfl) rfl)⟩
theorem fF_Mo_296p : ip_Fp lg_tbl vwCl "ShareHouseModel" 296 12 144 (.array .int) := ⟨TX12, 146, rfl, wsX12_in, by decide, rfl, tyX12_ok 144 (by decide), rfl, ⟨tyX12, tyX12_ok⟩, nmX12, tt_7 _ (List.mem_of_getElem? (i := 219) rfl) rfl⟩
theorem fF_Mo_299 : ip_F lg_tbl vwCl "ShareHouseModel" 299 12 0 (.int) true := ⟨RX12, TX12, 146, rfl, wsX12_in, by decide, rfl, tyX12_ok 0 (by decide), rfl, ⟨tyX12, tyX12_ok⟩, nmX12, Or.inl (tt_7 _ (List.mem_of_getElem? (i := 75) rfl) rfl)⟩
theorem fF_Mo_299p : ip_Fp lg_tbl vwCl "ShareHouseModel" 299 12 0 (.int) := ⟨TX12, 146, rfl, wsX12_in, by decide, rfl, tyX12_ok 0 (by decide), rfl, ⟨tyX12, tyX12_ok⟩, nmX12, tt_7 _ (List.mem_of_getElem? (i := 75) rfl) rfl⟩
theorem fF_Mo_303 : ip_F lg_tbl vwCl "ShareHouseModel" 303 12 1 (.int) true := ⟨RX12, TX12, 146, rfl, wsX12_in, by decide, rfl, tyX12_ok 1 (by decide), rfl, ⟨tyX12, tyX12_ok⟩, nmX12, Or.inl (tt_7 _ (List.mem_of_getElem? (i := 76) rfl) rfl)⟩
theorem fF_Mo_303p : ip_Fp lg_tbl vwCl "ShareHouseModel" 303 12 1 (.int) := ⟨TX12, 146, rfl, wsX12_in, by decide, rfl, tyX12_ok 1 (by decide), rfl, ⟨tyX12, tyX12_ok⟩, nmX12, tt_7 _ (List.mem_of_getElem? (i := 76) rfl) rfl⟩
theorem fF_Mo_306 : ip_F lg_tbl vwCl "ShareHouseModel" 306 12 2 (.long) true := ⟨RX12, TX12, 146, rfl, wsX12_in, by decide, rfl, tyX12_ok 2 (by decide), rfl, ⟨tyX12, tyX12_ok⟩, nmX12, Or.inl (tt_7 _ (List.mem_of_getElem? (i := 77) rfl) rfl)⟩
theorem fF_Mo_306p : ip_Fp lg_tbl vwCl "ShareHouseModel" 306 12 2 (.long) := ⟨TX12, 146, rfl, wsX12_in, by decide, rfl, tyX12_ok 2 (by decide), rfl, ⟨tyX12, tyX12_ok⟩, nmX12, tt_7 _ (List.mem_of_getElem? (i := 77) rfl) rfl⟩
theorem fF_Mo_310 : ip_F lg_tbl vwCl "ShareHouseModel" 310 12 120 (.int) false := ⟨RX12, TX12, 146, rfl, wsX12_in, by decide, rfl, tyX12_ok 120 (by decide), rfl, ⟨tyX12, tyX12_ok⟩, nmX12, Or.inl (tt_7 _ (List.mem_of_getElem? (i := 195) rfl) rfl)⟩
theorem fF_Mo_313 : ip_F lg_tbl vwCl "ShareHouseModel" 313 12 8 (.int) false := ⟨RX12, TX12, 146, rfl, wsX12_in, by decide, rfl, tyX12_ok 8 (by decide), rfl, ⟨tyX12, tyX12_ok⟩, nmX12, Or.inl (tt_7 _ (List.mem_of_getElem? (i := 83) rfl) rfl)⟩
theorem fF_Mo_320 : ip_F lg_tbl vwCl "ShareHouseModel" 320 12 5 (.int) false := ⟨RX12, TX12, 146, rfl, wsX12_in, by decide, rfl, tyX12_ok 5 (by decide), rfl, ⟨tyX12, tyX12_ok⟩, nmX12, Or.inl (tt_7 _ (List.mem_of_getElem? (i := 80) rfl) rfl)⟩
theorem fF_Mo_323 : ip_F lg_tbl vwCl "ShareHouseModel" 323 12 7 (.int) false := ⟨RX12, TX12, 146, rfl, wsX12_in, by decide, rfl, tyX12_ok 7 (by decide), rfl, ⟨tyX12, tyX12_ok⟩, nmX12, Or.inl (tt_7 _ (List.mem_of_getElem? (i := 82) rfl) rfl)⟩
theorem fF_Mo_326 : ip_F lg_tbl vwCl "ShareHouseModel" 326 12 6 (.int) false := ⟨RX12, TX12, 146, rfl, wsX12_in, by decide, rfl, tyX12_ok 6 (by decide), rfl, ⟨tyX12, tyX12_ok⟩, nmX12, Or.inl (tt_7 _ (List.mem_of_getElem? (i := 81) rfl) rfl)⟩
theorem fF_Mo_393 : ip_F lg_tbl vwCl "ShareHouseModel" 393 12 9 (.int) false := ⟨RX12, TX12, 146, rfl, wsX12_in, by decide, rfl, tyX12_ok 9 (by decide), rfl, ⟨tyX12, tyX12_ok⟩, nmX12, Or.inl (tt_7 _ (List.mem_of_getElem? (i := 84) rfl) rfl)⟩
theorem fF_Mo_396 : ip_F lg_tbl vwCl "ShareHouseModel" 396 12 12 (.long) false := ⟨RX12, TX12, 146, rfl, wsX12_in, by decide, rfl, tyX12_ok 12 (by decide), rfl, ⟨tyX12, tyX12_ok⟩, nmX12, Or.inl (tt_7 _ (List.mem_of_getElem? (i := 87) rfl) rfl)⟩
theorem fF_Mo_411 : ip_F lg_tbl vwCl "ShareHouseModel" 411 12 13 (.int) false := ⟨RX12, TX12, 146, rfl, wsX12_in, by decide, rfl, tyX12_ok 13 (by decide), rfl, ⟨tyX12, tyX12_ok⟩, nmX12, Or.inl (tt_7 _ (List.mem_of_getElem? (i := 88) rfl) rfl)⟩
theorem fF_Mo_414 : ip_F lg_tbl vwCl "ShareHouseModel" 414 12 19 (.int) false := ⟨RX12, TX12, 146, rfl, wsX12_in, by decide, rfl, tyX12_ok 19 (by decide), rfl, ⟨tyX12, tyX12_ok⟩, nmX12, Or.inl (tt_7 _ (List.mem_of_getElem? (i := 94) rfl) rfl)⟩
theorem fF_Mo_417 : ip_F lg_tbl vwCl "ShareHouseModel" 417 12 20 (.int) false := ⟨RX12, TX12, 146, rfl, wsX12_in, by decide, rfl, tyX12_ok 20 (by decide), rfl, ⟨tyX12, tyX12_ok⟩, nmX12, Or.inl (tt_7 _ (List.mem_of_getElem? (i := 95) rfl) rfl)⟩
theorem fF_Mo_463 : ip_F lg_tbl vwCl "ShareHouseModel" 463 12 25 (.boolean) false := ⟨RX12, TX12, 146, rfl, wsX12_in, by decide, rfl, tyX12_ok 25 (by decide), rfl, ⟨tyX12, tyX12_ok⟩, nmX12, Or.inl (tt_7 _ (List.mem_of_getElem? (i := 100) rfl) rfl)⟩
theorem fF_Mo_470 : ip_F lg_tbl vwCl "ShareHouseModel" 470 12 32 (.int) false := ⟨RX12, TX12, 146, rfl, wsX12_in, by decide, rfl, tyX12_ok 32 (by decide), rfl, ⟨tyX12, tyX12_ok⟩, nmX12, Or.inl (tt_7 _ (List.mem_of_getElem? (i := 107) rfl) rfl)⟩
theorem fF_Mo_476 : ip_F lg_tbl vwCl "ShareHouseModel" 476 12 31 (.int) false := ⟨RX12, TX12, 146, rfl, wsX12_in, by decide, rfl, tyX12_ok 31 (by decide), rfl, ⟨tyX12, tyX12_ok⟩, nmX12, Or.inl (tt_7 _ (List.mem_of_getElem? (i := 106) rfl) rfl)⟩
theorem fF_Mo_488 : ip_F lg_tbl vwCl "ShareHouseModel" 488 12 29 (.int) false := ⟨RX12, TX12, 146, rfl, wsX12_in, by decide, rfl, tyX12_ok 29 (by decide), rfl, ⟨tyX12, tyX12_ok⟩, nmX12, Or.inl (tt_7 _ (List.mem_of_getElem? (i := 104) rfl) rfl)⟩
theorem fF_Mo_493 : ip_F lg_tbl vwCl "ShareHouseModel" 493 12 30 (.int) false := ⟨RX12, TX12, 146, rfl, wsX12_in, by decide, rfl, tyX12_ok 30 (by decide), rfl, ⟨tyX12, tyX12_ok⟩, nmX12, Or.inl (tt_7 _ (List.mem_of_getElem? (i := 105) rfl) rfl)⟩
theorem fF_Mo_501 : ip_F lg_tbl vwCl "ShareHouseModel" 501 12 26 (.int) false := ⟨RX12, TX12, 146, rfl, wsX12_in, by decide, rfl, tyX12_ok 26 (by decide), rfl, ⟨tyX12, tyX12_ok⟩, nmX12, Or.inl (tt_7 _ (List.mem_of_getElem? (i := 101) rfl) rfl)⟩
theorem fF_Mo_534 : ip_F lg_tbl vwCl "ShareHouseModel" 534 12 34 (.int) false := ⟨RX12, TX12, 146, rfl, wsX12_in, by decide, rfl, tyX12_ok 34 (by decide), rfl, ⟨tyX12, tyX12_ok⟩, nmX12, Or.inl (tt_7 _ (List.mem_of_getElem? (i := 109) rfl) rfl)⟩
theorem fF_Mo_537 : ip_F lg_tbl vwCl "ShareHouseModel" 537 12 47 (.boolean) false := ⟨RX12, TX12, 146, rfl, wsX12_in, by decide, rfl, tyX12_ok 47 (by decide), rfl, ⟨tyX12, tyX12_ok⟩, nmX12, Or.inl (tt_7 _ (List.mem_of_getElem? (i := 122) rfl) rfl)⟩
theorem fF_Mo_540 : ip_F lg_tbl vwCl "ShareHouseModel" 540 12 43 (.int) false := ⟨RX12, TX12, 146, rfl, wsX12_in, by decide, rfl, tyX12_ok 43 (by decide), rfl, ⟨tyX12, tyX12_ok⟩, nmX12, Or.inl (tt_7 _ (List.mem_of_getElem? (i := 118) rfl) rfl)⟩
theorem fF_Mo_546 : ip_F lg_tbl vwCl "ShareHouseModel" 546 12 49 (.int) false := ⟨RX12, TX12, 146, rfl, wsX12_in, by decide, rfl, tyX12_ok 49 (by decide), rfl, ⟨tyX12, tyX12_ok⟩, nmX12, Or.inl (tt_7 _ (List.mem_of_getElem? (i := 124) rfl) rfl)⟩
theorem fF_Mo_549 : ip_F lg_tbl vwCl "ShareHouseModel" 549 12 56 (.int) false := ⟨RX12, TX12, 146, rfl, wsX12_in, by decide, rfl, tyX12_ok 56 (by decide), rfl, ⟨tyX12, tyX12_ok⟩, nmX12, Or.inl (tt_7 _ (List.mem_of_getElem? (i := 131) rfl) rfl)⟩
theorem fF_Mo_552 : ip_F lg_tbl vwCl "ShareHouseModel" 552 12 60 (.int) false := ⟨RX12, TX12, 146, rfl, wsX12_in, by decide, rfl, tyX12_ok 60 (by decide), rfl, ⟨tyX12, tyX12_ok⟩, nmX12, Or.inl (tt_7 _ (List.mem_of_getElem? (i := 135) rfl) rfl)⟩
theorem fF_Mo_555 : ip_F lg_tbl vwCl "ShareHouseModel" 555 12 59 (.int) false := ⟨RX12, TX12, 146, rfl, wsX12_in, by decide, rfl, tyX12_ok 59 (by decide), rfl, ⟨tyX12, tyX12_ok⟩, nmX12, Or.inl (tt_7 _ (List.mem_of_getElem? (i := 134) rfl) rfl)⟩
theorem fF_Mo_595 : ip_F lg_tbl vwCl "ShareHouseModel" 595 12 61 (.int) false := ⟨RX12, TX12, 146, rfl, wsX12_in, by decide, rfl, tyX12_ok 61 (by decide), rfl, ⟨tyX12, tyX12_ok⟩, nmX12, Or.inl (tt_7 _ (List.mem_of_getElem? (i := 136) rfl) rfl)⟩
theorem fF_Mo_598 : ip_F lg_tbl vwCl "ShareHouseModel" 598 12 62 (.int) false := ⟨RX12, TX12, 146, rfl, wsX12_in, by decide, rfl, tyX12_ok 62 (by decide), rfl, ⟨tyX12, tyX12_ok⟩, nmX12, Or.inl (tt_7 _ (List.mem_of_getElem? (i := 137) rfl) rfl)⟩
theorem fF_Mo_601 : ip_F lg_tbl vwCl "ShareHouseModel" 601 12 63 (.int) false := ⟨RX12, TX12, 146, rfl, wsX12_in, by decide, rfl, tyX12_ok 63 (by decide), rfl, ⟨tyX12, tyX12_ok⟩, nmX12, Or.inl (tt_7 _ (List.mem_of_getElem? (i := 138) rfl) rfl)⟩
theorem fF_Mo_618 : ip_F lg_tbl vwCl "ShareHouseModel" 618 12 65 (.int) false := ⟨RX12, TX12, 146, rfl, wsX12_in, by decide, rfl, tyX12_ok 65 (by decide), rfl, ⟨tyX12, tyX12_ok⟩, nmX12, Or.inl (tt_7 _ (List.mem_of_getElem? (i := 140) rfl) rfl)⟩
theorem fF_Mo_621 : ip_F lg_tbl vwCl "ShareHouseModel" 621 12 94 (.int) false := ⟨RX12, TX12, 146, rfl, wsX12_in, by decide, rfl, tyX12_ok 94 (by decide), rfl, ⟨tyX12, tyX12_ok⟩, nmX12, Or.inl (tt_7 _ (List.mem_of_getElem? (i := 169) rfl) rfl)⟩
theorem fF_Mo_624 : ip_F lg_tbl vwCl "ShareHouseModel" 624 12 66 (.int) false := ⟨RX12, TX12, 146, rfl, wsX12_in, by decide, rfl, tyX12_ok 66 (by decide), rfl, ⟨tyX12, tyX12_ok⟩, nmX12, Or.inl (tt_7 _ (List.mem_of_getElem? (i := 141) rfl) rfl)⟩
theorem fF_Mo_630 : ip_F lg_tbl vwCl "ShareHouseModel" 630 12 67 (.int) false := ⟨RX12, TX12, 146, rfl, wsX12_in, by decide, rfl, tyX12_ok 67 (by decide), rfl, ⟨tyX12, tyX12_ok⟩, nmX12, Or.inl (tt_7 _ (List.mem_of_getElem? (i := 142) rfl) rfl)⟩
theorem fF_Mo_633 : ip_F lg_tbl vwCl "ShareHouseModel" 633 12 68 (.int) false := ⟨RX12, TX12, 146, rfl, wsX12_in, by decide, rfl, tyX12_ok 68 (by decide), rfl, ⟨tyX12, tyX12_ok⟩, nmX12, Or.inl (tt_7 _ (List.mem_of_getElem? (i := 143) rfl) rfl)⟩
theorem fF_Mo_649 : ip_F lg_tbl vwCl "ShareHouseModel" 649 12 85 (.int) false := ⟨RX12, TX12, 146, rfl, wsX12_in, by decide, rfl, tyX12_ok 85 (by decide), rfl, ⟨tyX12, tyX12_ok⟩, nmX12, Or.inl (tt_7 _ (List.mem_of_getElem? (i := 160) rfl) rfl)⟩
theorem fF_Mo_659 : ip_F lg_tbl vwCl "ShareHouseModel" 659 12 70 (.int) false := ⟨RX12, TX12, 146, rfl, wsX12_in, by decide, rfl, tyX12_ok 70 (by decide), rfl, ⟨tyX12, tyX12_ok⟩, nmX12, Or.inl (tt_7 _ (List.mem_of_getElem? (i := 145) rfl) rfl)⟩
theorem fF_Mo_663 : ip_F lg_tbl vwCl "ShareHouseModel" 663 12 75 (.int) false := ⟨RX12, TX12, 146, rfl, wsX12_in, by decide, rfl, tyX12_ok 75 (by decide), rfl, ⟨tyX12, tyX12_ok⟩, nmX12, Or.inl (tt_7 _ (List.mem_of_getElem? (i := 150) rfl) rfl)⟩
theorem fF_Mo_672 : ip_F lg_tbl vwCl "ShareHouseModel" 672 12 69 (.int) false := ⟨RX12, TX12, 146, rfl, wsX12_in, by decide, rfl, tyX12_ok 69 (by decide), rfl, ⟨tyX12, tyX12_ok⟩, nmX12, Or.inl (tt_7 _ (List.mem_of_getElem? (i := 144) rfl) rfl)⟩
theorem fF_Mo_675 : ip_F lg_tbl vwCl "ShareHouseModel" 675 12 97 (.int) false := ⟨RX12, TX12, 146, rfl, wsX12_in, by decide, rfl, tyX12_ok 97 (by decide), rfl, ⟨tyX12, tyX12_ok⟩, nmX12, Or.inl (tt_7 _ (List.mem_of_getElem? (i := 172) rfl) rfl)⟩
theorem fF_Mo_678 : ip_F lg_tbl vwCl "ShareHouseModel" 678 12 101 (.int) false := ⟨RX12, TX12, 146, rfl, wsX12_in, by decide, rfl, tyX12_ok 101 (by decide), rfl, ⟨tyX12, tyX12_ok⟩, nmX12, Or.inl (tt_7 _ (List.mem_of_getElem? (i := 176) rfl) rfl)⟩
theorem fF_Mo_681 : ip_F lg_tbl vwCl "ShareHouseModel" 681 12 110 (.int) false := ⟨RX12, TX12, 146, rfl, wsX12_in, by decide, rfl, tyX12_ok 110 (by decide), rfl, ⟨tyX12, tyX12_ok⟩, nmX12, Or.inl (tt_7 _ (List.mem_of_getElem? (i := 185) rfl) rfl)⟩
theorem fF_Mo_762 : ip_F lg_tbl vwCl "ShareHouseModel" 762 12 124 (.boolean) false := ⟨RX12, TX12, 146, rfl, wsX12_in, by decide, rfl, tyX12_ok 124 (by decide), rfl, ⟨tyX12, tyX12_ok⟩, nmX12, Or.inl (tt_7 _ (List.mem_of_getElem? (i := 199) rfl) rfl)⟩
theorem fF_Mo_765 : ip_F lg_tbl vwCl "ShareHouseModel" 765 12 115 (.int) false := ⟨RX12, TX12, 146, rfl, wsX12_in, by decide, rfl, tyX12_ok 115 (by decide), rfl, ⟨tyX12, tyX12_ok⟩, nmX12, Or.inl (tt_7 _ (List.mem_of_getElem? (i := 190) rfl) rfl)⟩
theorem fF_Mo_768 : ip_F lg_tbl vwCl "ShareHouseModel" 768 12 118 (.int) false := ⟨RX12, TX12, 146, rfl, wsX12_in, by decide, rfl, tyX12_ok 118 (by decide), rfl, ⟨tyX12, tyX12_ok⟩, nmX12, Or.inl (tt_7 _ (List.mem_of_getElem? (i := 193) rfl) rfl)⟩
theorem fF_Mo_777 : ip_F lg_tbl vwCl "ShareHouseModel" 777 12 119 (.boolean) false := ⟨RX12, TX12, 146, rfl, wsX12_in, by decide, rfl, tyX12_ok 119 (by decide), rfl, ⟨tyX12, tyX12_ok⟩, nmX12, Or.inl (tt_7 _ (List.mem_of_getElem? (i := 194) rfl) rfl)⟩
theorem fF_Mo_797 : ip_F lg_tbl vwCl "ShareHouseModel" 797 12 121 (.int) false := ⟨RX12, TX12, 146, rfl, wsX12_in, by decide, rfl, tyX12_ok 121 (by decide), rfl, ⟨tyX12, tyX12_ok⟩, nmX12, Or.inl (tt_7 _ (List.mem_of_getElem? (i := 196) rfl) rfl)⟩
theorem fF_Mo_800 : ip_F lg_tbl vwCl "ShareHouseModel" 800 12 122 (.int) false := ⟨RX12, TX12, 146, rfl, wsX12_in, by decide, rfl, tyX12_ok 122 (by decide), rfl, ⟨tyX12, tyX12_ok⟩, nmX12, Or.inl (tt_7 _ (List.mem_of_getElem? (i := 197) rfl) rfl)⟩
theorem fF_Mo_818 : ip_F lg_tbl vwCl "ShareHouseModel" 818 12 139 (.int) false := ⟨RX12, TX12, 146, rfl, wsX12_in, by decide, rfl, tyX12_ok 139 (by decide), rfl, ⟨tyX12, tyX12_ok⟩, nmX12, Or.inl (tt_7 _ (List.mem_of_getElem? (i := 214) rfl) rfl)⟩
theorem fF_Mo_821 : ip_F lg_tbl vwCl "ShareHouseModel" 821 12 131 (.int) false := ⟨RX12, TX12, 146, rfl, wsX12_in, by decide, rfl, tyX12_ok 131 (by decide), rfl, ⟨tyX12, tyX12_ok⟩, nmX12, Or.inl (tt_7 _ (List.mem_of_getElem? (i := 206) rfl) rfl)⟩
theorem fF_Mo_824 : ip_F lg_tbl vwCl "ShareHouseModel" 824 12 145 (.int) false := ⟨RX12, TX12, 146, rfl, wsX12_in, by decide, rfl, tyX12_ok 145 (by decide), rfl, ⟨tyX12, tyX12_ok⟩, nmX12, Or.inl (tt_7 _ (List.mem_of_getElem? (i := 220) rfl) rfl)⟩
theorem fF_Mo_830 : ip_F lg_tbl vwCl "ShareHouseModel" 830 12 140 (.int) false := ⟨RX12, TX12, 146, rfl, wsX12_in, by decide, rfl, tyX12_ok 140 (by decide), rfl, ⟨tyX12, tyX12_ok⟩, nmX12, Or.inl (tt_7 _ (List.mem_of_getElem? (i := 215) rfl) rfl)⟩
theorem fF_Mo_848 : ip_F lg_tbl vwCl "ShareHouseModel" 848 12 83 (.boolean) false := ⟨RX12, TX12, 146, rfl, wsX12_in, by decide, rfl, tyX12_ok 83 (by decide), rfl, ⟨tyX12, tyX12_ok⟩, nmX12, Or.inl (tt_7 _ (List.mem_of_getElem? (i := 158) rfl) rfl)⟩
theorem fN_H_32 : ip_N lg_tbl vwCl "ShareHouse" 32 2 [.null, .null, .null, .null, .int 0, .int 0, .int 0] := ⟨RX2, TX2, 7, rfl, wsX2_in, ⟨tyX2, tyX2_ok, rfl⟩, tt_1 _ (List.mem_of_getElem? (i := 36) rfl) rfl, tt_1 _ (List.mem_of_getElem? (i := 37) rfl) rfl, tt_1 _ (List.mem_of_getElem? (i := 3) rfl) rfl⟩
theorem fN_H_39 : ip_N lg_tbl vwCl "ShareHouse" 39 6 [.null, .int 0, .null, .null, .null, .null, .null, .null, .null, .int 0, .null, .int 0, .int 0] := ⟨RX6, TX6, 13, rfl, wsX6_in, ⟨tyX6, tyX6_ok, rfl⟩, tt_1 _ (List.mem_of_getElem? (i := 83) rfl) rfl, tt_1 _ (List.mem_of_getElem? (i := 84) rfl) rfl, tt_1 _ (List.mem_of_getElem? (i := 4) rfl) rfl⟩
theorem fN_H_48 : ip_N lg_tbl vwCl "ShareHouse" 48 4 [.null, .null, .null, .null, .null, .null, .int 0, .int 0] := ⟨RX4, TX4, 8, rfl, wsX4_in, ⟨tyX4, tyX4_ok, rfl⟩, tt_1 _ (List.mem_of_getElem? (i := 143) rfl) rfl, tt_1 _ (List.mem_of_getElem? (i := 144) rfl) rfl, tt_1 _ (List.mem_of_getElem? (i := 5) rfl) rfl⟩
theorem fN_H_57 : ip_N lg_tbl vwCl "ShareHouse" 57 1 [.null, .null, .null, .null, .int 0, .int 0, .int 0, .int 0, .int 0, .null, .null, .null, .int 0, .null, .null, .null] := ⟨RX1, TX1, 16, rfl, wsX1_in, ⟨tyX1, tyX1_ok, rfl⟩, tt_1 _ (List.mem_of_getElem? (i := 192) rfl) rfl, tt_1 _ (List.mem_of_getElem? (i := 193) rfl) rfl, tt_1 _ (List.mem_of_getElem? (i := 6) rfl) rfl⟩
theorem fN_H_64 : ip_N lg_tbl vwCl "ShareHouse" 64 8 [.null, .null, .null, .null, .int 0, .int 0, .null, .null, .null, .int 0, .int 0] := ⟨RX8, TX8, 11, rfl, wsX8_in, ⟨tyX8, tyX8_ok, rfl⟩, tt_2 _ (List.mem_of_getElem? (i := 25) rfl) rfl, tt_2 _ (List.mem_of_getElem? (i := 26) rfl) rfl, tt_1 _ (List.mem_of_getElem? (i := 7) rfl) rfl⟩
theorem fN_H_73 : ip_N lg_tbl vwCl "ShareHouse" 73 9 [.null, .null, .null, .int 0, .null, .int 0, .null, .null, .null, .int 0, .int 0] := ⟨RX9, TX9, 11, rfl, wsX9_in, ⟨tyX9, tyX9_ok, rfl⟩, tt_2 _ (List.mem_of_getElem? (i := 90) rfl) rfl, tt_2 _ (List.mem_of_getElem? (i := 91) rfl) rfl, tt_1 _ (List.mem_of_getElem? (i := 9) rfl) rfl⟩
theorem fN_H_82 : ip_N lg_tbl vwCl "ShareHouse" 82 0 [.null, .null, .null, .null, .null, .int 0, .null, .null, .int 0, .null, .null, .null, .int 0, .int 0, .null, .null, .int 0, .int 0, .int 0] := ⟨RX0, TX0, 19, rfl, wsX0_in, ⟨tyX0, tyX0_ok, rfl⟩, tt_2 _ (List.mem_of_getElem? (i := 130) rfl) rfl, tt_2 _ (List.mem_of_getElem? (i := 131) rfl) rfl, tt_1 _ (List.mem_of_getElem? (i := 10) rfl) rfl⟩
theorem fN_H_91 : ip_N lg_tbl vwCl "ShareHouse" 91 3 [.int 0, .null, .int 0, .int 0, .int 0, .null, .null, .null, .null] := ⟨RX3, TX3, 9, rfl, wsX3_in, ⟨tyX3, tyX3_ok, rfl⟩, tt_2 _ (List.mem_of_getElem? (i := 224) rfl) rfl, tt_2 _ (List.mem_of_getElem? (i := 225) rfl) rfl, tt_1 _ (List.mem_of_getElem? (i := 12) rfl) rfl⟩
theorem fN_H_98 : ip_N lg_tbl vwCl "ShareHouse" 98 7 [.int 0, .null, .null, .null, .null, .null, .null, .null, .null, .null, .int 0, .int 0, .int 0, .null, .int 0] := ⟨RX7, TX7, 15, rfl, wsX7_in, ⟨tyX7, tyX7_ok, rfl⟩, tt_3 _ (List.mem_of_getElem? (i := 22) rfl) rfl, tt_3 _ (List.mem_of_getElem? (i := 23) rfl) rfl, tt_1 _ (List.mem_of_getElem? (i := 13) rfl) rfl⟩
theorem fN_Builder_51 : ip_N lg_tbl vwCl "ShareHouse$Builder" 51 5 [.null, .int 0, .null, .null, .null, .null, .null] := ⟨RX5, TX5, 7, rfl, wsX5_in, ⟨tyX5, tyX5_ok, rfl⟩, tt_2 _ (List.mem_of_getElem? (i := 136) rfl) rfl, tt_2 _ (List.mem_of_getElem? (i := 137) rfl) rfl, tt_1 _ (List.mem_of_getElem? (i := 11) rfl) rfl⟩
theorem fN_Reader_23 : ip_N lg_tbl vwCl "ShareHouse$Reader" 23 10 [.null, .int 0, .int 0, .int 0, .int 0] := ⟨RX10, TX10, 5, rfl, wsX10_in, ⟨tyX10, tyX10_ok, rfl⟩, tt_2 _ (List.mem_of_getElem? (i := 31) rfl) rfl, tt_2 _ (List.mem_of_getElem? (i := 32) rfl) rfl, tt_1 _ (List.mem_of_getElem? (i := 8) rfl) rfl⟩
theorem fN_La_7 : ip_N lg_tbl vwCl "ShareHouseLaw" 7 11 [.int 0, .int 0, .null, .null, .int 0, .null, .null, .null, .null, .null, .null, .null, .null, .null, .int 0, .int 0, .int 0] := ⟨RX11, TX11, 17, rfl, wsX11_in, ⟨tyX11, tyX11_ok, rfl⟩, tt_1 _ (List.mem_of_getElem? (i := 22) rfl) rfl, tt_1 _ (List.mem_of_getElem? (i := 23) rfl) rfl, tt_1 _ (List.mem_of_getElem? (i := 1) rfl) rfl⟩
theorem fN_La_18 : ip_N lg_tbl vwCl "ShareHouseLaw" 18 12 [.int 0, .int 0, .long 0, .null, .null, .int 0, .int 0, .int 0, .int 0, .int 0, .null, .null, .long 0, .int 0, .null, .null, .null, .null, .null, .int 0, .int 0, .null, .null, .null, .null, .int 0, .int 0, .null, .null, .int 0, .int 0, .int 0, .int 0, .null, .int 0, .null, .null, .null, .null, .null, .null, .null, .null, .int 0, .null, .null, .null, .int 0, .null, .int 0, .null, .null, .null, .null, .null, .null, .int 0, .null, .null, .int 0, .int 0, .int 0, .int 0, .int 0, .null, .int 0, .int 0, .int 0, .int 0, .int 0, .int 0, .null, .null, .null, .null, .int 0, .null, .null, .null, .null, .null, .null, .null, .int 0, .null, .int 0, .null, .null, .null, .null, .null, .null, .null, .null, .int 0, .null, .null, .int 0, .null, .null, .null, .int 0, .null, .null, .null, .null, .null, .null, .null, .null, .int 0, .null, .null, .null, .null, .int 0, .null, .null, .int 0, .int 0, .int 0, .int 0, .int 0, .null, .int 0, .null, .null, .null, .null, .null, .null, .int 0, .null, .null, .null, .null, .null, .null, .null, .int 0, .int 0, .null, .null, .null, .null, .int 0] := ⟨RX12, TX12, 146, rfl, wsX12_in, ⟨tyX12, tyX12_ok, rfl⟩, tt_7 _ (List.mem_of_getElem? (i := 64) rfl) rfl, tt_7 _ (List.mem_of_getElem? (i := 65) rfl) rfl, tt_1 _ (List.mem_of_getElem? (i := 14) rfl) rfl⟩
theorem fMmax : Cond.static Lib.Math.max.name ∈ lg_tbl ∧ Cond.initialized "java/lang/Math" ∈ lg_tbl ∧ Cond.code Lib.Math.max.name Lib.Math.max.code 2 (some .int) ∈ lg_tbl := ⟨tt_1 _ (List.mem_of_getElem? (i := 34) rfl) rfl, tt_1 _ (List.mem_of_getElem? (i := 2) rfl) rfl, tt_1 _ (List.mem_of_getElem? (i := 35) rfl) rfl⟩
theorem fMmin : Cond.static Lib.Math.min.name ∈ lg_tbl ∧ Cond.initialized "java/lang/Math" ∈ lg_tbl ∧ Cond.code Lib.Math.min.name Lib.Math.min.code 2 (some .int) ∈ lg_tbl := ⟨tt_1 _ (List.mem_of_getElem? (i := 31) rfl) rfl, tt_1 _ (List.mem_of_getElem? (i := 2) rfl) rfl, tt_1 _ (List.mem_of_getElem? (i := 32) rfl) rfl⟩
theorem fO : Cond.instanceMethod Lib.objectInit ∈ lg_tbl ∧ Cond.code Lib.objectInit ⟨#[0xb1]⟩ 1 none ∈ lg_tbl := ⟨tt_1 _ (List.mem_of_getElem? (i := 28) rfl) rfl, tt_1 _ (List.mem_of_getElem? (i := 29) rfl) rfl⟩
theorem fA4 : Cond.arrayClass .int ∈ lg_tbl ∧ Cond.arrayClass .byte ∈ lg_tbl ∧ Cond.arrayClass .boolean ∈ lg_tbl ∧ Cond.arrayClass .long ∈ lg_tbl := ⟨tt_1 _ (List.mem_of_getElem? (i := 82) rfl) rfl, tt_1 _ (List.mem_of_getElem? (i := 81) rfl) rfl, tt_9 _ (List.mem_of_getElem? (i := 34) rfl) rfl, tt_2 _ (List.mem_of_getElem? (i := 164) rfl) rfl⟩
def ip_nst : List Cond := [(Jvm.Cond.methodLinkNest "ShareHouse" (34 : Nat) ({ cls := "ShareHouse$Code", name := "<init>", desc := "()V" } : Jvm.MethodName) "ShareHouse"), (Jvm.Cond.methodLinkNest "ShareHouse" (59 : Nat) ({ cls := "ShareHouse$Circuit", name := "<init>", desc := "()V" } : Jvm.MethodName) "ShareHouse"), (Jvm.Cond.methodLinkNest "ShareHouse$Names" (53 : Nat) ({ cls := "ShareHouse", name := "fit", desc := "([II)[I" } : Jvm.MethodName) "ShareHouse"), (Jvm.Cond.methodLinkNest "ShareHouse$Code" (38 : Nat) ({ cls := "ShareHouse", name := "fit", desc := "([II)[I" } : Jvm.MethodName) "ShareHouse"), (Jvm.Cond.methodLinkNest "ShareHouse$Sorts" (167 : Nat) ({ cls := "ShareHouse", name := "fit", desc := "([II)[I" } : Jvm.MethodName) "ShareHouse"), (Jvm.Cond.methodLinkNest "ShareHouse$Circuit" (43 : Nat) ({ cls := "ShareHouse", name := "fit", desc := "([II)[I" } : Jvm.MethodName) "ShareHouse"), (Jvm.Cond.methodLinkNest "ShareHouse$Builder" (63 : Nat) ({ cls := "ShareHouse", name := "fit", desc := "([II)[I" } : Jvm.MethodName) "ShareHouse"), (Jvm.Cond.methodLinkNest "ShareHouse$Dealer" (52 : Nat) ({ cls := "ShareHouse", name := "fit", desc := "([II)[I" } : Jvm.MethodName) "ShareHouse"), (Jvm.Cond.methodLinkNest "ShareHouse$Dealer" (71 : Nat) ({ cls := "ShareHouse", name := "parity", desc := "(I)I" } : Jvm.MethodName) "ShareHouse"), (Jvm.Cond.methodLinkNest "ShareHouse$Post" (57 : Nat) ({ cls := "ShareHouse", name := "fit", desc := "([II)[I" } : Jvm.MethodName) "ShareHouse"), (Jvm.Cond.methodLinkNest "ShareHouse$Post" (151 : Nat) ({ cls := "ShareHouse", name := "parity", desc := "(I)I" } : Jvm.MethodName) "ShareHouse")]
def ip_gk (G : ip_G) : Prop := G.1 = lg_tbl ∧ G.2.1 = vwCl ∧ ip_mv G ∧ ∀ w ∈ ip_nst, ∀ U : State, ip_X G U → va_Nw w U
end
section
def M_H_init : ip_M := (⟨"ShareHouse", "<init>", "(II)V"⟩, prog_1_method_1_code, 3, none)
theorem oM_H_init : ip_okM lg_tbl M_H_init := ⟨by decide +kernel, ⟨by decide +kernel, by decide +kernel⟩, by decide, tt_1 _ (List.mem_of_getElem? (i := 26) rfl) rfl, tt_1 _ (List.mem_of_getElem? (i := 1) rfl) rfl⟩
def V_H_init : ip_V := ([(0, .aload_n 0), (1, .invokespecial 1), (4, .aload_n 0), (5, .iconst 2), (6, .bipush 16), (8, .iload_n 1), (9, .invokestatic 9), (12, .invokestatic 15), (15, .putfield 18), (18, .aload_n 0), (19, .iconst 1), (20, .bipush 32), (22, .iload_n 2), (23, .invokestatic 9), (26, .invokestatic 15), (29, .putfield 22), (32, .aload_n 0), (33, .bipush 20), (35, .newarray .byte), (37, .putfield 25), (40, .aload_n 0), (41, .sipush 4000), (44, .newarray .byte), (46, .putfield 29), (49, .aload_n 0), (50, .new 32), (53, .dup), (54, .invokespecial 34), (57, .putfield 35), (60, .aload_n 0), (61, .new 39), (64, .dup), (65, .aload_n 0), (66, .getfield 29), (69, .invokespecial 41), (72, .putfield 44), (75, .aload_n 0), (76, .new 48), (79, .dup), (80, .aload_n 0), (81, .getfield 18), (84, .invokespecial 50), (87, .putfield 53), (90, .aload_n 0), (91, .new 57), (94, .dup), (95, .invokespecial 59), (98, .putfield 60), (101, .aload_n 0), (102, .new 64), (105, .dup), (106, .aload_n 0), (107, .getfield 29), (110, .aload_n 0), (111, .getfield 35), (114, .aload_n 0), (115, .getfield 44), (118, .aload_n 0), (119, .getfield 53), (122, .aload_n 0), (123, .getfield 18), (126, .aload_n 0), (127, .getfield 22), (130, .invokespecial 66), (133, .putfield 69), (136, .aload_n 0), (137, .new 73), (140, .dup), (141, .aload_n 0), (142, .getfield 35), (145, .aload_n 0), (146, .getfield 44), (149, .invokespecial 75), (152, .putfield 78), (155, .aload_n 0), (156, .new 82), (159, .dup), (160, .aload_n 0), (161, .getfield 35), (164, .aload_n 0), (165, .getfield 44), (168, .aload_n 0), (169, .getfield 53), (172, .aload_n 0), (173, .getfield 60), (176, .aload_n 0), (177, .getfield 22), (180, .invokespecial 84), (183, .putfield 87), (186, .aload_n 0), (187, .new 91), (190, .dup), (191, .aload_n 0), (192, .getfield 18), (195, .invokespecial 93), (198, .putfield 94), (201, .aload_n 0), (202, .new 98), (205, .dup), (206, .aload_n 0), (207, .getfield 18), (210, .aload_n 0), (211, .getfield 60), (214, .aload_n 0), (215, .getfield 53), (218, .aload_n 0), (219, .getfield 94), (222, .invokespecial 100), (225, .putfield 103), (228, .return_)], [(18, 11, 0, .int, true), (22, 11, 1, .int, true), (25, 11, 2, .array .byte, true), (29, 11, 3, .array .byte, true), (35, 11, 5, .object "ShareHouse$Code", true), (44, 11, 6, .object "ShareHouse$Names", true), (53, 11, 7, .object "ShareHouse$Inputs", true), (60, 11, 8, .object "ShareHouse$Circuit", true), (69, 11, 9, .object "ShareHouse$Reader", true), (78, 11, 10, .object "ShareHouse$Sorts", true), (87, 11, 11, .object "ShareHouse$Builder", true), (94, 11, 12, .object "ShareHouse$Dealer", true), (103, 11, 13, .object "ShareHouse$Post", true)], [(32, 2, [.null, .null, .null, .null, .int 0, .int 0, .int 0]), (39, 6, [.null, .int 0, .null, .null, .null, .null, .null, .null, .null, .int 0, .null, .int 0, .int 0]), (48, 4, [.null, .null, .null, .null, .null, .null, .int 0, .int 0]), (57, 1, [.null, .null, .null, .null, .int 0, .int 0, .int 0, .int 0, .int 0, .null, .null, .null, .int 0, .null, .null, .null]), (64, 8, [.null, .null, .null, .null, .int 0, .int 0, .null, .null, .null, .int 0, .int 0]), (73, 9, [.null, .null, .null, .int 0, .null, .int 0, .null, .null, .null, .int 0, .int 0]), (82, 0, [.null, .null, .null, .null, .null, .int 0, .null, .null, .int 0, .null, .null, .null, .int 0, .int 0, .null, .null, .int 0, .int 0, .int 0]), (91, 3, [.int 0, .null, .int 0, .int 0, .int 0, .null, .null, .null, .null]), (98, 7, [.int 0, .null, .null, .null, .null, .null, .null, .null, .null, .null, .int 0, .int 0, .int 0, .null, .int 0])], [], [])
set_option maxRecDepth 100000 in
theorem dV_H_init_0 : ∀ q ∈ ([(0, .aload_n 0), (1, .invokespecial 1), (4, .aload_n 0), (5, .iconst 2), (6, .bipush 16), (8, .iload_n 1), (9, .invokestatic 9), (12, .invokestatic 15), (15, .putfield 18), (18, .aload_n 0), (19, .iconst 1), (20, .bipush 32), (22, .iload_n 2), (23, .invokestatic 9), (26, .invokestatic 15), (29, .putfield 22), (32, .aload_n 0), (33, .bipush 20), (35, .newarray .byte), (37, .putfield 25), (40, .aload_n 0), (41, .sipush 4000), (44, .newarray .byte), (46, .putfield 29), (49, .aload_n 0), (50, .new 32)] : List (Nat × Instr)), decode prog_1_method_1_code q.1 = .ok (q.2, ip_len q.1 q.2) := by decide +kernel
set_option maxRecDepth 100000 in
theorem dV_H_init_1 : ∀ q ∈ ([(53, .dup), (54, .invokespecial 34), (57, .putfield 35), (60, .aload_n 0), (61, .new 39), (64, .dup), (65, .aload_n 0), (66, .getfield 29), (69, .invokespecial 41), (72, .putfield 44), (75, .aload_n 0), (76, .new 48), (79, .dup), (80, .aload_n 0), (81, .getfield 18), (84, .invokespecial 50), (87, .putfield 53), (90, .aload_n 0), (91, .new 57), (94, .dup), (95, .invokespecial 59), (98, .putfield 60), (101, .aload_n 0), (102, .new 64), (105, .dup), (106, .aload_n 0)] : List (Nat × Instr)), decode prog_1_method_1_code q.1 = .ok (q.2, ip_len q.1 q.2) := by decide +kernel
set_option maxRecDepth 100000 in
theorem dV_H_init_2 : ∀ q ∈ ([(107, .getfield 29), (110, .aload_n 0), (111, .getfield 35), (114, .aload_n 0), (115, .getfield 44), (118, .aload_n 0), (119, .getfield 53), (122, .aload_n 0), (123, .getfield 18), (126, .aload_n 0), (127, .getfield 22), (130, .invokespecial 66), (133, .putfield 69), (136, .aload_n 0), (137, .new 73), (140, .dup), (141, .aload_n 0), (142, .getfield 35), (145, .aload_n 0), (146, .getfield 44), (149, .invokespecial 75), (152, .putfield 78), (155, .aload_n 0), (156, .new 82), (159, .dup), (160, .aload_n 0)] : List (Nat × Instr)), decode prog_1_method_1_code q.1 = .ok (q.2, ip_len q.1 q.2) := by decide +kernel
set_option maxRecDepth 100000 in
theorem dV_H_init_3 : ∀ q ∈ ([(161, .getfield 35), (164, .aload_n 0), (165, .getfield 44), (168, .aload_n 0), (169, .getfield 53), (172, .aload_n 0), (173, .getfield 60), (176, .aload_n 0), (177, .getfield 22), (180, .invokespecial 84), (183, .putfield 87), (186, .aload_n 0), (187, .new 91), (190, .dup), (191, .aload_n 0), (192, .getfield 18), (195, .invokespecial 93), (198, .putfield 94), (201, .aload_n 0), (202, .new 98), (205, .dup), (206, .aload_n 0), (207, .getfield 18), (210, .aload_n 0), (211, .getfield 60), (214, .aload_n 0)] : List (Nat × Instr)), decode prog_1_method_1_code q.1 = .ok (q.2, ip_len q.1 q.2) := by decide +kernel
set_option maxRecDepth 100000 in
theorem dV_H_init_4 : ∀ q ∈ ([(215, .getfield 53), (218, .aload_n 0), (219, .getfield 94), (222, .invokespecial 100), (225, .putfield 103), (228, .return_)] : List (Nat × Instr)), decode prog_1_method_1_code q.1 = .ok (q.2, ip_len q.1 q.2) := by decide +kernel
set_option maxRecDepth 100000 in
theorem oV_H_init : ip_okV lg_tbl vwCl M_H_init V_H_init := ⟨ip_fap dV_H_init_0 (ip_fap dV_H_init_1 (ip_fap dV_H_init_2 (ip_fap dV_H_init_3 (dV_H_init_4)))), List.forall_mem_cons.mpr ⟨⟨fF_H_18, fun _ => Or.inl fF_H_18p⟩, List.forall_mem_cons.mpr ⟨⟨fF_H_22, fun _ => Or.inl fF_H_22p⟩, List.forall_mem_cons.mpr ⟨⟨fF_H_25, fun _ => Or.inl fF_H_25p⟩, List.forall_mem_cons.mpr ⟨⟨fF_H_29, fun _ => Or.inl fF_H_29p⟩, List.forall_mem_cons.mpr ⟨⟨fF_H_35, fun _ => Or.inl fF_H_35p⟩, List.forall_mem_cons.mpr ⟨⟨fF_H_44, fun _ => Or.inl fF_H_44p⟩, List.forall_mem_cons.mpr ⟨⟨fF_H_53, fun _ => Or.inl fF_H_53p⟩, List.forall_mem_cons.mpr ⟨⟨fF_H_60, fun _ => Or.inl fF_H_60p⟩, List.forall_mem_cons.mpr ⟨⟨fF_H_69, fun _ => Or.inl fF_H_69p⟩, List.forall_mem_cons.mpr ⟨⟨fF_H_78, fun _ => Or.inl fF_H_78p⟩, List.forall_mem_cons.mpr ⟨⟨fF_H_87, fun _ => Or.inl fF_H_87p⟩, List.forall_mem_cons.mpr ⟨⟨fF_H_94, fun _ => Or.inl fF_H_94p⟩, List.forall_mem_cons.mpr ⟨⟨fF_H_103, fun _ => Or.inl fF_H_103p⟩, List.forall_mem_nil _⟩⟩⟩⟩⟩⟩⟩⟩⟩⟩⟩⟩⟩, List.forall_mem_cons.mpr ⟨fN_H_32, List.forall_mem_cons.mpr ⟨fN_H_39, List.forall_mem_cons.mpr ⟨fN_H_48, List.forall_mem_cons.mpr ⟨fN_H_57, List.forall_mem_cons.mpr ⟨fN_H_64, List.forall_mem_cons.mpr ⟨fN_H_73, List.forall_mem_cons.mpr ⟨fN_H_82, List.forall_mem_cons.mpr ⟨fN_H_91, List.forall_mem_cons.mpr ⟨fN_H_98, List.forall_mem_nil _⟩⟩⟩⟩⟩⟩⟩⟩⟩, List.forall_mem_nil _, List.forall_mem_nil _, fA4⟩
def M_Code_init : ip_M := (⟨"ShareHouse$Code", "<init>", "()V"⟩, prog_4_method_1_code, 1, none)
theorem oM_Code_init : ip_okM lg_tbl M_Code_init := ⟨by decide +kernel, ⟨by decide +kernel, by decide +kernel⟩, by decide, tt_1 _ (List.mem_of_getElem? (i := 40) rfl) rfl, tt_1 _ (List.mem_of_getElem? (i := 3) rfl) rfl⟩
def V_Code_init : ip_V := ([(0, .aload_n 0), (1, .invokespecial 5), (4, .aload_n 0), (5, .bipush 64), (7, .newarray .int), (9, .putfield 11), (12, .aload_n 0), (13, .bipush 64), (15, .newarray .int), (17, .putfield 15), (20, .aload_n 0), (21, .bipush 64), (23, .newarray .int), (25, .putfield 18), (28, .aload_n 0), (29, .bipush 64), (31, .newarray .int), (33, .putfield 21), (36, .aload_n 0), (37, .iconst (-1)), (38, .putfield 24), (41, .return_)], [(11, 2, 0, .array .int, false), (15, 2, 1, .array .int, false), (18, 2, 2, .array .int, false), (21, 2, 3, .array .int, false), (24, 2, 6, .int, false)], [], [], [])
set_option maxRecDepth 100000 in
theorem oV_Code_init : ip_okV lg_tbl vwCl M_Code_init V_Code_init := ⟨by decide +kernel, List.forall_mem_cons.mpr ⟨⟨fF_Code_11, fun h => Bool.noConfusion h⟩, List.forall_mem_cons.mpr ⟨⟨fF_Code_15, fun h => Bool.noConfusion h⟩, List.forall_mem_cons.mpr ⟨⟨fF_Code_18, fun h => Bool.noConfusion h⟩, List.forall_mem_cons.mpr ⟨⟨fF_Code_21, fun h => Bool.noConfusion h⟩, List.forall_mem_cons.mpr ⟨⟨fF_Code_24, fun h => Bool.noConfusion h⟩, List.forall_mem_nil _⟩⟩⟩⟩⟩, List.forall_mem_nil _, List.forall_mem_nil _, List.forall_mem_nil _, fA4⟩
def M_Names_init : ip_M := (⟨"ShareHouse$Names", "<init>", "([B)V"⟩, prog_8_method_1_code, 2, none)
theorem oM_Names_init : ip_okM lg_tbl M_Names_init := ⟨by decide +kernel, ⟨by decide +kernel, by decide +kernel⟩, by decide, tt_1 _ (List.mem_of_getElem? (i := 87) rfl) rfl, tt_1 _ (List.mem_of_getElem? (i := 4) rfl) rfl⟩
def V_Names_init : ip_V := ([(0, .aload_n 0), (1, .invokespecial 3), (4, .aload_n 0), (5, .bipush 16), (7, .newarray .int), (9, .putfield 9), (12, .aload_n 0), (13, .bipush 16), (15, .newarray .int), (17, .putfield 15), (20, .aload_n 0), (21, .bipush 16), (23, .newarray .int), (25, .putfield 18), (28, .aload_n 0), (29, .bipush 16), (31, .newarray .int), (33, .putfield 21), (36, .aload_n 0), (37, .bipush 16), (39, .newarray .int), (41, .putfield 24), (44, .aload_n 0), (45, .bipush 16), (47, .newarray .int), (49, .putfield 27), (52, .aload_n 0), (53, .bipush 16), (55, .newarray .int), (57, .putfield 30), (60, .aload_n 0), (61, .bipush 16), (63, .newarray .int), (65, .putfield 33), (68, .aload_n 0), (69, .aload_n 1), (70, .putfield 36), (73, .return_)], [(9, 6, 2, .array .int, false), (15, 6, 3, .array .int, false), (18, 6, 4, .array .int, false), (21, 6, 5, .array .int, false), (24, 6, 6, .array .int, false), (27, 6, 7, .array .int, false), (30, 6, 8, .array .int, false), (33, 6, 10, .array .int, false), (36, 6, 0, .array .byte, true)], [], [], [])
set_option maxRecDepth 100000 in
theorem oV_Names_init : ip_okV lg_tbl vwCl M_Names_init V_Names_init := ⟨by decide +kernel, List.forall_mem_cons.mpr ⟨⟨fF_Names_9, fun h => Bool.noConfusion h⟩, List.forall_mem_cons.mpr ⟨⟨fF_Names_15, fun h => Bool.noConfusion h⟩, List.forall_mem_cons.mpr ⟨⟨fF_Names_18, fun h => Bool.noConfusion h⟩, List.forall_mem_cons.mpr ⟨⟨fF_Names_21, fun h => Bool.noConfusion h⟩, List.forall_mem_cons.mpr ⟨⟨fF_Names_24, fun h => Bool.noConfusion h⟩, List.forall_mem_cons.mpr ⟨⟨fF_Names_27, fun h => Bool.noConfusion h⟩, List.forall_mem_cons.mpr ⟨⟨fF_Names_30, fun h => Bool.noConfusion h⟩, List.forall_mem_cons.mpr ⟨⟨fF_Names_33, fun h => Bool.noConfusion h⟩, List.forall_mem_cons.mpr ⟨⟨fF_Names_36, fun _ => Or.inl fF_Names_36p⟩, List.forall_mem_nil _⟩⟩⟩⟩⟩⟩⟩⟩⟩, List.forall_mem_nil _, List.forall_mem_nil _, List.forall_mem_nil _, fA4⟩
def M_Inputs_init : ip_M := (⟨"ShareHouse$Inputs", "<init>", "(I)V"⟩, prog_6_method_1_code, 2, none)
theorem oM_Inputs_init : ip_okM lg_tbl M_Inputs_init := ⟨by decide +kernel, ⟨by decide +kernel, by decide +kernel⟩, by decide, tt_1 _ (List.mem_of_getElem? (i := 147) rfl) rfl, tt_1 _ (List.mem_of_getElem? (i := 5) rfl) rfl⟩
def V_Inputs_init : ip_V := ([(0, .aload_n 0), (1, .invokespecial 3), (4, .aload_n 0), (5, .sipush 256), (8, .newarray .int), (10, .putfield 9), (13, .aload_n 0), (14, .sipush 256), (17, .newarray .int), (19, .putfield 15), (22, .aload_n 0), (23, .sipush 256), (26, .newarray .int), (28, .putfield 18), (31, .aload_n 0), (32, .sipush 256), (35, .newarray .int), (37, .putfield 21), (40, .aload_n 0), (41, .sipush 256), (44, .newarray .int), (46, .putfield 24), (49, .aload_n 0), (50, .iload_n 1), (51, .newarray .int), (53, .putfield 27), (56, .return_)], [(9, 4, 0, .array .int, true), (15, 4, 1, .array .int, true), (18, 4, 2, .array .int, true), (21, 4, 3, .array .int, true), (24, 4, 4, .array .int, true), (27, 4, 5, .array .int, true)], [], [], [])
set_option maxRecDepth 100000 in
theorem oV_Inputs_init : ip_okV lg_tbl vwCl M_Inputs_init V_Inputs_init := ⟨by decide +kernel, List.forall_mem_cons.mpr ⟨⟨fF_Inputs_9, fun _ => Or.inl fF_Inputs_9p⟩, List.forall_mem_cons.mpr ⟨⟨fF_Inputs_15, fun _ => Or.inl fF_Inputs_15p⟩, List.forall_mem_cons.mpr ⟨⟨fF_Inputs_18, fun _ => Or.inl fF_Inputs_18p⟩, List.forall_mem_cons.mpr ⟨⟨fF_Inputs_21, fun _ => Or.inl fF_Inputs_21p⟩, List.forall_mem_cons.mpr ⟨⟨fF_Inputs_24, fun _ => Or.inl fF_Inputs_24p⟩, List.forall_mem_cons.mpr ⟨⟨fF_Inputs_27, fun _ => Or.inl fF_Inputs_27p⟩, List.forall_mem_nil _⟩⟩⟩⟩⟩⟩, List.forall_mem_nil _, List.forall_mem_nil _, List.forall_mem_nil _, fA4⟩
def M_Circuit_init : ip_M := (⟨"ShareHouse$Circuit", "<init>", "()V"⟩, prog_3_method_1_code, 1, none)
theorem oM_Circuit_init : ip_okM lg_tbl M_Circuit_init := ⟨by decide +kernel, ⟨by decide +kernel, by decide +kernel⟩, by decide, tt_1 _ (List.mem_of_getElem? (i := 196) rfl) rfl, tt_1 _ (List.mem_of_getElem? (i := 6) rfl) rfl⟩
def V_Circuit_init : ip_V := ([(0, .aload_n 0), (1, .invokespecial 3), (4, .aload_n 0), (5, .iconst 0), (6, .newarray .int), (8, .putfield 9), (11, .aload_n 0), (12, .iconst 0), (13, .newarray .int), (15, .putfield 15), (18, .aload_n 0), (19, .iconst 0), (20, .newarray .int), (22, .putfield 18), (25, .aload_n 0), (26, .iconst 0), (27, .newarray .int), (29, .putfield 21), (32, .aload_n 0), (33, .iconst 0), (34, .newarray .int), (36, .putfield 24), (39, .aload_n 0), (40, .iconst 0), (41, .newarray .int), (43, .putfield 27), (46, .aload_n 0), (47, .iconst 0), (48, .newarray .int), (50, .putfield 30), (53, .aload_n 0), (54, .bipush 8), (56, .newarray .int), (58, .putfield 33), (61, .aload_n 0), (62, .bipush 64), (64, .newarray .int), (66, .putfield 36), (69, .aload_n 0), (70, .iconst 0), (71, .newarray .int), (73, .putfield 39), (76, .return_)], [(9, 1, 0, .array .int, false), (15, 1, 1, .array .int, false), (18, 1, 2, .array .int, false), (21, 1, 3, .array .int, false), (24, 1, 9, .array .int, false), (27, 1, 10, .array .int, false), (30, 1, 11, .array .int, false), (33, 1, 13, .array .int, false), (36, 1, 14, .array .int, false), (39, 1, 15, .array .int, false)], [], [], [])
set_option maxRecDepth 100000 in
theorem dV_Circuit_init_0 : ∀ q ∈ ([(0, .aload_n 0), (1, .invokespecial 3), (4, .aload_n 0), (5, .iconst 0), (6, .newarray .int), (8, .putfield 9), (11, .aload_n 0), (12, .iconst 0), (13, .newarray .int), (15, .putfield 15), (18, .aload_n 0), (19, .iconst 0), (20, .newarray .int), (22, .putfield 18), (25, .aload_n 0), (26, .iconst 0), (27, .newarray .int), (29, .putfield 21), (32, .aload_n 0), (33, .iconst 0), (34, .newarray .int), (36, .putfield 24), (39, .aload_n 0), (40, .iconst 0), (41, .newarray .int), (43, .putfield 27), (46, .aload_n 0), (47, .iconst 0), (48, .newarray .int), (50, .putfield 30), (53, .aload_n 0), (54, .bipush 8), (56, .newarray .int), (58, .putfield 33), (61, .aload_n 0), (62, .bipush 64), (64, .newarray .int), (66, .putfield 36), (69, .aload_n 0), (70, .iconst 0)] : List (Nat × Instr)), decode prog_3_method_1_code q.1 = .ok (q.2, ip_len q.1 q.2) := by decide +kernel
set_option maxRecDepth 100000 in
theorem dV_Circuit_init_1 : ∀ q ∈ ([(71, .newarray .int), (73, .putfield 39), (76, .return_)] : List (Nat × Instr)), decode prog_3_method_1_code q.1 = .ok (q.2, ip_len q.1 q.2) := by decide +kernel
set_option maxRecDepth 100000 in
theorem oV_Circuit_init : ip_okV lg_tbl vwCl M_Circuit_init V_Circuit_init := ⟨ip_fap dV_Circuit_init_0 (dV_Circuit_init_1), List.forall_mem_cons.mpr ⟨⟨fF_Circuit_9, fun h => Bool.noConfusion h⟩, List.forall_mem_cons.mpr ⟨⟨fF_Circuit_15, fun h => Bool.noConfusion h⟩, List.forall_mem_cons.mpr ⟨⟨fF_Circuit_18, fun h => Bool.noConfusion h⟩, List.forall_mem_cons.mpr ⟨⟨fF_Circuit_21, fun h => Bool.noConfusion h⟩, List.forall_mem_cons.mpr ⟨⟨fF_Circuit_24, fun h => Bool.noConfusion h⟩, List.forall_mem_cons.mpr ⟨⟨fF_Circuit_27, fun h => Bool.noConfusion h⟩, List.forall_mem_cons.mpr ⟨⟨fF_Circuit_30, fun h => Bool.noConfusion h⟩, List.forall_mem_cons.mpr ⟨⟨fF_Circuit_33, fun h => Bool.noConfusion h⟩, List.forall_mem_cons.mpr ⟨⟨fF_Circuit_36, fun h => Bool.noConfusion h⟩, List.forall_mem_cons.mpr ⟨⟨fF_Circuit_39, fun h => Bool.noConfusion h⟩, List.forall_mem_nil _⟩⟩⟩⟩⟩⟩⟩⟩⟩⟩, List.forall_mem_nil _, List.forall_mem_nil _, List.forall_mem_nil _, fA4⟩
def M_Reader_init : ip_M := (⟨"ShareHouse$Reader", "<init>", "([BLShareHouse$Code;LShareHouse$Names;LShareHouse$Inputs;II)V"⟩, prog_10_method_1_code, 7, none)
theorem oM_Reader_init : ip_okM lg_tbl M_Reader_init := ⟨by decide +kernel, ⟨by decide +kernel, by decide +kernel⟩, by decide, tt_2 _ (List.mem_of_getElem? (i := 29) rfl) rfl, tt_1 _ (List.mem_of_getElem? (i := 7) rfl) rfl⟩
def V_Reader_init : ip_V := ([(0, .aload_n 0), (1, .invokespecial 3), (4, .aload_n 0), (5, .sipush 310), (8, .newarray .int), (10, .putfield 11), (13, .aload_n 0), (14, .sipush 310), (17, .newarray .int), (19, .putfield 17), (22, .aload_n 0), (23, .sipush 310), (26, .newarray .int), (28, .putfield 20), (31, .aload_n 0), (32, .new 23), (35, .dup), (36, .aload_n 1), (37, .invokespecial 25), (40, .putfield 28), (43, .aload_n 0), (44, .aload_n 2), (45, .putfield 32), (48, .aload_n 0), (49, .aload_n 3), (50, .putfield 36), (53, .aload_n 0), (54, .aload 4), (56, .putfield 40), (59, .aload_n 0), (60, .iload 5), (62, .putfield 44), (65, .aload_n 0), (66, .iload 6), (68, .putfield 48), (71, .return_)], [(11, 8, 6, .array .int, true), (17, 8, 7, .array .int, true), (20, 8, 8, .array .int, true), (28, 8, 0, .object "ShareHouse$Words", true), (32, 8, 1, .object "ShareHouse$Code", true), (36, 8, 2, .object "ShareHouse$Names", true), (40, 8, 3, .object "ShareHouse$Inputs", true), (44, 8, 4, .int, true), (48, 8, 5, .int, true)], [(23, 10, [.null, .int 0, .int 0, .int 0, .int 0])], [], [])
set_option maxRecDepth 100000 in
theorem oV_Reader_init : ip_okV lg_tbl vwCl M_Reader_init V_Reader_init := ⟨by decide +kernel, List.forall_mem_cons.mpr ⟨⟨fF_Reader_11, fun _ => Or.inl fF_Reader_11p⟩, List.forall_mem_cons.mpr ⟨⟨fF_Reader_17, fun _ => Or.inl fF_Reader_17p⟩, List.forall_mem_cons.mpr ⟨⟨fF_Reader_20, fun _ => Or.inl fF_Reader_20p⟩, List.forall_mem_cons.mpr ⟨⟨fF_Reader_28, fun _ => Or.inl fF_Reader_28p⟩, List.forall_mem_cons.mpr ⟨⟨fF_Reader_32, fun _ => Or.inl fF_Reader_32p⟩, List.forall_mem_cons.mpr ⟨⟨fF_Reader_36, fun _ => Or.inl fF_Reader_36p⟩, List.forall_mem_cons.mpr ⟨⟨fF_Reader_40, fun _ => Or.inl fF_Reader_40p⟩, List.forall_mem_cons.mpr ⟨⟨fF_Reader_44, fun _ => Or.inl fF_Reader_44p⟩, List.forall_mem_cons.mpr ⟨⟨fF_Reader_48, fun _ => Or.inl fF_Reader_48p⟩, List.forall_mem_nil _⟩⟩⟩⟩⟩⟩⟩⟩⟩, List.forall_mem_cons.mpr ⟨fN_Reader_23, List.forall_mem_nil _⟩, List.forall_mem_nil _, List.forall_mem_nil _, fA4⟩
def M_Words_init : ip_M := (⟨"ShareHouse$Words", "<init>", "([B)V"⟩, prog_12_method_1_code, 2, none)
theorem oM_Words_init : ip_okM lg_tbl M_Words_init := ⟨by decide +kernel, ⟨by decide +kernel, by decide +kernel⟩, by decide, tt_2 _ (List.mem_of_getElem? (i := 35) rfl) rfl, tt_1 _ (List.mem_of_getElem? (i := 8) rfl) rfl⟩
def V_Words_init : ip_V := ([(0, .aload_n 0), (1, .invokespecial 3), (4, .aload_n 0), (5, .aload_n 1), (6, .putfield 9), (9, .return_)], [(9, 10, 0, .array .byte, true)], [], [], [])
set_option maxRecDepth 100000 in
theorem oV_Words_init : ip_okV lg_tbl vwCl M_Words_init V_Words_init := ⟨by decide +kernel, List.forall_mem_cons.mpr ⟨⟨fF_Words_9, fun _ => Or.inl fF_Words_9p⟩, List.forall_mem_nil _⟩, List.forall_mem_nil _, List.forall_mem_nil _, List.forall_mem_nil _, fA4⟩
def M_Sorts_init : ip_M := (⟨"ShareHouse$Sorts", "<init>", "(LShareHouse$Code;LShareHouse$Names;)V"⟩, prog_11_method_1_code, 3, none)
theorem oM_Sorts_init : ip_okM lg_tbl M_Sorts_init := ⟨by decide +kernel, ⟨by decide +kernel, by decide +kernel⟩, by decide, tt_2 _ (List.mem_of_getElem? (i := 94) rfl) rfl, tt_1 _ (List.mem_of_getElem? (i := 9) rfl) rfl⟩
def V_Sorts_init : ip_V := ([(0, .aload_n 0), (1, .invokespecial 3), (4, .aload_n 0), (5, .bipush 16), (7, .newarray .int), (9, .putfield 9), (12, .aload_n 0), (13, .bipush 31), (15, .newarray .int), (17, .putfield 15), (20, .aload_n 0), (21, .bipush 31), (23, .newarray .int), (25, .putfield 18), (28, .aload_n 0), (29, .bipush 31), (31, .newarray .int), (33, .putfield 21), (36, .aload_n 0), (37, .bipush 31), (39, .newarray .int), (41, .putfield 24), (44, .aload_n 0), (45, .aload_n 1), (46, .putfield 27), (49, .aload_n 0), (50, .aload_n 2), (51, .putfield 31), (54, .return_)], [(9, 9, 2, .array .int, false), (15, 9, 4, .array .int, true), (18, 9, 6, .array .int, true), (21, 9, 7, .array .int, true), (24, 9, 8, .array .int, true), (27, 9, 0, .object "ShareHouse$Code", true), (31, 9, 1, .object "ShareHouse$Names", true)], [], [], [])
set_option maxRecDepth 100000 in
theorem oV_Sorts_init : ip_okV lg_tbl vwCl M_Sorts_init V_Sorts_init := ⟨by decide +kernel, List.forall_mem_cons.mpr ⟨⟨fF_Sorts_9, fun h => Bool.noConfusion h⟩, List.forall_mem_cons.mpr ⟨⟨fF_Sorts_15, fun _ => Or.inl fF_Sorts_15p⟩, List.forall_mem_cons.mpr ⟨⟨fF_Sorts_18, fun _ => Or.inl fF_Sorts_18p⟩, List.forall_mem_cons.mpr ⟨⟨fF_Sorts_21, fun _ => Or.inl fF_Sorts_21p⟩, List.forall_mem_cons.mpr ⟨⟨fF_Sorts_24, fun _ => Or.inl fF_Sorts_24p⟩, List.forall_mem_cons.mpr ⟨⟨fF_Sorts_27, fun _ => Or.inl fF_Sorts_27p⟩, List.forall_mem_cons.mpr ⟨⟨fF_Sorts_31, fun _ => Or.inl fF_Sorts_31p⟩, List.forall_mem_nil _⟩⟩⟩⟩⟩⟩⟩, List.forall_mem_nil _, List.forall_mem_nil _, List.forall_mem_nil _, fA4⟩
def M_Builder_init : ip_M := (⟨"ShareHouse$Builder", "<init>", "(LShareHouse$Code;LShareHouse$Names;LShareHouse$Inputs;LShareHouse$Circuit;I)V"⟩, prog_2_method_1_code, 6, none)
theorem oM_Builder_init : ip_okM lg_tbl M_Builder_init := ⟨by decide +kernel, ⟨by decide +kernel, by decide +kernel⟩, by decide, tt_2 _ (List.mem_of_getElem? (i := 134) rfl) rfl, tt_1 _ (List.mem_of_getElem? (i := 10) rfl) rfl⟩
def V_Builder_init : ip_V := ([(0, .aload_n 0), (1, .invokespecial 3), (4, .aload_n 0), (5, .iconst 0), (6, .newarray .int), (8, .putfield 9), (11, .aload_n 0), (12, .iconst 0), (13, .newarray .int), (15, .putfield 15), (18, .aload_n 0), (19, .bipush 16), (21, .newarray .int), (23, .putfield 18), (26, .aload_n 0), (27, .bipush 16), (29, .newarray .int), (31, .putfield 21), (34, .aload_n 0), (35, .bipush 16), (37, .newarray .long), (39, .putfield 24), (42, .aload_n 0), (43, .bipush 16), (45, .newarray .long), (47, .putfield 28), (50, .aload_n 0), (51, .aload_n 1), (52, .putfield 31), (55, .aload_n 0), (56, .aload_n 2), (57, .putfield 35), (60, .aload_n 0), (61, .aload_n 3), (62, .putfield 39), (65, .aload_n 0), (66, .aload 4), (68, .putfield 43), (71, .aload_n 0), (72, .iload 5), (74, .putfield 47), (77, .aload_n 0), (78, .new 51), (81, .dup), (82, .aload 4), (84, .iload 5), (86, .invokespecial 53), (89, .putfield 56), (92, .aload_n 0), (93, .iload 5), (95, .newarray .int), (97, .putfield 60), (100, .return_)], [(9, 0, 7, .array .int, false), (15, 0, 9, .array .int, false), (18, 0, 10, .array .int, false), (21, 0, 11, .array .int, false), (24, 0, 14, .array .long, false), (28, 0, 15, .array .long, false), (31, 0, 0, .object "ShareHouse$Code", true), (35, 0, 1, .object "ShareHouse$Names", true), (39, 0, 2, .object "ShareHouse$Inputs", true), (43, 0, 3, .object "ShareHouse$Circuit", true), (47, 0, 5, .int, true), (56, 0, 4, .object "ShareHouse$Logic", true), (60, 0, 6, .array .int, true)], [(51, 5, [.null, .int 0, .null, .null, .null, .null, .null])], [], [])
set_option maxRecDepth 100000 in
theorem dV_Builder_init_0 : ∀ q ∈ ([(0, .aload_n 0), (1, .invokespecial 3), (4, .aload_n 0), (5, .iconst 0), (6, .newarray .int), (8, .putfield 9), (11, .aload_n 0), (12, .iconst 0), (13, .newarray .int), (15, .putfield 15), (18, .aload_n 0), (19, .bipush 16), (21, .newarray .int), (23, .putfield 18), (26, .aload_n 0), (27, .bipush 16), (29, .newarray .int), (31, .putfield 21), (34, .aload_n 0), (35, .bipush 16), (37, .newarray .long), (39, .putfield 24), (42, .aload_n 0), (43, .bipush 16), (45, .newarray .long), (47, .putfield 28), (50, .aload_n 0), (51, .aload_n 1), (52, .putfield 31), (55, .aload_n 0), (56, .aload_n 2), (57, .putfield 35), (60, .aload_n 0), (61, .aload_n 3), (62, .putfield 39), (65, .aload_n 0), (66, .aload 4), (68, .putfield 43), (71, .aload_n 0), (72, .iload 5)] : List (Nat × Instr)), decode prog_2_method_1_code q.1 = .ok (q.2, ip_len q.1 q.2) := by decide +kernel
set_option maxRecDepth 100000 in
theorem dV_Builder_init_1 : ∀ q ∈ ([(74, .putfield 47), (77, .aload_n 0), (78, .new 51), (81, .dup), (82, .aload 4), (84, .iload 5), (86, .invokespecial 53), (89, .putfield 56), (92, .aload_n 0), (93, .iload 5), (95, .newarray .int), (97, .putfield 60), (100, .return_)] : List (Nat × Instr)), decode prog_2_method_1_code q.1 = .ok (q.2, ip_len q.1 q.2) := by decide +kernel
set_option maxRecDepth 100000 in
theorem oV_Builder_init : ip_okV lg_tbl vwCl M_Builder_init V_Builder_init := ⟨ip_fap dV_Builder_init_0 (dV_Builder_init_1), List.forall_mem_cons.mpr ⟨⟨fF_Builder_9, fun h => Bool.noConfusion h⟩, List.forall_mem_cons.mpr ⟨⟨fF_Builder_15, fun h => Bool.noConfusion h⟩, List.forall_mem_cons.mpr ⟨⟨fF_Builder_18, fun h => Bool.noConfusion h⟩, List.forall_mem_cons.mpr ⟨⟨fF_Builder_21, fun h => Bool.noConfusion h⟩, List.forall_mem_cons.mpr ⟨⟨fF_Builder_24, fun h => Bool.noConfusion h⟩, List.forall_mem_cons.mpr ⟨⟨fF_Builder_28, fun h => Bool.noConfusion h⟩, List.forall_mem_cons.mpr ⟨⟨fF_Builder_31, fun _ => Or.inl fF_Builder_31p⟩, List.forall_mem_cons.mpr ⟨⟨fF_Builder_35, fun _ => Or.inl fF_Builder_35p⟩, List.forall_mem_cons.mpr ⟨⟨fF_Builder_39, fun _ => Or.inl fF_Builder_39p⟩, List.forall_mem_cons.mpr ⟨⟨fF_Builder_43, fun _ => Or.inl fF_Builder_43p⟩, List.forall_mem_cons.mpr ⟨⟨fF_Builder_47, fun _ => Or.inl fF_Builder_47p⟩, List.forall_mem_cons.mpr ⟨⟨fF_Builder_56, fun _ => Or.inl fF_Builder_56p⟩, List.forall_mem_cons.mpr ⟨⟨fF_Builder_60, fun _ => Or.inl fF_Builder_60p⟩, List.forall_mem_nil _⟩⟩⟩⟩⟩⟩⟩⟩⟩⟩⟩⟩⟩, List.forall_mem_cons.mpr ⟨fN_Builder_51, List.forall_mem_nil _⟩, List.forall_mem_nil _, List.forall_mem_nil _, fA4⟩
def M_Logic_init : ip_M := (⟨"ShareHouse$Logic", "<init>", "(LShareHouse$Circuit;I)V"⟩, prog_7_method_1_code, 3, none)
theorem oM_Logic_init : ip_okM lg_tbl M_Logic_init := ⟨by decide +kernel, ⟨by decide +kernel, by decide +kernel⟩, by decide, tt_2 _ (List.mem_of_getElem? (i := 140) rfl) rfl, tt_1 _ (List.mem_of_getElem? (i := 11) rfl) rfl⟩
def V_Logic_init : ip_V := ([(0, .aload_n 0), (1, .invokespecial 3), (4, .aload_n 0), (5, .aload_n 1), (6, .putfield 9), (9, .aload_n 0), (10, .iload_n 2), (11, .putfield 15), (14, .aload_n 0), (15, .iload_n 2), (16, .newarray .int), (18, .putfield 19), (21, .aload_n 0), (22, .iload_n 2), (23, .newarray .int), (25, .putfield 23), (28, .aload_n 0), (29, .iload_n 2), (30, .newarray .int), (32, .putfield 26), (35, .aload_n 0), (36, .iload_n 2), (37, .iconst 1), (38, .iadd), (39, .newarray .int), (41, .putfield 29), (44, .aload_n 0), (45, .iload_n 2), (46, .newarray .int), (48, .putfield 32), (51, .return_)], [(9, 5, 0, .object "ShareHouse$Circuit", true), (15, 5, 1, .int, true), (19, 5, 2, .array .int, true), (23, 5, 3, .array .int, true), (26, 5, 4, .array .int, true), (29, 5, 5, .array .int, true), (32, 5, 6, .array .int, true)], [], [], [])
set_option maxRecDepth 100000 in
theorem oV_Logic_init : ip_okV lg_tbl vwCl M_Logic_init V_Logic_init := ⟨by decide +kernel, List.forall_mem_cons.mpr ⟨⟨fF_Logic_9, fun _ => Or.inl fF_Logic_9p⟩, List.forall_mem_cons.mpr ⟨⟨fF_Logic_15, fun _ => Or.inl fF_Logic_15p⟩, List.forall_mem_cons.mpr ⟨⟨fF_Logic_19, fun _ => Or.inl fF_Logic_19p⟩, List.forall_mem_cons.mpr ⟨⟨fF_Logic_23, fun _ => Or.inl fF_Logic_23p⟩, List.forall_mem_cons.mpr ⟨⟨fF_Logic_26, fun _ => Or.inl fF_Logic_26p⟩, List.forall_mem_cons.mpr ⟨⟨fF_Logic_29, fun _ => Or.inl fF_Logic_29p⟩, List.forall_mem_cons.mpr ⟨⟨fF_Logic_32, fun _ => Or.inl fF_Logic_32p⟩, List.forall_mem_nil _⟩⟩⟩⟩⟩⟩⟩, List.forall_mem_nil _, List.forall_mem_nil _, List.forall_mem_nil _, fA4⟩
def M_Dealer_init : ip_M := (⟨"ShareHouse$Dealer", "<init>", "(I)V"⟩, prog_5_method_1_code, 2, none)
theorem oM_Dealer_init : ip_okM lg_tbl M_Dealer_init := ⟨by decide +kernel, ⟨by decide +kernel, by decide +kernel⟩, by decide, tt_2 _ (List.mem_of_getElem? (i := 228) rfl) rfl, tt_1 _ (List.mem_of_getElem? (i := 12) rfl) rfl⟩
def V_Dealer_init : ip_V := ([(0, .aload_n 0), (1, .invokespecial 3), (4, .aload_n 0), (5, .sipush 2000), (8, .newarray .byte), (10, .putfield 9), (13, .aload_n 0), (14, .iconst 1), (15, .putfield 15), (18, .aload_n 0), (19, .iconst 0), (20, .newarray .int), (22, .putfield 19), (25, .aload_n 0), (26, .iconst 0), (27, .newarray .int), (29, .putfield 23), (32, .aload_n 0), (33, .iconst 0), (34, .newarray .int), (36, .putfield 26), (39, .aload_n 0), (40, .iconst 0), (41, .newarray .int), (43, .putfield 29), (46, .aload_n 0), (47, .iload_n 1), (48, .putfield 32), (51, .return_)], [(9, 3, 1, .array .byte, true), (15, 3, 4, .int, false), (19, 3, 5, .array .int, false), (23, 3, 6, .array .int, false), (26, 3, 7, .array .int, false), (29, 3, 8, .array .int, false), (32, 3, 0, .int, true)], [], [], [])
set_option maxRecDepth 100000 in
theorem oV_Dealer_init : ip_okV lg_tbl vwCl M_Dealer_init V_Dealer_init := ⟨by decide +kernel, List.forall_mem_cons.mpr ⟨⟨fF_Dealer_9, fun _ => Or.inl fF_Dealer_9p⟩, List.forall_mem_cons.mpr ⟨⟨fF_Dealer_15, fun h => Bool.noConfusion h⟩, List.forall_mem_cons.mpr ⟨⟨fF_Dealer_19, fun h => Bool.noConfusion h⟩, List.forall_mem_cons.mpr ⟨⟨fF_Dealer_23, fun h => Bool.noConfusion h⟩, List.forall_mem_cons.mpr ⟨⟨fF_Dealer_26, fun h => Bool.noConfusion h⟩, List.forall_mem_cons.mpr ⟨⟨fF_Dealer_29, fun h => Bool.noConfusion h⟩, List.forall_mem_cons.mpr ⟨⟨fF_Dealer_32, fun _ => Or.inl fF_Dealer_32p⟩, List.forall_mem_nil _⟩⟩⟩⟩⟩⟩⟩, List.forall_mem_nil _, List.forall_mem_nil _, List.forall_mem_nil _, fA4⟩
def M_Post_init : ip_M := (⟨"ShareHouse$Post", "<init>", "(ILShareHouse$Circuit;LShareHouse$Inputs;LShareHouse$Dealer;)V"⟩, prog_9_method_1_code, 5, none)
theorem oM_Post_init : ip_okM lg_tbl M_Post_init := ⟨by decide +kernel, ⟨by decide +kernel, by decide +kernel⟩, by decide, tt_3 _ (List.mem_of_getElem? (i := 26) rfl) rfl, tt_1 _ (List.mem_of_getElem? (i := 13) rfl) rfl⟩
def V_Post_init : ip_V := ([(0, .aload_n 0), (1, .invokespecial 3), (4, .aload_n 0), (5, .iconst 0), (6, .newarray .int), (8, .putfield 9), (11, .aload_n 0), (12, .iload_n 1), (13, .putfield 15), (16, .aload_n 0), (17, .aload_n 2), (18, .putfield 19), (21, .aload_n 0), (22, .aload_n 3), (23, .putfield 23), (26, .aload_n 0), (27, .aload 4), (29, .putfield 27), (32, .aload_n 0), (33, .iload_n 1), (34, .newarray .int), (36, .putfield 31), (39, .aload_n 0), (40, .iload_n 1), (41, .newarray .int), (43, .putfield 34), (46, .aload_n 0), (47, .iload_n 1), (48, .newarray .int), (50, .putfield 37), (53, .aload_n 0), (54, .iload_n 1), (55, .newarray .int), (57, .putfield 40), (60, .aload_n 0), (61, .iload_n 1), (62, .newarray .int), (64, .putfield 43), (67, .aload_n 0), (68, .iconst 2), (69, .iload_n 1), (70, .imul), (71, .iload_n 1), (72, .iconst 1), (73, .isub), (74, .imul), (75, .newarray .int), (77, .putfield 46), (80, .return_)], [(9, 7, 13, .array .int, false), (15, 7, 0, .int, true), (19, 7, 1, .object "ShareHouse$Circuit", true), (23, 7, 2, .object "ShareHouse$Inputs", true), (27, 7, 3, .object "ShareHouse$Dealer", true), (31, 7, 4, .array .int, true), (34, 7, 5, .array .int, true), (37, 7, 6, .array .int, true), (40, 7, 7, .array .int, true), (43, 7, 8, .array .int, true), (46, 7, 9, .array .int, true)], [], [], [])
set_option maxRecDepth 100000 in
theorem dV_Post_init_0 : ∀ q ∈ ([(0, .aload_n 0), (1, .invokespecial 3), (4, .aload_n 0), (5, .iconst 0), (6, .newarray .int), (8, .putfield 9), (11, .aload_n 0), (12, .iload_n 1), (13, .putfield 15), (16, .aload_n 0), (17, .aload_n 2), (18, .putfield 19), (21, .aload_n 0), (22, .aload_n 3), (23, .putfield 23), (26, .aload_n 0), (27, .aload 4), (29, .putfield 27), (32, .aload_n 0), (33, .iload_n 1), (34, .newarray .int), (36, .putfield 31), (39, .aload_n 0), (40, .iload_n 1), (41, .newarray .int), (43, .putfield 34), (46, .aload_n 0), (47, .iload_n 1), (48, .newarray .int), (50, .putfield 37), (53, .aload_n 0), (54, .iload_n 1), (55, .newarray .int), (57, .putfield 40), (60, .aload_n 0), (61, .iload_n 1), (62, .newarray .int), (64, .putfield 43), (67, .aload_n 0), (68, .iconst 2)] : List (Nat × Instr)), decode prog_9_method_1_code q.1 = .ok (q.2, ip_len q.1 q.2) := by decide +kernel
set_option maxRecDepth 100000 in
theorem dV_Post_init_1 : ∀ q ∈ ([(69, .iload_n 1), (70, .imul), (71, .iload_n 1), (72, .iconst 1), (73, .isub), (74, .imul), (75, .newarray .int), (77, .putfield 46), (80, .return_)] : List (Nat × Instr)), decode prog_9_method_1_code q.1 = .ok (q.2, ip_len q.1 q.2) := by decide +kernel
set_option maxRecDepth 100000 in
theorem oV_Post_init : ip_okV lg_tbl vwCl M_Post_init V_Post_init := ⟨ip_fap dV_Post_init_0 (dV_Post_init_1), List.forall_mem_cons.mpr ⟨⟨fF_Post_9, fun h => Bool.noConfusion h⟩, List.forall_mem_cons.mpr ⟨⟨fF_Post_15, fun _ => Or.inl fF_Post_15p⟩, List.forall_mem_cons.mpr ⟨⟨fF_Post_19, fun _ => Or.inl fF_Post_19p⟩, List.forall_mem_cons.mpr ⟨⟨fF_Post_23, fun _ => Or.inl fF_Post_23p⟩, List.forall_mem_cons.mpr ⟨⟨fF_Post_27, fun _ => Or.inl fF_Post_27p⟩, List.forall_mem_cons.mpr ⟨⟨fF_Post_31, fun _ => Or.inl fF_Post_31p⟩, List.forall_mem_cons.mpr ⟨⟨fF_Post_34, fun _ => Or.inl fF_Post_34p⟩, List.forall_mem_cons.mpr ⟨⟨fF_Post_37, fun _ => Or.inl fF_Post_37p⟩, List.forall_mem_cons.mpr ⟨⟨fF_Post_40, fun _ => Or.inl fF_Post_40p⟩, List.forall_mem_cons.mpr ⟨⟨fF_Post_43, fun _ => Or.inl fF_Post_43p⟩, List.forall_mem_cons.mpr ⟨⟨fF_Post_46, fun _ => Or.inl fF_Post_46p⟩, List.forall_mem_nil _⟩⟩⟩⟩⟩⟩⟩⟩⟩⟩⟩, List.forall_mem_nil _, List.forall_mem_nil _, List.forall_mem_nil _, fA4⟩
def M_Mo_init : ip_M := (⟨"ShareHouseModel", "<init>", "(II)V"⟩, prog_14_method_1_code, 3, none)
theorem oM_Mo_init : ip_okM lg_tbl M_Mo_init := ⟨by decide +kernel, ⟨by decide +kernel, by decide +kernel⟩, by decide, tt_7 _ (List.mem_of_getElem? (i := 68) rfl) rfl, tt_1 _ (List.mem_of_getElem? (i := 14) rfl) rfl⟩
def V_Mo_init : ip_V := ([(0, .aload_n 0), (1, .invokespecial 1), (4, .aload_n 0), (5, .bipush 20), (7, .newarray .int), (9, .putfield 7), (12, .aload_n 0), (13, .sipush 4000), (16, .newarray .int), (18, .putfield 13), (21, .aload_n 0), (22, .sipush 2000), (25, .newarray .int), (27, .putfield 16), (30, .aload_n 0), (31, .sipush 2000), (34, .newarray .int), (36, .putfield 19), (39, .aload_n 0), (40, .sipush 12000), (43, .newarray .int), (45, .putfield 22), (48, .aload_n 0), (49, .sipush 12000), (52, .newarray .int), (54, .putfield 25), (57, .aload_n 0), (58, .sipush 12000), (61, .newarray .int), (63, .putfield 28), (66, .aload_n 0), (67, .sipush 12000), (70, .newarray .int), (72, .putfield 31), (75, .aload_n 0), (76, .sipush 12000), (79, .newarray .long), (81, .putfield 34), (84, .aload_n 0), (85, .sipush 4100), (88, .newarray .int), (90, .putfield 38), (93, .aload_n 0), (94, .sipush 4100), (97, .newarray .int), (99, .putfield 41), (102, .aload_n 0), (103, .sipush 4100), (106, .newarray .int), (108, .putfield 44), (111, .aload_n 0), (112, .sipush 4100), (115, .newarray .int), (117, .putfield 47), (120, .aload_n 0), (121, .bipush 70), (123, .newarray .int), (125, .putfield 50), (128, .aload_n 0), (129, .bipush 70), (131, .newarray .int), (133, .putfield 53), (136, .aload_n 0), (137, .sipush 12000), (140, .newarray .int), (142, .putfield 56), (145, .aload_n 0), (146, .sipush 2500), (149, .newarray .int), (151, .putfield 59), (154, .aload_n 0), (155, .sipush 2500), (158, .newarray .int), (160, .putfield 62), (163, .aload_n 0), (164, .sipush 2500), (167, .newarray .int), (169, .putfield 65), (172, .aload_n 0), (173, .sipush 2500), (176, .newarray .int), (178, .putfield 68), (181, .aload_n 0), (182, .sipush 2500), (185, .newarray .int), (187, .putfield 71), (190, .aload_n 0), (191, .sipush 2500), (194, .newarray .boolean), (196, .putfield 74), (199, .aload_n 0), (200, .sipush 2500), (203, .newarray .int), (205, .putfield 78), (208, .aload_n 0), (209, .sipush 2500), (212, .newarray .int), (214, .putfield 81), (217, .aload_n 0), (218, .sipush 4200), (221, .newarray .int), (223, .putfield 84), (226, .aload_n 0), (227, .sipush 4200), (230, .newarray .int), (232, .putfield 87), (235, .aload_n 0), (236, .sipush 4200), (239, .newarray .boolean), (241, .putfield 90), (244, .aload_n 0), (245, .bipush 70), (247, .newarray .int), (249, .putfield 93), (252, .aload_n 0), (253, .sipush 12000), (256, .newarray .int), (258, .putfield 96), (261, .aload_n 0), (262, .sipush 12000), (265, .newarray .int), (267, .putfield 99), (270, .aload_n 0), (271, .sipush 12000), (274, .newarray .int), (276, .putfield 102), (279, .aload_n 0), (280, .sipush 12000), (283, .newarray .int), (285, .putfield 105), (288, .aload_n 0), (289, .sipush 12000), (292, .newarray .int), (294, .putfield 108), (297, .aload_n 0), (298, .sipush 12000), (301, .newarray .boolean), (303, .putfield 111), (306, .aload_n 0), (307, .sipush 400), (310, .newarray .int), (312, .putfield 114), (315, .aload_n 0), (316, .sipush 400), (319, .newarray .int), (321, .putfield 117), (324, .aload_n 0), (325, .sipush 1000), (328, .newarray .int), (330, .putfield 120), (333, .aload_n 0), (334, .ldc 123), (336, .newarray .int), (338, .putfield 124), (341, .aload_n 0), (342, .ldc 123), (344, .newarray .int), (346, .putfield 127), (349, .aload_n 0), (350, .ldc 123), (352, .newarray .int), (354, .putfield 130), (357, .aload_n 0), (358, .ldc 123), (360, .newarray .int), (362, .putfield 133), (365, .aload_n 0), (366, .sipush 256), (369, .newarray .int), (371, .putfield 136), (374, .aload_n 0), (375, .sipush 256), (378, .newarray .int), (380, .putfield 139), (383, .aload_n 0), (384, .sipush 256), (387, .newarray .int), (389, .putfield 142), (392, .aload_n 0), (393, .sipush 256), (396, .newarray .long), (398, .putfield 145), (401, .aload_n 0), (402, .sipush 256), (405, .newarray .long), (407, .putfield 148), (410, .aload_n 0), (411, .sipush 500), (414, .newarray .int), (416, .putfield 151), (419, .aload_n 0), (420, .sipush 16000), (423, .newarray .int), (425, .putfield 154), (428, .aload_n 0), (429, .ldc 157), (431, .newarray .int), (433, .putfield 158), (436, .aload_n 0), (437, .bipush 40), (439, .newarray .int), (441, .putfield 161), (444, .aload_n 0), (445, .bipush 40), (447, .newarray .int), (449, .putfield 164), (452, .aload_n 0), (453, .bipush 40), (455, .newarray .int), (457, .putfield 167), (460, .aload_n 0), (461, .bipush 40), (463, .newarray .int), (465, .putfield 170), (468, .aload_n 0), (469, .bipush 40), (471, .newarray .int), (473, .putfield 173), (476, .aload_n 0), (477, .bipush 40), (479, .newarray .int), (481, .putfield 176), (484, .aload_n 0), (485, .bipush 40), (487, .newarray .int), (489, .putfield 179), (492, .aload_n 0), (493, .bipush 40), (495, .newarray .int), (497, .putfield 182), (500, .aload_n 0), (501, .bipush 80), (503, .newarray .int), (505, .putfield 185), (508, .aload_n 0), (509, .sipush 8192), (512, .newarray .int), (514, .putfield 188), (517, .aload_n 0), (518, .sipush 300), (521, .newarray .int), (523, .putfield 191), (526, .aload_n 0), (527, .sipush 300), (530, .newarray .int), (532, .putfield 194), (535, .aload_n 0), (536, .sipush 300), (539, .newarray .int), (541, .putfield 197), (544, .aload_n 0), (545, .bipush 40), (547, .newarray .int), (549, .putfield 200), (552, .aload_n 0), (553, .bipush 40), (555, .newarray .int), (557, .putfield 203), (560, .aload_n 0), (561, .bipush 40), (563, .newarray .boolean), (565, .putfield 206), (568, .aload_n 0), (569, .ldc 209), (571, .newarray .int), (573, .putfield 210), (576, .aload_n 0), (577, .ldc 209), (579, .newarray .int), (581, .putfield 213), (584, .aload_n 0), (585, .sipush 12000), (588, .newarray .long), (590, .putfield 216), (593, .aload_n 0), (594, .sipush 12000), (597, .newarray .long), (599, .putfield 219), (602, .aload_n 0), (603, .sipush 12000), (606, .newarray .int), (608, .putfield 222), (611, .aload_n 0), (612, .sipush 400), (615, .newarray .int), (617, .putfield 225), (620, .aload_n 0), (621, .sipush 400), (624, .newarray .int), (626, .putfield 228), (629, .aload_n 0), (630, .bipush 40), (632, .newarray .int), (634, .putfield 231), (637, .aload_n 0), (638, .sipush 4200), (641, .newarray .long), (643, .putfield 234), (646, .aload_n 0), (647, .sipush 256), (650, .newarray .long), (652, .putfield 237), (655, .aload_n 0), (656, .sipush 500), (659, .newarray .long), (661, .putfield 240), (664, .aload_n 0), (665, .sipush 2000), (668, .newarray .int), (670, .putfield 243), (673, .aload_n 0), (674, .ldc 246), (676, .newarray .int), (678, .putfield 247), (681, .aload_n 0), (682, .ldc 123), (684, .newarray .int), (686, .putfield 250), (689, .aload_n 0), (690, .ldc 123), (692, .newarray .int), (694, .putfield 253), (697, .aload_n 0), (698, .ldc 123), (700, .newarray .int), (702, .putfield 256), (705, .aload_n 0), (706, .sipush 2003), (709, .newarray .int), (711, .putfield 259), (714, .aload_n 0), (715, .ldc 123), (717, .newarray .int), (719, .putfield 262), (722, .aload_n 0), (723, .bipush 16), (725, .newarray .int), (727, .putfield 265), (730, .aload_n 0), (731, .bipush 16), (733, .newarray .int), (735, .putfield 268), (738, .aload_n 0), (739, .bipush 16), (741, .newarray .int), (743, .putfield 271), (746, .aload_n 0), (747, .bipush 16), (749, .newarray .int), (751, .putfield 274), (754, .aload_n 0), (755, .bipush 16), (757, .newarray .int), (759, .putfield 277), (762, .aload_n 0), (763, .ldc_w 280), (766, .newarray .int), (768, .putfield 281), (771, .aload_n 0), (772, .ldc_w 280), (775, .newarray .int), (777, .putfield 284), (780, .aload_n 0), (781, .sipush 1000), (784, .newarray .int), (786, .putfield 287), (789, .aload_n 0), (790, .sipush 1000), (793, .newarray .int), (795, .putfield 290), (798, .aload_n 0), (799, .sipush 1000), (802, .newarray .int), (804, .putfield 293), (807, .aload_n 0), (808, .bipush 16), (810, .newarray .int), (812, .putfield 296), (815, .aload_n 0), (816, .iload_n 1), (817, .iconst 2), (818, .if_icmp .ge 7), (821, .iconst 2), (822, .goto 15), (825, .iload_n 1), (826, .bipush 16), (828, .if_icmp .le 8), (831, .bipush 16), (833, .goto 4), (836, .iload_n 1), (837, .putfield 299), (840, .aload_n 0), (841, .iload_n 2), (842, .iconst 1), (843, .if_icmp .ge 7), (846, .iconst 1), (847, .goto 15), (850, .iload_n 2), (851, .bipush 32), (853, .if_icmp .le 8), (856, .bipush 32), (858, .goto 4), (861, .iload_n 2), (862, .putfield 303), (865, .aload_n 0), (866, .lconst 1), (867, .aload_n 0), (868, .getfield 303), (871, .lshl), (872, .lconst 1), (873, .lsub), (874, .putfield 306), (877, .aload_n 0), (878, .iconst 1), (879, .putfield 310), (882, .aload_n 0), (883, .iconst (-1)), (884, .putfield 313), (887, .return_)], [(7, 12, 3, .array .int, true), (13, 12, 4, .array .int, true), (16, 12, 10, .array .int, true), (19, 12, 11, .array .int, true), (22, 12, 14, .array .int, true), (25, 12, 15, .array .int, true), (28, 12, 16, .array .int, true), (31, 12, 17, .array .int, true), (34, 12, 18, .array .long, true), (38, 12, 21, .array .int, true), (41, 12, 22, .array .int, true), (44, 12, 23, .array .int, true), (47, 12, 24, .array .int, true), (50, 12, 27, .array .int, true), (53, 12, 28, .array .int, true), (56, 12, 33, .array .int, true), (59, 12, 35, .array .int, true), (62, 12, 36, .array .int, true), (65, 12, 37, .array .int, true), (68, 12, 38, .array .int, true), (71, 12, 39, .array .int, true), (74, 12, 40, .array .boolean, true), (78, 12, 41, .array .int, true), (81, 12, 42, .array .int, true), (84, 12, 44, .array .int, true), (87, 12, 45, .array .int, true), (90, 12, 46, .array .boolean, true), (93, 12, 48, .array .int, true), (96, 12, 50, .array .int, true), (99, 12, 51, .array .int, true), (102, 12, 52, .array .int, true), (105, 12, 53, .array .int, true), (108, 12, 54, .array .int, true), (111, 12, 55, .array .boolean, true), (114, 12, 57, .array .int, true), (117, 12, 58, .array .int, true), (120, 12, 64, .array .int, true), (124, 12, 71, .array .int, true), (127, 12, 72, .array .int, true), (130, 12, 73, .array .int, true), (133, 12, 74, .array .int, true), (136, 12, 76, .array .int, true), (139, 12, 77, .array .int, true), (142, 12, 78, .array .int, true), (145, 12, 79, .array .long, true), (148, 12, 80, .array .long, true), (151, 12, 81, .array .int, true), (154, 12, 82, .array .int, true), (158, 12, 84, .array .int, true), (161, 12, 86, .array .int, true), (164, 12, 87, .array .int, true), (167, 12, 88, .array .int, true), (170, 12, 89, .array .int, true), (173, 12, 90, .array .int, true), (176, 12, 91, .array .int, true), (179, 12, 92, .array .int, true), (182, 12, 93, .array .int, true), (185, 12, 95, .array .int, true), (188, 12, 96, .array .int, true), (191, 12, 98, .array .int, true), (194, 12, 99, .array .int, true), (197, 12, 100, .array .int, true), (200, 12, 102, .array .int, true), (203, 12, 103, .array .int, true), (206, 12, 104, .array .boolean, true), (210, 12, 105, .array .int, true), (213, 12, 106, .array .int, true), (216, 12, 107, .array .long, true), (219, 12, 108, .array .long, true), (222, 12, 109, .array .int, true), (225, 12, 111, .array .int, true), (228, 12, 112, .array .int, true), (231, 12, 113, .array .int, true), (234, 12, 114, .array .long, true), (237, 12, 116, .array .long, true), (240, 12, 117, .array .long, true), (243, 12, 123, .array .int, true), (247, 12, 125, .array .int, true), (250, 12, 126, .array .int, true), (253, 12, 127, .array .int, true), (256, 12, 128, .array .int, true), (259, 12, 129, .array .int, true), (262, 12, 130, .array .int, true), (265, 12, 132, .array .int, true), (268, 12, 133, .array .int, true), (271, 12, 134, .array .int, true), (274, 12, 135, .array .int, true), (277, 12, 136, .array .int, true), (281, 12, 137, .array .int, true), (284, 12, 138, .array .int, true), (287, 12, 141, .array .int, true), (290, 12, 142, .array .int, true), (293, 12, 143, .array .int, true), (296, 12, 144, .array .int, true), (299, 12, 0, .int, true), (303, 12, 1, .int, true), (306, 12, 2, .long, true), (310, 12, 120, .int, false), (313, 12, 8, .int, false)], [], [(123, 40000), (157, 134400), (209, 327680), (246, 48192), (280, 481000)], [])
set_option maxRecDepth 100000 in
theorem dV_Mo_init_0 : ∀ q ∈ ([(0, .aload_n 0), (1, .invokespecial 1), (4, .aload_n 0), (5, .bipush 20), (7, .newarray .int), (9, .putfield 7), (12, .aload_n 0), (13, .sipush 4000)] : List (Nat × Instr)), decode prog_14_method_1_code q.1 = .ok (q.2, ip_len q.1 q.2) := by decide +kernel
set_option maxRecDepth 100000 in
theorem dV_Mo_init_1 : ∀ q ∈ ([(16, .newarray .int), (18, .putfield 13), (21, .aload_n 0), (22, .sipush 2000), (25, .newarray .int), (27, .putfield 16), (30, .aload_n 0), (31, .sipush 2000)] : List (Nat × Instr)), decode prog_14_method_1_code q.1 = .ok (q.2, ip_len q.1 q.2) := by decide +kernel
set_option maxRecDepth 100000 in
theorem dV_Mo_init_2 : ∀ q ∈ ([(34, .newarray .int), (36, .putfield 19), (39, .aload_n 0), (40, .sipush 12000), (43, .newarray .int), (45, .putfield 22), (48, .aload_n 0), (49, .sipush 12000)] : List (Nat × Instr)), decode prog_14_method_1_code q.1 = .ok (q.2, ip_len q.1 q.2) := by decide +kernel
set_option maxRecDepth 100000 in
theorem dV_Mo_init_3 : ∀ q ∈ ([(52, .newarray .int), (54, .putfield 25), (57, .aload_n 0), (58, .sipush 12000), (61, .newarray .int), (63, .putfield 28), (66, .aload_n 0), (67, .sipush 12000)] : List (Nat × Instr)), decode prog_14_method_1_code q.1 = .ok (q.2, ip_len q.1 q.2) := by decide +kernel
set_option maxRecDepth 100000 in
theorem dV_Mo_init_4 : ∀ q ∈ ([(70, .newarray .int), (72, .putfield 31), (75, .aload_n 0), (76, .sipush 12000), (79, .newarray .long), (81, .putfield 34), (84, .aload_n 0), (85, .sipush 4100)] : List (Nat × Instr)), decode prog_14_method_1_code q.1 = .ok (q.2, ip_len q.1 q.2) := by decide +kernel
set_option maxRecDepth 100000 in
theorem dV_Mo_init_5 : ∀ q ∈ ([(88, .newarray .int), (90, .putfield 38), (93, .aload_n 0), (94, .sipush 4100), (97, .newarray .int), (99, .putfield 41), (102, .aload_n 0), (103, .sipush 4100)] : List (Nat × Instr)), decode prog_14_method_1_code q.1 = .ok (q.2, ip_len q.1 q.2) := by decide +kernel
set_option maxRecDepth 100000 in
theorem dV_Mo_init_6 : ∀ q ∈ ([(106, .newarray .int), (108, .putfield 44), (111, .aload_n 0), (112, .sipush 4100), (115, .newarray .int), (117, .putfield 47), (120, .aload_n 0), (121, .bipush 70)] : List (Nat × Instr)), decode prog_14_method_1_code q.1 = .ok (q.2, ip_len q.1 q.2) := by decide +kernel
set_option maxRecDepth 100000 in
theorem dV_Mo_init_7 : ∀ q ∈ ([(123, .newarray .int), (125, .putfield 50), (128, .aload_n 0), (129, .bipush 70), (131, .newarray .int), (133, .putfield 53), (136, .aload_n 0), (137, .sipush 12000)] : List (Nat × Instr)), decode prog_14_method_1_code q.1 = .ok (q.2, ip_len q.1 q.2) := by decide +kernel
set_option maxRecDepth 100000 in
theorem dV_Mo_init_8 : ∀ q ∈ ([(140, .newarray .int), (142, .putfield 56), (145, .aload_n 0), (146, .sipush 2500), (149, .newarray .int), (151, .putfield 59), (154, .aload_n 0), (155, .sipush 2500)] : List (Nat × Instr)), decode prog_14_method_1_code q.1 = .ok (q.2, ip_len q.1 q.2) := by decide +kernel
set_option maxRecDepth 100000 in
theorem dV_Mo_init_9 : ∀ q ∈ ([(158, .newarray .int), (160, .putfield 62), (163, .aload_n 0), (164, .sipush 2500), (167, .newarray .int), (169, .putfield 65), (172, .aload_n 0), (173, .sipush 2500)] : List (Nat × Instr)), decode prog_14_method_1_code q.1 = .ok (q.2, ip_len q.1 q.2) := by decide +kernel
set_option maxRecDepth 100000 in
theorem dV_Mo_init_10 : ∀ q ∈ ([(176, .newarray .int), (178, .putfield 68), (181, .aload_n 0), (182, .sipush 2500), (185, .newarray .int), (187, .putfield 71), (190, .aload_n 0), (191, .sipush 2500)] : List (Nat × Instr)), decode prog_14_method_1_code q.1 = .ok (q.2, ip_len q.1 q.2) := by decide +kernel
set_option maxRecDepth 100000 in
theorem dV_Mo_init_11 : ∀ q ∈ ([(194, .newarray .boolean), (196, .putfield 74), (199, .aload_n 0), (200, .sipush 2500), (203, .newarray .int), (205, .putfield 78), (208, .aload_n 0), (209, .sipush 2500)] : List (Nat × Instr)), decode prog_14_method_1_code q.1 = .ok (q.2, ip_len q.1 q.2) := by decide +kernel
set_option maxRecDepth 100000 in
theorem dV_Mo_init_12 : ∀ q ∈ ([(212, .newarray .int), (214, .putfield 81), (217, .aload_n 0), (218, .sipush 4200), (221, .newarray .int), (223, .putfield 84), (226, .aload_n 0), (227, .sipush 4200)] : List (Nat × Instr)), decode prog_14_method_1_code q.1 = .ok (q.2, ip_len q.1 q.2) := by decide +kernel
set_option maxRecDepth 100000 in
theorem dV_Mo_init_13 : ∀ q ∈ ([(230, .newarray .int), (232, .putfield 87), (235, .aload_n 0), (236, .sipush 4200), (239, .newarray .boolean), (241, .putfield 90), (244, .aload_n 0), (245, .bipush 70)] : List (Nat × Instr)), decode prog_14_method_1_code q.1 = .ok (q.2, ip_len q.1 q.2) := by decide +kernel
set_option maxRecDepth 100000 in
theorem dV_Mo_init_14 : ∀ q ∈ ([(247, .newarray .int), (249, .putfield 93), (252, .aload_n 0), (253, .sipush 12000), (256, .newarray .int), (258, .putfield 96), (261, .aload_n 0), (262, .sipush 12000)] : List (Nat × Instr)), decode prog_14_method_1_code q.1 = .ok (q.2, ip_len q.1 q.2) := by decide +kernel
set_option maxRecDepth 100000 in
theorem dV_Mo_init_15 : ∀ q ∈ ([(265, .newarray .int), (267, .putfield 99), (270, .aload_n 0), (271, .sipush 12000), (274, .newarray .int), (276, .putfield 102), (279, .aload_n 0), (280, .sipush 12000)] : List (Nat × Instr)), decode prog_14_method_1_code q.1 = .ok (q.2, ip_len q.1 q.2) := by decide +kernel
set_option maxRecDepth 100000 in
theorem dV_Mo_init_16 : ∀ q ∈ ([(283, .newarray .int), (285, .putfield 105), (288, .aload_n 0), (289, .sipush 12000), (292, .newarray .int), (294, .putfield 108), (297, .aload_n 0), (298, .sipush 12000)] : List (Nat × Instr)), decode prog_14_method_1_code q.1 = .ok (q.2, ip_len q.1 q.2) := by decide +kernel
set_option maxRecDepth 100000 in
theorem dV_Mo_init_17 : ∀ q ∈ ([(301, .newarray .boolean), (303, .putfield 111), (306, .aload_n 0), (307, .sipush 400), (310, .newarray .int), (312, .putfield 114), (315, .aload_n 0), (316, .sipush 400)] : List (Nat × Instr)), decode prog_14_method_1_code q.1 = .ok (q.2, ip_len q.1 q.2) := by decide +kernel
set_option maxRecDepth 100000 in
theorem dV_Mo_init_18 : ∀ q ∈ ([(319, .newarray .int), (321, .putfield 117), (324, .aload_n 0), (325, .sipush 1000), (328, .newarray .int), (330, .putfield 120), (333, .aload_n 0), (334, .ldc 123)] : List (Nat × Instr)), decode prog_14_method_1_code q.1 = .ok (q.2, ip_len q.1 q.2) := by decide +kernel
set_option maxRecDepth 100000 in
theorem dV_Mo_init_19 : ∀ q ∈ ([(336, .newarray .int), (338, .putfield 124), (341, .aload_n 0), (342, .ldc 123), (344, .newarray .int), (346, .putfield 127), (349, .aload_n 0), (350, .ldc 123)] : List (Nat × Instr)), decode prog_14_method_1_code q.1 = .ok (q.2, ip_len q.1 q.2) := by decide +kernel
set_option maxRecDepth 100000 in
theorem dV_Mo_init_20 : ∀ q ∈ ([(352, .newarray .int), (354, .putfield 130), (357, .aload_n 0), (358, .ldc 123), (360, .newarray .int), (362, .putfield 133), (365, .aload_n 0), (366, .sipush 256)] : List (Nat × Instr)), decode prog_14_method_1_code q.1 = .ok (q.2, ip_len q.1 q.2) := by decide +kernel
set_option maxRecDepth 100000 in
theorem dV_Mo_init_21 : ∀ q ∈ ([(369, .newarray .int), (371, .putfield 136), (374, .aload_n 0), (375, .sipush 256), (378, .newarray .int), (380, .putfield 139), (383, .aload_n 0), (384, .sipush 256)] : List (Nat × Instr)), decode prog_14_method_1_code q.1 = .ok (q.2, ip_len q.1 q.2) := by decide +kernel
set_option maxRecDepth 100000 in
theorem dV_Mo_init_22 : ∀ q ∈ ([(387, .newarray .int), (389, .putfield 142), (392, .aload_n 0), (393, .sipush 256), (396, .newarray .long), (398, .putfield 145), (401, .aload_n 0), (402, .sipush 256)] : List (Nat × Instr)), decode prog_14_method_1_code q.1 = .ok (q.2, ip_len q.1 q.2) := by decide +kernel
set_option maxRecDepth 100000 in
theorem dV_Mo_init_23 : ∀ q ∈ ([(405, .newarray .long), (407, .putfield 148), (410, .aload_n 0), (411, .sipush 500), (414, .newarray .int), (416, .putfield 151), (419, .aload_n 0), (420, .sipush 16000)] : List (Nat × Instr)), decode prog_14_method_1_code q.1 = .ok (q.2, ip_len q.1 q.2) := by decide +kernel
set_option maxRecDepth 100000 in
theorem dV_Mo_init_24 : ∀ q ∈ ([(423, .newarray .int), (425, .putfield 154), (428, .aload_n 0), (429, .ldc 157), (431, .newarray .int), (433, .putfield 158), (436, .aload_n 0), (437, .bipush 40)] : List (Nat × Instr)), decode prog_14_method_1_code q.1 = .ok (q.2, ip_len q.1 q.2) := by decide +kernel
set_option maxRecDepth 100000 in
theorem dV_Mo_init_25 : ∀ q ∈ ([(439, .newarray .int), (441, .putfield 161), (444, .aload_n 0), (445, .bipush 40), (447, .newarray .int), (449, .putfield 164), (452, .aload_n 0), (453, .bipush 40)] : List (Nat × Instr)), decode prog_14_method_1_code q.1 = .ok (q.2, ip_len q.1 q.2) := by decide +kernel
set_option maxRecDepth 100000 in
theorem dV_Mo_init_26 : ∀ q ∈ ([(455, .newarray .int), (457, .putfield 167), (460, .aload_n 0), (461, .bipush 40), (463, .newarray .int), (465, .putfield 170), (468, .aload_n 0), (469, .bipush 40)] : List (Nat × Instr)), decode prog_14_method_1_code q.1 = .ok (q.2, ip_len q.1 q.2) := by decide +kernel
set_option maxRecDepth 100000 in
theorem dV_Mo_init_27 : ∀ q ∈ ([(471, .newarray .int), (473, .putfield 173), (476, .aload_n 0), (477, .bipush 40), (479, .newarray .int), (481, .putfield 176), (484, .aload_n 0), (485, .bipush 40)] : List (Nat × Instr)), decode prog_14_method_1_code q.1 = .ok (q.2, ip_len q.1 q.2) := by decide +kernel
set_option maxRecDepth 100000 in
theorem dV_Mo_init_28 : ∀ q ∈ ([(487, .newarray .int), (489, .putfield 179), (492, .aload_n 0), (493, .bipush 40), (495, .newarray .int), (497, .putfield 182), (500, .aload_n 0), (501, .bipush 80)] : List (Nat × Instr)), decode prog_14_method_1_code q.1 = .ok (q.2, ip_len q.1 q.2) := by decide +kernel
set_option maxRecDepth 100000 in
theorem dV_Mo_init_29 : ∀ q ∈ ([(503, .newarray .int), (505, .putfield 185), (508, .aload_n 0), (509, .sipush 8192), (512, .newarray .int), (514, .putfield 188), (517, .aload_n 0), (518, .sipush 300)] : List (Nat × Instr)), decode prog_14_method_1_code q.1 = .ok (q.2, ip_len q.1 q.2) := by decide +kernel
set_option maxRecDepth 100000 in
theorem dV_Mo_init_30 : ∀ q ∈ ([(521, .newarray .int), (523, .putfield 191), (526, .aload_n 0), (527, .sipush 300), (530, .newarray .int), (532, .putfield 194), (535, .aload_n 0), (536, .sipush 300)] : List (Nat × Instr)), decode prog_14_method_1_code q.1 = .ok (q.2, ip_len q.1 q.2) := by decide +kernel
set_option maxRecDepth 100000 in
theorem dV_Mo_init_31 : ∀ q ∈ ([(539, .newarray .int), (541, .putfield 197), (544, .aload_n 0), (545, .bipush 40), (547, .newarray .int), (549, .putfield 200), (552, .aload_n 0), (553, .bipush 40)] : List (Nat × Instr)), decode prog_14_method_1_code q.1 = .ok (q.2, ip_len q.1 q.2) := by decide +kernel
set_option maxRecDepth 100000 in
theorem dV_Mo_init_32 : ∀ q ∈ ([(555, .newarray .int), (557, .putfield 203), (560, .aload_n 0), (561, .bipush 40), (563, .newarray .boolean), (565, .putfield 206), (568, .aload_n 0), (569, .ldc 209)] : List (Nat × Instr)), decode prog_14_method_1_code q.1 = .ok (q.2, ip_len q.1 q.2) := by decide +kernel
set_option maxRecDepth 100000 in
theorem dV_Mo_init_33 : ∀ q ∈ ([(571, .newarray .int), (573, .putfield 210), (576, .aload_n 0), (577, .ldc 209), (579, .newarray .int), (581, .putfield 213), (584, .aload_n 0), (585, .sipush 12000)] : List (Nat × Instr)), decode prog_14_method_1_code q.1 = .ok (q.2, ip_len q.1 q.2) := by decide +kernel
set_option maxRecDepth 100000 in
theorem dV_Mo_init_34 : ∀ q ∈ ([(588, .newarray .long), (590, .putfield 216), (593, .aload_n 0), (594, .sipush 12000), (597, .newarray .long), (599, .putfield 219), (602, .aload_n 0), (603, .sipush 12000)] : List (Nat × Instr)), decode prog_14_method_1_code q.1 = .ok (q.2, ip_len q.1 q.2) := by decide +kernel
set_option maxRecDepth 100000 in
theorem dV_Mo_init_35 : ∀ q ∈ ([(606, .newarray .int), (608, .putfield 222), (611, .aload_n 0), (612, .sipush 400), (615, .newarray .int), (617, .putfield 225), (620, .aload_n 0), (621, .sipush 400)] : List (Nat × Instr)), decode prog_14_method_1_code q.1 = .ok (q.2, ip_len q.1 q.2) := by decide +kernel
set_option maxRecDepth 100000 in
theorem dV_Mo_init_36 : ∀ q ∈ ([(624, .newarray .int), (626, .putfield 228), (629, .aload_n 0), (630, .bipush 40), (632, .newarray .int), (634, .putfield 231), (637, .aload_n 0), (638, .sipush 4200)] : List (Nat × Instr)), decode prog_14_method_1_code q.1 = .ok (q.2, ip_len q.1 q.2) := by decide +kernel
set_option maxRecDepth 100000 in
theorem dV_Mo_init_37 : ∀ q ∈ ([(641, .newarray .long), (643, .putfield 234), (646, .aload_n 0), (647, .sipush 256), (650, .newarray .long), (652, .putfield 237), (655, .aload_n 0), (656, .sipush 500)] : List (Nat × Instr)), decode prog_14_method_1_code q.1 = .ok (q.2, ip_len q.1 q.2) := by decide +kernel
set_option maxRecDepth 100000 in
theorem dV_Mo_init_38 : ∀ q ∈ ([(659, .newarray .long), (661, .putfield 240), (664, .aload_n 0), (665, .sipush 2000), (668, .newarray .int), (670, .putfield 243), (673, .aload_n 0), (674, .ldc 246)] : List (Nat × Instr)), decode prog_14_method_1_code q.1 = .ok (q.2, ip_len q.1 q.2) := by decide +kernel
set_option maxRecDepth 100000 in
theorem dV_Mo_init_39 : ∀ q ∈ ([(676, .newarray .int), (678, .putfield 247), (681, .aload_n 0), (682, .ldc 123), (684, .newarray .int), (686, .putfield 250), (689, .aload_n 0), (690, .ldc 123)] : List (Nat × Instr)), decode prog_14_method_1_code q.1 = .ok (q.2, ip_len q.1 q.2) := by decide +kernel
set_option maxRecDepth 100000 in
theorem dV_Mo_init_40 : ∀ q ∈ ([(692, .newarray .int), (694, .putfield 253), (697, .aload_n 0), (698, .ldc 123), (700, .newarray .int), (702, .putfield 256), (705, .aload_n 0), (706, .sipush 2003)] : List (Nat × Instr)), decode prog_14_method_1_code q.1 = .ok (q.2, ip_len q.1 q.2) := by decide +kernel
set_option maxRecDepth 100000 in
theorem dV_Mo_init_41 : ∀ q ∈ ([(709, .newarray .int), (711, .putfield 259), (714, .aload_n 0), (715, .ldc 123), (717, .newarray .int), (719, .putfield 262), (722, .aload_n 0), (723, .bipush 16)] : List (Nat × Instr)), decode prog_14_method_1_code q.1 = .ok (q.2, ip_len q.1 q.2) := by decide +kernel
set_option maxRecDepth 100000 in
theorem dV_Mo_init_42 : ∀ q ∈ ([(725, .newarray .int), (727, .putfield 265), (730, .aload_n 0), (731, .bipush 16), (733, .newarray .int), (735, .putfield 268), (738, .aload_n 0), (739, .bipush 16)] : List (Nat × Instr)), decode prog_14_method_1_code q.1 = .ok (q.2, ip_len q.1 q.2) := by decide +kernel
set_option maxRecDepth 100000 in
theorem dV_Mo_init_43 : ∀ q ∈ ([(741, .newarray .int), (743, .putfield 271), (746, .aload_n 0), (747, .bipush 16), (749, .newarray .int), (751, .putfield 274), (754, .aload_n 0), (755, .bipush 16)] : List (Nat × Instr)), decode prog_14_method_1_code q.1 = .ok (q.2, ip_len q.1 q.2) := by decide +kernel
set_option maxRecDepth 100000 in
theorem dV_Mo_init_44 : ∀ q ∈ ([(757, .newarray .int), (759, .putfield 277), (762, .aload_n 0), (763, .ldc_w 280), (766, .newarray .int), (768, .putfield 281), (771, .aload_n 0), (772, .ldc_w 280)] : List (Nat × Instr)), decode prog_14_method_1_code q.1 = .ok (q.2, ip_len q.1 q.2) := by decide +kernel
set_option maxRecDepth 100000 in
theorem dV_Mo_init_45 : ∀ q ∈ ([(775, .newarray .int), (777, .putfield 284), (780, .aload_n 0), (781, .sipush 1000), (784, .newarray .int), (786, .putfield 287), (789, .aload_n 0), (790, .sipush 1000)] : List (Nat × Instr)), decode prog_14_method_1_code q.1 = .ok (q.2, ip_len q.1 q.2) := by decide +kernel
set_option maxRecDepth 100000 in
theorem dV_Mo_init_46 : ∀ q ∈ ([(793, .newarray .int), (795, .putfield 290), (798, .aload_n 0), (799, .sipush 1000), (802, .newarray .int), (804, .putfield 293), (807, .aload_n 0), (808, .bipush 16)] : List (Nat × Instr)), decode prog_14_method_1_code q.1 = .ok (q.2, ip_len q.1 q.2) := by decide +kernel
set_option maxRecDepth 100000 in
theorem dV_Mo_init_47 : ∀ q ∈ ([(810, .newarray .int), (812, .putfield 296), (815, .aload_n 0), (816, .iload_n 1), (817, .iconst 2), (818, .if_icmp .ge 7), (821, .iconst 2), (822, .goto 15)] : List (Nat × Instr)), decode prog_14_method_1_code q.1 = .ok (q.2, ip_len q.1 q.2) := by decide +kernel
set_option maxRecDepth 100000 in
theorem dV_Mo_init_48 : ∀ q ∈ ([(825, .iload_n 1), (826, .bipush 16), (828, .if_icmp .le 8), (831, .bipush 16), (833, .goto 4), (836, .iload_n 1), (837, .putfield 299), (840, .aload_n 0)] : List (Nat × Instr)), decode prog_14_method_1_code q.1 = .ok (q.2, ip_len q.1 q.2) := by decide +kernel
set_option maxRecDepth 100000 in
theorem dV_Mo_init_49 : ∀ q ∈ ([(841, .iload_n 2), (842, .iconst 1), (843, .if_icmp .ge 7), (846, .iconst 1), (847, .goto 15), (850, .iload_n 2), (851, .bipush 32), (853, .if_icmp .le 8)] : List (Nat × Instr)), decode prog_14_method_1_code q.1 = .ok (q.2, ip_len q.1 q.2) := by decide +kernel
set_option maxRecDepth 100000 in
theorem dV_Mo_init_50 : ∀ q ∈ ([(856, .bipush 32), (858, .goto 4), (861, .iload_n 2), (862, .putfield 303), (865, .aload_n 0), (866, .lconst 1), (867, .aload_n 0), (868, .getfield 303)] : List (Nat × Instr)), decode prog_14_method_1_code q.1 = .ok (q.2, ip_len q.1 q.2) := by decide +kernel
set_option maxRecDepth 100000 in
theorem dV_Mo_init_51 : ∀ q ∈ ([(871, .lshl), (872, .lconst 1), (873, .lsub), (874, .putfield 306), (877, .aload_n 0), (878, .iconst 1), (879, .putfield 310), (882, .aload_n 0)] : List (Nat × Instr)), decode prog_14_method_1_code q.1 = .ok (q.2, ip_len q.1 q.2) := by decide +kernel
set_option maxRecDepth 100000 in
theorem dV_Mo_init_52 : ∀ q ∈ ([(883, .iconst (-1)), (884, .putfield 313), (887, .return_)] : List (Nat × Instr)), decode prog_14_method_1_code q.1 = .ok (q.2, ip_len q.1 q.2) := by decide +kernel
set_option maxRecDepth 100000 in
theorem oV_Mo_init : ip_okV lg_tbl vwCl M_Mo_init V_Mo_init := ⟨ip_fap dV_Mo_init_0 (ip_fap dV_Mo_init_1 (ip_fap dV_Mo_init_2 (ip_fap dV_Mo_init_3 (ip_fap dV_Mo_init_4 (ip_fap dV_Mo_init_5 (ip_fap dV_Mo_init_6 (ip_fap dV_Mo_init_7 (ip_fap dV_Mo_init_8 (ip_fap dV_Mo_init_9 (ip_fap dV_Mo_init_10 (ip_fap dV_Mo_init_11 (ip_fap dV_Mo_init_12 (ip_fap dV_Mo_init_13 (ip_fap dV_Mo_init_14 (ip_fap dV_Mo_init_15 (ip_fap dV_Mo_init_16 (ip_fap dV_Mo_init_17 (ip_fap dV_Mo_init_18 (ip_fap dV_Mo_init_19 (ip_fap dV_Mo_init_20 (ip_fap dV_Mo_init_21 (ip_fap dV_Mo_init_22 (ip_fap dV_Mo_init_23 (ip_fap dV_Mo_init_24 (ip_fap dV_Mo_init_25 (ip_fap dV_Mo_init_26 (ip_fap dV_Mo_init_27 (ip_fap dV_Mo_init_28 (ip_fap dV_Mo_init_29 (ip_fap dV_Mo_init_30 (ip_fap dV_Mo_init_31 (ip_fap dV_Mo_init_32 (ip_fap dV_Mo_init_33 (ip_fap dV_Mo_init_34 (ip_fap dV_Mo_init_35 (ip_fap dV_Mo_init_36 (ip_fap dV_Mo_init_37 (ip_fap dV_Mo_init_38 (ip_fap dV_Mo_init_39 (ip_fap dV_Mo_init_40 (ip_fap dV_Mo_init_41 (ip_fap dV_Mo_init_42 (ip_fap dV_Mo_init_43 (ip_fap dV_Mo_init_44 (ip_fap dV_Mo_init_45 (ip_fap dV_Mo_init_46 (ip_fap dV_Mo_init_47 (ip_fap dV_Mo_init_48 (ip_fap dV_Mo_init_49 (ip_fap dV_Mo_init_50 (ip_fap dV_Mo_init_51 (dV_Mo_init_52)))))))))))))))))))))))))))))))))))))))))))))))))))), List.forall_mem_cons.mpr ⟨⟨fF_Mo_7, fun _ => Or.inl fF_Mo_7p⟩, List.forall_mem_cons.mpr ⟨⟨fF_Mo_13, fun _ => Or.inl fF_Mo_13p⟩, List.forall_mem_cons.mpr ⟨⟨fF_Mo_16, fun _ => Or.inl fF_Mo_16p⟩, List.forall_mem_cons.mpr ⟨⟨fF_Mo_19, fun _ => Or.inl fF_Mo_19p⟩, List.forall_mem_cons.mpr ⟨⟨fF_Mo_22, fun _ => Or.inl fF_Mo_22p⟩, List.forall_mem_cons.mpr ⟨⟨fF_Mo_25, fun _ => Or.inl fF_Mo_25p⟩, List.forall_mem_cons.mpr ⟨⟨fF_Mo_28, fun _ => Or.inl fF_Mo_28p⟩, List.forall_mem_cons.mpr ⟨⟨fF_Mo_31, fun _ => Or.inl fF_Mo_31p⟩, List.forall_mem_cons.mpr ⟨⟨fF_Mo_34, fun _ => Or.inl fF_Mo_34p⟩, List.forall_mem_cons.mpr ⟨⟨fF_Mo_38, fun _ => Or.inl fF_Mo_38p⟩, List.forall_mem_cons.mpr ⟨⟨fF_Mo_41, fun _ => Or.inl fF_Mo_41p⟩, List.forall_mem_cons.mpr ⟨⟨fF_Mo_44, fun _ => Or.inl fF_Mo_44p⟩, List.forall_mem_cons.mpr ⟨⟨fF_Mo_47, fun _ => Or.inl fF_Mo_47p⟩, List.forall_mem_cons.mpr ⟨⟨fF_Mo_50, fun _ => Or.inl fF_Mo_50p⟩, List.forall_mem_cons.mpr ⟨⟨fF_Mo_53, fun _ => Or.inl fF_Mo_53p⟩, List.forall_mem_cons.mpr ⟨⟨fF_Mo_56, fun _ => Or.inl fF_Mo_56p⟩, List.forall_mem_cons.mpr ⟨⟨fF_Mo_59, fun _ => Or.inl fF_Mo_59p⟩, List.forall_mem_cons.mpr ⟨⟨fF_Mo_62, fun _ => Or.inl fF_Mo_62p⟩, List.forall_mem_cons.mpr ⟨⟨fF_Mo_65, fun _ => Or.inl fF_Mo_65p⟩, List.forall_mem_cons.mpr ⟨⟨fF_Mo_68, fun _ => Or.inl fF_Mo_68p⟩, List.forall_mem_cons.mpr ⟨⟨fF_Mo_71, fun _ => Or.inl fF_Mo_71p⟩, List.forall_mem_cons.mpr ⟨⟨fF_Mo_74, fun _ => Or.inl fF_Mo_74p⟩, List.forall_mem_cons.mpr ⟨⟨fF_Mo_78, fun _ => Or.inl fF_Mo_78p⟩, List.forall_mem_cons.mpr ⟨⟨fF_Mo_81, fun _ => Or.inl fF_Mo_81p⟩, List.forall_mem_cons.mpr ⟨⟨fF_Mo_84, fun _ => Or.inl fF_Mo_84p⟩, List.forall_mem_cons.mpr ⟨⟨fF_Mo_87, fun _ => Or.inl fF_Mo_87p⟩, List.forall_mem_cons.mpr ⟨⟨fF_Mo_90, fun _ => Or.inl fF_Mo_90p⟩, List.forall_mem_cons.mpr ⟨⟨fF_Mo_93, fun _ => Or.inl fF_Mo_93p⟩, List.forall_mem_cons.mpr ⟨⟨fF_Mo_96, fun _ => Or.inl fF_Mo_96p⟩, List.forall_mem_cons.mpr ⟨⟨fF_Mo_99, fun _ => Or.inl fF_Mo_99p⟩, List.forall_mem_cons.mpr ⟨⟨fF_Mo_102, fun _ => Or.inl fF_Mo_102p⟩, List.forall_mem_cons.mpr ⟨⟨fF_Mo_105, fun _ => Or.inl fF_Mo_105p⟩, List.forall_mem_cons.mpr ⟨⟨fF_Mo_108, fun _ => Or.inl fF_Mo_108p⟩, List.forall_mem_cons.mpr ⟨⟨fF_Mo_111, fun _ => Or.inl fF_Mo_111p⟩, List.forall_mem_cons.mpr ⟨⟨fF_Mo_114, fun _ => Or.inl fF_Mo_114p⟩, List.forall_mem_cons.mpr ⟨⟨fF_Mo_117, fun _ => Or.inl fF_Mo_117p⟩, List.forall_mem_cons.mpr ⟨⟨fF_Mo_120, fun _ => Or.inl fF_Mo_120p⟩, List.forall_mem_cons.mpr ⟨⟨fF_Mo_124, fun _ => Or.inl fF_Mo_124p⟩, List.forall_mem_cons.mpr ⟨⟨fF_Mo_127, fun _ => Or.inl fF_Mo_127p⟩, List.forall_mem_cons.mpr ⟨⟨fF_Mo_130, fun _ => Or.inl fF_Mo_130p⟩, List.forall_mem_cons.mpr ⟨⟨fF_Mo_133, fun _ => Or.inl fF_Mo_133p⟩, List.forall_mem_cons.mpr ⟨⟨fF_Mo_136, fun _ => Or.inl fF_Mo_136p⟩, List.forall_mem_cons.mpr ⟨⟨fF_Mo_139, fun _ => Or.inl fF_Mo_139p⟩, List.forall_mem_cons.mpr ⟨⟨fF_Mo_142, fun _ => Or.inl fF_Mo_142p⟩, List.forall_mem_cons.mpr ⟨⟨fF_Mo_145, fun _ => Or.inl fF_Mo_145p⟩, List.forall_mem_cons.mpr ⟨⟨fF_Mo_148, fun _ => Or.inl fF_Mo_148p⟩, List.forall_mem_cons.mpr ⟨⟨fF_Mo_151, fun _ => Or.inl fF_Mo_151p⟩, List.forall_mem_cons.mpr ⟨⟨fF_Mo_154, fun _ => Or.inl fF_Mo_154p⟩, List.forall_mem_cons.mpr ⟨⟨fF_Mo_158, fun _ => Or.inl fF_Mo_158p⟩, List.forall_mem_cons.mpr ⟨⟨fF_Mo_161, fun _ => Or.inl fF_Mo_161p⟩, List.forall_mem_cons.mpr ⟨⟨fF_Mo_164, fun _ => Or.inl fF_Mo_164p⟩, List.forall_mem_cons.mpr ⟨⟨fF_Mo_167, fun _ => Or.inl fF_Mo_167p⟩, List.forall_mem_cons.mpr ⟨⟨fF_Mo_170, fun _ => Or.inl fF_Mo_170p⟩, List.forall_mem_cons.mpr ⟨⟨fF_Mo_173, fun _ => Or.inl fF_Mo_173p⟩, List.forall_mem_cons.mpr ⟨⟨fF_Mo_176, fun _ => Or.inl fF_Mo_176p⟩, List.forall_mem_cons.mpr ⟨⟨fF_Mo_179, fun _ => Or.inl fF_Mo_179p⟩, List.forall_mem_cons.mpr ⟨⟨fF_Mo_182, fun _ => Or.inl fF_Mo_182p⟩, List.forall_mem_cons.mpr ⟨⟨fF_Mo_185, fun _ => Or.inl fF_Mo_185p⟩, List.forall_mem_cons.mpr ⟨⟨fF_Mo_188, fun _ => Or.inl fF_Mo_188p⟩, List.forall_mem_cons.mpr ⟨⟨fF_Mo_191, fun _ => Or.inl fF_Mo_191p⟩, List.forall_mem_cons.mpr ⟨⟨fF_Mo_194, fun _ => Or.inl fF_Mo_194p⟩, List.forall_mem_cons.mpr ⟨⟨fF_Mo_197, fun _ => Or.inl fF_Mo_197p⟩, List.forall_mem_cons.mpr ⟨⟨fF_Mo_200, fun _ => Or.inl fF_Mo_200p⟩, List.forall_mem_cons.mpr ⟨⟨fF_Mo_203, fun _ => Or.inl fF_Mo_203p⟩, List.forall_mem_cons.mpr ⟨⟨fF_Mo_206, fun _ => Or.inl fF_Mo_206p⟩, List.forall_mem_cons.mpr ⟨⟨fF_Mo_210, fun _ => Or.inl fF_Mo_210p⟩, List.forall_mem_cons.mpr ⟨⟨fF_Mo_213, fun _ => Or.inl fF_Mo_213p⟩, List.forall_mem_cons.mpr ⟨⟨fF_Mo_216, fun _ => Or.inl fF_Mo_216p⟩, List.forall_mem_cons.mpr ⟨⟨fF_Mo_219, fun _ => Or.inl fF_Mo_219p⟩, List.forall_mem_cons.mpr ⟨⟨fF_Mo_222, fun _ => Or.inl fF_Mo_222p⟩, List.forall_mem_cons.mpr ⟨⟨fF_Mo_225, fun _ => Or.inl fF_Mo_225p⟩, List.forall_mem_cons.mpr ⟨⟨fF_Mo_228, fun _ => Or.inl fF_Mo_228p⟩, List.forall_mem_cons.mpr ⟨⟨fF_Mo_231, fun _ => Or.inl fF_Mo_231p⟩, List.forall_mem_cons.mpr ⟨⟨fF_Mo_234, fun _ => Or.inl fF_Mo_234p⟩, List.forall_mem_cons.mpr ⟨⟨fF_Mo_237, fun _ => Or.inl fF_Mo_237p⟩, List.forall_mem_cons.mpr ⟨⟨fF_Mo_240, fun _ => Or.inl fF_Mo_240p⟩, List.forall_mem_cons.mpr ⟨⟨fF_Mo_243, fun _ => Or.inl fF_Mo_243p⟩, List.forall_mem_cons.mpr ⟨⟨fF_Mo_247, fun _ => Or.inl fF_Mo_247p⟩, List.forall_mem_cons.mpr ⟨⟨fF_Mo_250, fun _ => Or.inl fF_Mo_250p⟩, List.forall_mem_cons.mpr ⟨⟨fF_Mo_253, fun _ => Or.inl fF_Mo_253p⟩, List.forall_mem_cons.mpr ⟨⟨fF_Mo_256, fun _ => Or.inl fF_Mo_256p⟩, List.forall_mem_cons.mpr ⟨⟨fF_Mo_259, fun _ => Or.inl fF_Mo_259p⟩, List.forall_mem_cons.mpr ⟨⟨fF_Mo_262, fun _ => Or.inl fF_Mo_262p⟩, List.forall_mem_cons.mpr ⟨⟨fF_Mo_265, fun _ => Or.inl fF_Mo_265p⟩, List.forall_mem_cons.mpr ⟨⟨fF_Mo_268, fun _ => Or.inl fF_Mo_268p⟩, List.forall_mem_cons.mpr ⟨⟨fF_Mo_271, fun _ => Or.inl fF_Mo_271p⟩, List.forall_mem_cons.mpr ⟨⟨fF_Mo_274, fun _ => Or.inl fF_Mo_274p⟩, List.forall_mem_cons.mpr ⟨⟨fF_Mo_277, fun _ => Or.inl fF_Mo_277p⟩, List.forall_mem_cons.mpr ⟨⟨fF_Mo_281, fun _ => Or.inl fF_Mo_281p⟩, List.forall_mem_cons.mpr ⟨⟨fF_Mo_284, fun _ => Or.inl fF_Mo_284p⟩, List.forall_mem_cons.mpr ⟨⟨fF_Mo_287, fun _ => Or.inl fF_Mo_287p⟩, List.forall_mem_cons.mpr ⟨⟨fF_Mo_290, fun _ => Or.inl fF_Mo_290p⟩, List.forall_mem_cons.mpr ⟨⟨fF_Mo_293, fun _ => Or.inl fF_Mo_293p⟩, List.forall_mem_cons.mpr ⟨⟨fF_Mo_296, fun _ => Or.inl fF_Mo_296p⟩, List.forall_mem_cons.mpr ⟨⟨fF_Mo_299, fun _ => Or.inl fF_Mo_299p⟩, List.forall_mem_cons.mpr ⟨⟨fF_Mo_303, fun _ => Or.inl fF_Mo_303p⟩, List.forall_mem_cons.mpr ⟨⟨fF_Mo_306, fun _ => Or.inl fF_Mo_306p⟩, List.forall_mem_cons.mpr ⟨⟨fF_Mo_310, fun h => Bool.noConfusion h⟩, List.forall_mem_cons.mpr ⟨⟨fF_Mo_313, fun h => Bool.noConfusion h⟩, List.forall_mem_nil _⟩⟩⟩⟩⟩⟩⟩⟩⟩⟩⟩⟩⟩⟩⟩⟩⟩⟩⟩⟩⟩⟩⟩⟩⟩⟩⟩⟩⟩⟩⟩⟩⟩⟩⟩⟩⟩⟩⟩⟩⟩⟩⟩⟩⟩⟩⟩⟩⟩⟩⟩⟩⟩⟩⟩⟩⟩⟩⟩⟩⟩⟩⟩⟩⟩⟩⟩⟩⟩⟩⟩⟩⟩⟩⟩⟩⟩⟩⟩⟩⟩⟩⟩⟩⟩⟩⟩⟩⟩⟩⟩⟩⟩⟩⟩⟩⟩⟩⟩, List.forall_mem_nil _, List.forall_mem_cons.mpr ⟨tt_7 _ (List.mem_of_getElem? (i := 70) rfl) rfl, List.forall_mem_cons.mpr ⟨tt_7 _ (List.mem_of_getElem? (i := 71) rfl) rfl, List.forall_mem_cons.mpr ⟨tt_7 _ (List.mem_of_getElem? (i := 72) rfl) rfl, List.forall_mem_cons.mpr ⟨tt_7 _ (List.mem_of_getElem? (i := 73) rfl) rfl, List.forall_mem_cons.mpr ⟨tt_7 _ (List.mem_of_getElem? (i := 74) rfl) rfl, List.forall_mem_nil _⟩⟩⟩⟩⟩, List.forall_mem_nil _, fA4⟩
end
section
theorem cl_spec {a b p v : Int32} (hab : a ≤ b) (e : ip_max a (ip_min b p) = v) : (¬ a ≤ p → a = v) ∧ (¬ p ≤ b → b = v) ∧ (a ≤ p → p ≤ b → p = v) := by
  have i1 : a.toInt ≤ b.toInt := Int32.le_iff_toInt_le.mp hab
  subst e
  unfold ip_max ip_min
  simp only [Int32.le_iff_toInt_le, Int32.lt_iff_toInt_lt]
  refine ⟨fun h => ?_, fun h => ?_, fun h1 h2 => ?_⟩ <;> (repeat' split) <;> first | rfl | (apply Int32.toInt_inj.mp; omega) | (exfalso; omega)
set_option maxRecDepth 100000 in
theorem mo_n {l : Launch} {Gr} {d a : Nat} {p0 p1 v : Int32} {st : List Value} {h : ip_H} {r : Option Value × ip_H} (e : ip_max 2 (ip_min 16 p0) = v) (k : ip_Rn l (lg_tbl, vwCl, Gr) M_Mo_init d 837 [some (.ref a), some (.int p0), some (.int p1)] (.int v :: st) h r) : ip_Rn l (lg_tbl, vwCl, Gr) M_Mo_init d 816 [some (.ref a), some (.int p0), some (.int p1)] st h r := by
  obtain ⟨c1, c2, c3⟩ := cl_spec (by decide) e
  refine ip_go (G := (lg_tbl, vwCl, Gr)) (ini := true) oV_Mo_init (fun _ => rfl) 2 (pc' := 818) (L' := [some (.ref a), some (.int p0), some (.int p1)]) (st' := .int 2 :: .int p0 :: st) (h' := h) rfl ?_
  by_cases q1 : 2 ≤ p0
  · refine ip_icmp_ge_t (G := (lg_tbl, vwCl, Gr)) (tgt := 825) (oV_Mo_init.1 (818, .if_icmp .ge 7) (ip_lk_mem rfl)) (by decide) q1 ?_
    refine ip_go (G := (lg_tbl, vwCl, Gr)) (ini := true) oV_Mo_init (fun _ => rfl) 2 (pc' := 828) (L' := [some (.ref a), some (.int p0), some (.int p1)]) (st' := .int 16 :: .int p0 :: st) (h' := h) rfl ?_
    by_cases q2 : p0 ≤ 16
    · refine ip_icmp_le_t (G := (lg_tbl, vwCl, Gr)) (tgt := 836) (oV_Mo_init.1 (828, .if_icmp .le 8) (ip_lk_mem rfl)) (by decide) q2 ?_
      refine ip_go (G := (lg_tbl, vwCl, Gr)) (ini := true) oV_Mo_init (fun _ => rfl) 1 (pc' := 837) (L' := [some (.ref a), some (.int p0), some (.int p1)]) (st' := .int p0 :: st) (h' := h) rfl ?_
      rw [← c3 q1 q2] at k
      exact k
    · refine ip_icmp_le_f (G := (lg_tbl, vwCl, Gr)) (tgt := 836) (oV_Mo_init.1 (828, .if_icmp .le 8) (ip_lk_mem rfl)) (by decide) q2 ?_
      refine ip_go (G := (lg_tbl, vwCl, Gr)) (ini := true) oV_Mo_init (fun _ => rfl) 2 (pc' := 837) (L' := [some (.ref a), some (.int p0), some (.int p1)]) (st' := .int 16 :: st) (h' := h) rfl ?_
      rw [c2 q2]
      exact k
  · refine ip_icmp_ge_f (G := (lg_tbl, vwCl, Gr)) (tgt := 825) (oV_Mo_init.1 (818, .if_icmp .ge 7) (ip_lk_mem rfl)) (by decide) q1 ?_
    refine ip_go (G := (lg_tbl, vwCl, Gr)) (ini := true) oV_Mo_init (fun _ => rfl) 2 (pc' := 837) (L' := [some (.ref a), some (.int p0), some (.int p1)]) (st' := .int 2 :: st) (h' := h) rfl ?_
    rw [c1 q1]
    exact k
set_option maxRecDepth 100000 in
theorem mo_w {l : Launch} {Gr} {d a : Nat} {p0 p1 v : Int32} {st : List Value} {h : ip_H} {r : Option Value × ip_H} (e : ip_max 1 (ip_min 32 p1) = v) (k : ip_Rn l (lg_tbl, vwCl, Gr) M_Mo_init d 862 [some (.ref a), some (.int p0), some (.int p1)] (.int v :: st) h r) : ip_Rn l (lg_tbl, vwCl, Gr) M_Mo_init d 841 [some (.ref a), some (.int p0), some (.int p1)] st h r := by
  obtain ⟨c1, c2, c3⟩ := cl_spec (by decide) e
  refine ip_go (G := (lg_tbl, vwCl, Gr)) (ini := true) oV_Mo_init (fun _ => rfl) 2 (pc' := 843) (L' := [some (.ref a), some (.int p0), some (.int p1)]) (st' := .int 1 :: .int p1 :: st) (h' := h) rfl ?_
  by_cases q1 : 1 ≤ p1
  · refine ip_icmp_ge_t (G := (lg_tbl, vwCl, Gr)) (tgt := 850) (oV_Mo_init.1 (843, .if_icmp .ge 7) (ip_lk_mem rfl)) (by decide) q1 ?_
    refine ip_go (G := (lg_tbl, vwCl, Gr)) (ini := true) oV_Mo_init (fun _ => rfl) 2 (pc' := 853) (L' := [some (.ref a), some (.int p0), some (.int p1)]) (st' := .int 32 :: .int p1 :: st) (h' := h) rfl ?_
    by_cases q2 : p1 ≤ 32
    · refine ip_icmp_le_t (G := (lg_tbl, vwCl, Gr)) (tgt := 861) (oV_Mo_init.1 (853, .if_icmp .le 8) (ip_lk_mem rfl)) (by decide) q2 ?_
      refine ip_go (G := (lg_tbl, vwCl, Gr)) (ini := true) oV_Mo_init (fun _ => rfl) 1 (pc' := 862) (L' := [some (.ref a), some (.int p0), some (.int p1)]) (st' := .int p1 :: st) (h' := h) rfl ?_
      rw [← c3 q1 q2] at k
      exact k
    · refine ip_icmp_le_f (G := (lg_tbl, vwCl, Gr)) (tgt := 861) (oV_Mo_init.1 (853, .if_icmp .le 8) (ip_lk_mem rfl)) (by decide) q2 ?_
      refine ip_go (G := (lg_tbl, vwCl, Gr)) (ini := true) oV_Mo_init (fun _ => rfl) 2 (pc' := 862) (L' := [some (.ref a), some (.int p0), some (.int p1)]) (st' := .int 32 :: st) (h' := h) rfl ?_
      rw [c2 q2]
      exact k
  · refine ip_icmp_ge_f (G := (lg_tbl, vwCl, Gr)) (tgt := 850) (oV_Mo_init.1 (843, .if_icmp .ge 7) (ip_lk_mem rfl)) (by decide) q1 ?_
    refine ip_go (G := (lg_tbl, vwCl, Gr)) (ini := true) oV_Mo_init (fun _ => rfl) 2 (pc' := 862) (L' := [some (.ref a), some (.int p0), some (.int p1)]) (st' := .int 1 :: st) (h' := h) rfl ?_
    rw [c1 q1]
    exact k
end
section
def M_H_feed : ip_M := (⟨"ShareHouse", "feed", "(IIIII)V"⟩, prog_1_method_2_code, 6, none)
theorem oM_H_feed : ip_okM lg_tbl M_H_feed := ⟨by decide +kernel, ⟨by decide +kernel, by decide +kernel⟩, by decide, tt_3 _ (List.mem_of_getElem? (i := 135) rfl) rfl, tt_1 _ (List.mem_of_getElem? (i := 1) rfl) rfl⟩
def M_H_end : ip_M := (⟨"ShareHouse", "end", "(I)I"⟩, prog_1_method_3_code, 3, (some .int))
theorem oM_H_end : ip_okM lg_tbl M_H_end := ⟨by decide +kernel, ⟨by decide +kernel, by decide +kernel⟩, by decide, tt_3 _ (List.mem_of_getElem? (i := 143) rfl) rfl, tt_1 _ (List.mem_of_getElem? (i := 1) rfl) rfl⟩
def M_H_compile : ip_M := (⟨"ShareHouse", "compile", "()I"⟩, prog_1_method_4_code, 1, (some .int))
theorem oM_H_compile : ip_okM lg_tbl M_H_compile := ⟨by decide +kernel, ⟨by decide +kernel, by decide +kernel⟩, by decide, tt_3 _ (List.mem_of_getElem? (i := 156) rfl) rfl, tt_1 _ (List.mem_of_getElem? (i := 1) rfl) rfl⟩
def M_H_look : ip_M := (⟨"ShareHouse", "look", "(I)I"⟩, prog_1_method_5_code, 2, (some .int))
theorem oM_H_look : ip_okM lg_tbl M_H_look := ⟨by decide +kernel, ⟨by decide +kernel, by decide +kernel⟩, by decide, tt_6 _ (List.mem_of_getElem? (i := 53) rfl) rfl, tt_1 _ (List.mem_of_getElem? (i := 1) rfl) rfl⟩
def M_H_gate : ip_M := (⟨"ShareHouse", "gate", "(II)I"⟩, prog_1_method_6_code, 3, (some .int))
theorem oM_H_gate : ip_okM lg_tbl M_H_gate := ⟨by decide +kernel, ⟨by decide +kernel, by decide +kernel⟩, by decide, tt_6 _ (List.mem_of_getElem? (i := 61) rfl) rfl, tt_1 _ (List.mem_of_getElem? (i := 1) rfl) rfl⟩
def M_H_literal : ip_M := (⟨"ShareHouse", "literal", "(II)I"⟩, prog_1_method_7_code, 3, (some .int))
theorem oM_H_literal : ip_okM lg_tbl M_H_literal := ⟨by decide +kernel, ⟨by decide +kernel, by decide +kernel⟩, by decide, tt_6 _ (List.mem_of_getElem? (i := 65) rfl) rfl, tt_1 _ (List.mem_of_getElem? (i := 1) rfl) rfl⟩
def M_H_input : ip_M := (⟨"ShareHouse", "input", "(II)J"⟩, prog_1_method_8_code, 3, (some .long))
theorem oM_H_input : ip_okM lg_tbl M_H_input := ⟨by decide +kernel, ⟨by decide +kernel, by decide +kernel⟩, by decide, tt_6 _ (List.mem_of_getElem? (i := 81) rfl) rfl, tt_1 _ (List.mem_of_getElem? (i := 1) rfl) rfl⟩
def M_H_give : ip_M := (⟨"ShareHouse", "give", "(II)Z"⟩, prog_1_method_9_code, 3, (some .boolean))
theorem oM_H_give : ip_okM lg_tbl M_H_give := ⟨by decide +kernel, ⟨by decide +kernel, by decide +kernel⟩, by decide, tt_6 _ (List.mem_of_getElem? (i := 87) rfl) rfl, tt_1 _ (List.mem_of_getElem? (i := 1) rfl) rfl⟩
def M_H_seed : ip_M := (⟨"ShareHouse", "seed", "(I)V"⟩, prog_1_method_10_code, 2, none)
theorem oM_H_seed : ip_okM lg_tbl M_H_seed := ⟨by decide +kernel, ⟨by decide +kernel, by decide +kernel⟩, by decide, tt_6 _ (List.mem_of_getElem? (i := 91) rfl) rfl, tt_1 _ (List.mem_of_getElem? (i := 1) rfl) rfl⟩
def M_H_draws : ip_M := (⟨"ShareHouse", "draws", "(JI)I"⟩, prog_1_method_11_code, 4, (some .int))
theorem oM_H_draws : ip_okM lg_tbl M_H_draws := ⟨by decide +kernel, ⟨by decide +kernel, by decide +kernel⟩, by decide, tt_6 _ (List.mem_of_getElem? (i := 95) rfl) rfl, tt_1 _ (List.mem_of_getElem? (i := 1) rfl) rfl⟩
def M_H_deal : ip_M := (⟨"ShareHouse", "deal", "()Z"⟩, prog_1_method_12_code, 1, (some .boolean))
theorem oM_H_deal : ip_okM lg_tbl M_H_deal := ⟨by decide +kernel, ⟨by decide +kernel, by decide +kernel⟩, by decide, tt_6 _ (List.mem_of_getElem? (i := 103) rfl) rfl, tt_1 _ (List.mem_of_getElem? (i := 1) rfl) rfl⟩
def M_H_message : ip_M := (⟨"ShareHouse", "message", "(II)I"⟩, prog_1_method_13_code, 4, (some .int))
theorem oM_H_message : ip_okM lg_tbl M_H_message := ⟨by decide +kernel, ⟨by decide +kernel, by decide +kernel⟩, by decide, tt_6 _ (List.mem_of_getElem? (i := 171) rfl) rfl, tt_1 _ (List.mem_of_getElem? (i := 1) rfl) rfl⟩
def M_H_deliver : ip_M := (⟨"ShareHouse", "deliver", "(I)I"⟩, prog_1_method_14_code, 2, (some .int))
theorem oM_H_deliver : ip_okM lg_tbl M_H_deliver := ⟨by decide +kernel, ⟨by decide +kernel, by decide +kernel⟩, by decide, tt_6 _ (List.mem_of_getElem? (i := 224) rfl) rfl, tt_1 _ (List.mem_of_getElem? (i := 1) rfl) rfl⟩
def M_H_rush : ip_M := (⟨"ShareHouse", "rush", "(II)I"⟩, prog_1_method_15_code, 4, (some .int))
theorem oM_H_rush : ip_okM lg_tbl M_H_rush := ⟨by decide +kernel, ⟨by decide +kernel, by decide +kernel⟩, by decide, tt_7 _ (List.mem_of_getElem? (i := 2) rfl) rfl, tt_1 _ (List.mem_of_getElem? (i := 1) rfl) rfl⟩
def M_H_party : ip_M := (⟨"ShareHouse", "party", "(II)I"⟩, prog_1_method_16_code, 3, (some .int))
theorem oM_H_party : ip_okM lg_tbl M_H_party := ⟨by decide +kernel, ⟨by decide +kernel, by decide +kernel⟩, by decide, tt_7 _ (List.mem_of_getElem? (i := 7) rfl) rfl, tt_1 _ (List.mem_of_getElem? (i := 1) rfl) rfl⟩
def M_H_dealt : ip_M := (⟨"ShareHouse", "dealt", "(III)I"⟩, prog_1_method_17_code, 4, (some .int))
theorem oM_H_dealt : ip_okM lg_tbl M_H_dealt := ⟨by decide +kernel, ⟨by decide +kernel, by decide +kernel⟩, by decide, tt_7 _ (List.mem_of_getElem? (i := 19) rfl) rfl, tt_1 _ (List.mem_of_getElem? (i := 1) rfl) rfl⟩
def M_H_share : ip_M := (⟨"ShareHouse", "share", "(II)I"⟩, prog_1_method_18_code, 3, (some .int))
theorem oM_H_share : ip_okM lg_tbl M_H_share := ⟨by decide +kernel, ⟨by decide +kernel, by decide +kernel⟩, by decide, tt_7 _ (List.mem_of_getElem? (i := 24) rfl) rfl, tt_1 _ (List.mem_of_getElem? (i := 1) rfl) rfl⟩
def M_H_view : ip_M := (⟨"ShareHouse", "view", "(II)I"⟩, prog_1_method_19_code, 3, (some .int))
theorem oM_H_view : ip_okM lg_tbl M_H_view := ⟨by decide +kernel, ⟨by decide +kernel, by decide +kernel⟩, by decide, tt_7 _ (List.mem_of_getElem? (i := 29) rfl) rfl, tt_1 _ (List.mem_of_getElem? (i := 1) rfl) rfl⟩
def M_H_told : ip_M := (⟨"ShareHouse", "told", "(II)J"⟩, prog_1_method_20_code, 6, (some .long))
theorem oM_H_told : ip_okM lg_tbl M_H_told := ⟨by decide +kernel, ⟨by decide +kernel, by decide +kernel⟩, by decide, tt_7 _ (List.mem_of_getElem? (i := 43) rfl) rfl, tt_1 _ (List.mem_of_getElem? (i := 1) rfl) rfl⟩
def M_H_truth : ip_M := (⟨"ShareHouse", "truth", "(I)J"⟩, prog_1_method_21_code, 5, (some .long))
theorem oM_H_truth : ip_okM lg_tbl M_H_truth := ⟨by decide +kernel, ⟨by decide +kernel, by decide +kernel⟩, by decide, tt_7 _ (List.mem_of_getElem? (i := 50) rfl) rfl, tt_1 _ (List.mem_of_getElem? (i := 1) rfl) rfl⟩
def M_Mo_feed : ip_M := (⟨"ShareHouseModel", "feed", "(IIIII)V"⟩, prog_14_method_3_code, 6, none)
theorem oM_Mo_feed : ip_okM lg_tbl M_Mo_feed := ⟨by decide +kernel, ⟨by decide +kernel, by decide +kernel⟩, by decide, tt_9 _ (List.mem_of_getElem? (i := 38) rfl) rfl, tt_1 _ (List.mem_of_getElem? (i := 14) rfl) rfl⟩
def M_Mo_end : ip_M := (⟨"ShareHouseModel", "end", "(I)I"⟩, prog_14_method_4_code, 3, (some .int))
theorem oM_Mo_end : ip_okM lg_tbl M_Mo_end := ⟨by decide +kernel, ⟨by decide +kernel, by decide +kernel⟩, by decide, tt_9 _ (List.mem_of_getElem? (i := 46) rfl) rfl, tt_1 _ (List.mem_of_getElem? (i := 14) rfl) rfl⟩
def M_Mo_compile : ip_M := (⟨"ShareHouseModel", "compile", "()I"⟩, prog_14_method_114_code, 2, (some .int))
theorem oM_Mo_compile : ip_okM lg_tbl M_Mo_compile := ⟨by decide +kernel, ⟨by decide +kernel, by decide +kernel⟩, by decide, tt_9 _ (List.mem_of_getElem? (i := 50) rfl) rfl, tt_1 _ (List.mem_of_getElem? (i := 14) rfl) rfl⟩
def M_Mo_look : ip_M := (⟨"ShareHouseModel", "look", "(I)I"⟩, prog_14_method_116_code, 2, (some .int))
theorem oM_Mo_look : ip_okM lg_tbl M_Mo_look := ⟨by decide +kernel, ⟨by decide +kernel, by decide +kernel⟩, by decide, tt_10 _ (List.mem_of_getElem? (i := 210) rfl) rfl, tt_1 _ (List.mem_of_getElem? (i := 14) rfl) rfl⟩
def M_Mo_gate : ip_M := (⟨"ShareHouseModel", "gate", "(II)I"⟩, prog_14_method_117_code, 3, (some .int))
theorem oM_Mo_gate : ip_okM lg_tbl M_Mo_gate := ⟨by decide +kernel, ⟨by decide +kernel, by decide +kernel⟩, by decide, tt_10 _ (List.mem_of_getElem? (i := 218) rfl) rfl, tt_1 _ (List.mem_of_getElem? (i := 14) rfl) rfl⟩
def M_Mo_literal : ip_M := (⟨"ShareHouseModel", "literal", "(II)I"⟩, prog_14_method_118_code, 3, (some .int))
theorem oM_Mo_literal : ip_okM lg_tbl M_Mo_literal := ⟨by decide +kernel, ⟨by decide +kernel, by decide +kernel⟩, by decide, tt_10 _ (List.mem_of_getElem? (i := 222) rfl) rfl, tt_1 _ (List.mem_of_getElem? (i := 14) rfl) rfl⟩
def M_Mo_input : ip_M := (⟨"ShareHouseModel", "input", "(II)J"⟩, prog_14_method_119_code, 3, (some .long))
theorem oM_Mo_input : ip_okM lg_tbl M_Mo_input := ⟨by decide +kernel, ⟨by decide +kernel, by decide +kernel⟩, by decide, tt_10 _ (List.mem_of_getElem? (i := 226) rfl) rfl, tt_1 _ (List.mem_of_getElem? (i := 14) rfl) rfl⟩
def M_Mo_give : ip_M := (⟨"ShareHouseModel", "give", "(II)Z"⟩, prog_14_method_120_code, 3, (some .boolean))
theorem oM_Mo_give : ip_okM lg_tbl M_Mo_give := ⟨by decide +kernel, ⟨by decide +kernel, by decide +kernel⟩, by decide, tt_10 _ (List.mem_of_getElem? (i := 231) rfl) rfl, tt_1 _ (List.mem_of_getElem? (i := 14) rfl) rfl⟩
def M_Mo_seed : ip_M := (⟨"ShareHouseModel", "seed", "(I)V"⟩, prog_14_method_121_code, 2, none)
theorem oM_Mo_seed : ip_okM lg_tbl M_Mo_seed := ⟨by decide +kernel, ⟨by decide +kernel, by decide +kernel⟩, by decide, tt_10 _ (List.mem_of_getElem? (i := 235) rfl) rfl, tt_1 _ (List.mem_of_getElem? (i := 14) rfl) rfl⟩
def M_Mo_draws : ip_M := (⟨"ShareHouseModel", "draws", "(JI)I"⟩, prog_14_method_122_code, 5, (some .int))
theorem oM_Mo_draws : ip_okM lg_tbl M_Mo_draws := ⟨by decide +kernel, ⟨by decide +kernel, by decide +kernel⟩, by decide, tt_10 _ (List.mem_of_getElem? (i := 239) rfl) rfl, tt_1 _ (List.mem_of_getElem? (i := 14) rfl) rfl⟩
def M_Mo_deal : ip_M := (⟨"ShareHouseModel", "deal", "()Z"⟩, prog_14_method_123_code, 2, (some .boolean))
theorem oM_Mo_deal : ip_okM lg_tbl M_Mo_deal := ⟨by decide +kernel, ⟨by decide +kernel, by decide +kernel⟩, by decide, tt_11 _ (List.mem_of_getElem? (i := 3) rfl) rfl, tt_1 _ (List.mem_of_getElem? (i := 14) rfl) rfl⟩
def M_Mo_message : ip_M := (⟨"ShareHouseModel", "message", "(II)I"⟩, prog_14_method_124_code, 4, (some .int))
theorem oM_Mo_message : ip_okM lg_tbl M_Mo_message := ⟨by decide +kernel, ⟨by decide +kernel, by decide +kernel⟩, by decide, tt_11 _ (List.mem_of_getElem? (i := 28) rfl) rfl, tt_1 _ (List.mem_of_getElem? (i := 14) rfl) rfl⟩
def M_Mo_deliver : ip_M := (⟨"ShareHouseModel", "deliver", "(I)I"⟩, prog_14_method_125_code, 2, (some .int))
theorem oM_Mo_deliver : ip_okM lg_tbl M_Mo_deliver := ⟨by decide +kernel, ⟨by decide +kernel, by decide +kernel⟩, by decide, tt_11 _ (List.mem_of_getElem? (i := 40) rfl) rfl, tt_1 _ (List.mem_of_getElem? (i := 14) rfl) rfl⟩
def M_Mo_rush : ip_M := (⟨"ShareHouseModel", "rush", "(II)I"⟩, prog_14_method_126_code, 5, (some .int))
theorem oM_Mo_rush : ip_okM lg_tbl M_Mo_rush := ⟨by decide +kernel, ⟨by decide +kernel, by decide +kernel⟩, by decide, tt_11 _ (List.mem_of_getElem? (i := 48) rfl) rfl, tt_1 _ (List.mem_of_getElem? (i := 14) rfl) rfl⟩
def M_Mo_party : ip_M := (⟨"ShareHouseModel", "party", "(II)I"⟩, prog_14_method_128_code, 3, (some .int))
theorem oM_Mo_party : ip_okM lg_tbl M_Mo_party := ⟨by decide +kernel, ⟨by decide +kernel, by decide +kernel⟩, by decide, tt_11 _ (List.mem_of_getElem? (i := 52) rfl) rfl, tt_1 _ (List.mem_of_getElem? (i := 14) rfl) rfl⟩
def M_Mo_dealt : ip_M := (⟨"ShareHouseModel", "dealt", "(III)I"⟩, prog_14_method_129_code, 4, (some .int))
theorem oM_Mo_dealt : ip_okM lg_tbl M_Mo_dealt := ⟨by decide +kernel, ⟨by decide +kernel, by decide +kernel⟩, by decide, tt_11 _ (List.mem_of_getElem? (i := 60) rfl) rfl, tt_1 _ (List.mem_of_getElem? (i := 14) rfl) rfl⟩
def M_Mo_share : ip_M := (⟨"ShareHouseModel", "share", "(II)I"⟩, prog_14_method_130_code, 4, (some .int))
theorem oM_Mo_share : ip_okM lg_tbl M_Mo_share := ⟨by decide +kernel, ⟨by decide +kernel, by decide +kernel⟩, by decide, tt_11 _ (List.mem_of_getElem? (i := 64) rfl) rfl, tt_1 _ (List.mem_of_getElem? (i := 14) rfl) rfl⟩
def M_Mo_view : ip_M := (⟨"ShareHouseModel", "view", "(II)I"⟩, prog_14_method_131_code, 9, (some .int))
theorem oM_Mo_view : ip_okM lg_tbl M_Mo_view := ⟨by decide +kernel, ⟨by decide +kernel, by decide +kernel⟩, by decide, tt_11 _ (List.mem_of_getElem? (i := 68) rfl) rfl, tt_1 _ (List.mem_of_getElem? (i := 14) rfl) rfl⟩
def M_Mo_told : ip_M := (⟨"ShareHouseModel", "told", "(II)J"⟩, prog_14_method_132_code, 6, (some .long))
theorem oM_Mo_told : ip_okM lg_tbl M_Mo_told := ⟨by decide +kernel, ⟨by decide +kernel, by decide +kernel⟩, by decide, tt_11 _ (List.mem_of_getElem? (i := 72) rfl) rfl, tt_1 _ (List.mem_of_getElem? (i := 14) rfl) rfl⟩
def M_Mo_truth : ip_M := (⟨"ShareHouseModel", "truth", "(I)J"⟩, prog_14_method_133_code, 2, (some .long))
theorem oM_Mo_truth : ip_okM lg_tbl M_Mo_truth := ⟨by decide +kernel, ⟨by decide +kernel, by decide +kernel⟩, by decide, tt_11 _ (List.mem_of_getElem? (i := 76) rfl) rfl, tt_1 _ (List.mem_of_getElem? (i := 14) rfl) rfl⟩
def M_La_cell : ip_M := (⟨"ShareHouseLaw", "cell", "([II)I"⟩, method_2_code, 2, (some .int))
theorem oM_La_cell : ip_okM lg_tbl M_La_cell := ⟨by decide +kernel, ⟨by decide +kernel, by decide +kernel⟩, by decide, tt_7 _ (List.mem_of_getElem? (i := 63) rfl) rfl, tt_1 _ (List.mem_of_getElem? (i := 0) rfl) rfl⟩
def V_La_cell : ip_V := ([(0, .iload_n 1), (1, .aload_n 0), (2, .arraylength), (3, .if_icmp .ge 9), (6, .aload_n 0), (7, .iload_n 1), (8, .iaload), (9, .goto 4), (12, .iconst 0), (13, .ireturn)], [], [], [], [])
set_option maxRecDepth 100000 in
theorem oV_La_cell : ip_okV lg_tbl vwCl M_La_cell V_La_cell := ⟨by decide +kernel, List.forall_mem_nil _, List.forall_mem_nil _, List.forall_mem_nil _, List.forall_mem_nil _, fA4⟩
def M_La_law : ip_M := (⟨"ShareHouseLaw", "law", "([I)Z"⟩, code, 4, (some .boolean))
def V_La_law : ip_V := ([(0, .new 7), (3, .dup), (4, .aload_n 0), (5, .iconst 0), (6, .invokestatic 9), (9, .aload_n 0), (10, .iconst 1), (11, .invokestatic 9), (14, .invokespecial 15), (17, .astore_n 1), (18, .new 18), (21, .dup), (22, .aload_n 0), (23, .iconst 0), (24, .invokestatic 9), (27, .aload_n 0), (28, .iconst 1), (29, .invokestatic 9), (32, .invokespecial 20), (35, .astore_n 2), (36, .iconst 2), (37, .istore_n 3), (38, .iload_n 3), (39, .aload_n 0), (40, .arraylength), (41, .bipush 6), (43, .isub), (44, .if_icmp .gt 749), (47, .aload_n 0), (48, .iload_n 3), (49, .iaload), (50, .bipush 31), (52, .iand), (53, .tableswitch 734 0 19 #[95, 156, 179, 192, 215, 248, 281, 315, 348, 369, 432, 445, 478, 501, 534, 567, 610, 643, 676, 710]), (148, .aload_n 1), (149, .aload_n 0), (150, .iload_n 3), (151, .iconst 1), (152, .iadd), (153, .iaload), (154, .aload_n 0), (155, .iload_n 3), (156, .iconst 2), (157, .iadd), (158, .iaload), (159, .aload_n 0), (160, .iload_n 3), (161, .iconst 3), (162, .iadd), (163, .iaload), (164, .aload_n 0), (165, .iload_n 3), (166, .iconst 4), (167, .iadd), (168, .iaload), (169, .aload_n 0), (170, .iload_n 3), (171, .iconst 5), (172, .iadd), (173, .iaload), (174, .invokevirtual 21), (177, .aload_n 2), (178, .aload_n 0), (179, .iload_n 3), (180, .iconst 1), (181, .iadd), (182, .iaload), (183, .aload_n 0), (184, .iload_n 3), (185, .iconst 2), (186, .iadd), (187, .iaload), (188, .aload_n 0), (189, .iload_n 3), (190, .iconst 3), (191, .iadd), (192, .iaload), (193, .aload_n 0), (194, .iload_n 3), (195, .iconst 4), (196, .iadd), (197, .iaload), (198, .aload_n 0), (199, .iload_n 3), (200, .iconst 5), (201, .iadd), (202, .iaload), (203, .invokevirtual 25), (206, .goto 581), (209, .aload_n 1), (210, .aload_n 0), (211, .iload_n 3), (212, .iconst 1), (213, .iadd), (214, .iaload), (215, .invokevirtual 26), (218, .aload_n 2), (219, .aload_n 0), (220, .iload_n 3), (221, .iconst 1), (222, .iadd), (223, .iaload), (224, .invokevirtual 30), (227, .if_icmp .eq 560), (230, .iconst 0), (231, .ireturn), (232, .aload_n 1), (233, .invokevirtual 31), (236, .aload_n 2), (237, .invokevirtual 35), (240, .if_icmp .eq 547), (243, .iconst 0), (244, .ireturn), (245, .aload_n 1), (246, .aload_n 0), (247, .iload_n 3), (248, .iconst 1), (249, .iadd), (250, .iaload), (251, .invokevirtual 36), (254, .aload_n 2), (255, .aload_n 0), (256, .iload_n 3), (257, .iconst 1), (258, .iadd), (259, .iaload), (260, .invokevirtual 39), (263, .if_icmp .eq 524), (266, .iconst 0), (267, .ireturn), (268, .aload_n 1), (269, .aload_n 0), (270, .iload_n 3), (271, .iconst 1), (272, .iadd), (273, .iaload), (274, .aload_n 0), (275, .iload_n 3), (276, .iconst 2), (277, .iadd), (278, .iaload), (279, .invokevirtual 40), (282, .aload_n 2), (283, .aload_n 0), (284, .iload_n 3), (285, .iconst 1), (286, .iadd), (287, .iaload), (288, .aload_n 0), (289, .iload_n 3), (290, .iconst 2), (291, .iadd), (292, .iaload), (293, .invokevirtual 44), (296, .if_icmp .eq 491), (299, .iconst 0), (300, .ireturn), (301, .aload_n 1), (302, .aload_n 0), (303, .iload_n 3), (304, .iconst 1), (305, .iadd), (306, .iaload), (307, .aload_n 0), (308, .iload_n 3), (309, .iconst 2), (310, .iadd), (311, .iaload), (312, .invokevirtual 45), (315, .aload_n 2), (316, .aload_n 0), (317, .iload_n 3), (318, .iconst 1), (319, .iadd), (320, .iaload), (321, .aload_n 0), (322, .iload_n 3), (323, .iconst 2), (324, .iadd), (325, .iaload), (326, .invokevirtual 48), (329, .if_icmp .eq 458), (332, .iconst 0), (333, .ireturn), (334, .aload_n 1), (335, .aload_n 0), (336, .iload_n 3), (337, .iconst 1), (338, .iadd), (339, .iaload), (340, .aload_n 0), (341, .iload_n 3), (342, .iconst 2), (343, .iadd), (344, .iaload), (345, .invokevirtual 49), (348, .aload_n 2), (349, .aload_n 0), (350, .iload_n 3), (351, .iconst 1), (352, .iadd), (353, .iaload), (354, .aload_n 0), (355, .iload_n 3), (356, .iconst 2), (357, .iadd), (358, .iaload), (359, .invokevirtual 53), (362, .lcmp), (363, .ifCond .eq 424), (366, .iconst 0), (367, .ireturn), (368, .aload_n 1), (369, .aload_n 0), (370, .iload_n 3), (371, .iconst 1), (372, .iadd), (373, .iaload), (374, .aload_n 0), (375, .iload_n 3), (376, .iconst 2), (377, .iadd), (378, .iaload), (379, .invokevirtual 54), (382, .aload_n 2), (383, .aload_n 0), (384, .iload_n 3), (385, .iconst 1), (386, .iadd), (387, .iaload), (388, .aload_n 0), (389, .iload_n 3), (390, .iconst 2), (391, .iadd), (392, .iaload), (393, .invokevirtual 58), (396, .if_icmp .eq 391), (399, .iconst 0), (400, .ireturn), (401, .aload_n 1), (402, .aload_n 0), (403, .iload_n 3), (404, .iconst 1), (405, .iadd), (406, .iaload), (407, .invokevirtual 59), (410, .aload_n 2), (411, .aload_n 0), (412, .iload_n 3), (413, .iconst 1), (414, .iadd), (415, .iaload), (416, .invokevirtual 63), (419, .goto 368), (422, .aload_n 1), (423, .aload_n 0), (424, .iload_n 3), (425, .iconst 1), (426, .iadd), (427, .iaload), (428, .i2l), (429, .bipush 32), (431, .lshl), (432, .aload_n 0), (433, .iload_n 3), (434, .iconst 2), (435, .iadd), (436, .iaload), (437, .i2l), (438, .ldc2_w 64), (441, .land), (442, .lor), (443, .aload_n 0), (444, .iload_n 3), (445, .iconst 3), (446, .iadd), (447, .iaload), (448, .invokevirtual 66), (451, .aload_n 2), (452, .aload_n 0), (453, .iload_n 3), (454, .iconst 1), (455, .iadd), (456, .iaload), (457, .i2l), (458, .bipush 32), (460, .lshl), (461, .aload_n 0), (462, .iload_n 3), (463, .iconst 2), (464, .iadd), (465, .iaload), (466, .i2l), (467, .ldc2_w 64), (470, .land), (471, .lor), (472, .aload_n 0), (473, .iload_n 3), (474, .iconst 3), (475, .iadd), (476, .iaload), (477, .invokevirtual 70), (480, .if_icmp .eq 307), (483, .iconst 0), (484, .ireturn), (485, .aload_n 1), (486, .invokevirtual 71), (489, .aload_n 2), (490, .invokevirtual 75), (493, .if_icmp .eq 294), (496, .iconst 0), (497, .ireturn), (498, .aload_n 1), (499, .aload_n 0), (500, .iload_n 3), (501, .iconst 1), (502, .iadd), (503, .iaload), (504, .aload_n 0), (505, .iload_n 3), (506, .iconst 2), (507, .iadd), (508, .iaload), (509, .invokevirtual 76), (512, .aload_n 2), (513, .aload_n 0), (514, .iload_n 3), (515, .iconst 1), (516, .iadd), (517, .iaload), (518, .aload_n 0), (519, .iload_n 3), (520, .iconst 2), (521, .iadd), (522, .iaload), (523, .invokevirtual 79), (526, .if_icmp .eq 261), (529, .iconst 0), (530, .ireturn), (531, .aload_n 1), (532, .aload_n 0), (533, .iload_n 3), (534, .iconst 1), (535, .iadd), (536, .iaload), (537, .invokevirtual 80), (540, .aload_n 2), (541, .aload_n 0), (542, .iload_n 3), (543, .iconst 1), (544, .iadd), (545, .iaload), (546, .invokevirtual 83), (549, .if_icmp .eq 238), (552, .iconst 0), (553, .ireturn), (554, .aload_n 1), (555, .aload_n 0), (556, .iload_n 3), (557, .iconst 1), (558, .iadd), (559, .iaload), (560, .aload_n 0), (561, .iload_n 3), (562, .iconst 2), (563, .iadd), (564, .iaload), (565, .invokevirtual 84), (568, .aload_n 2), (569, .aload_n 0), (570, .iload_n 3), (571, .iconst 1), (572, .iadd), (573, .iaload), (574, .aload_n 0), (575, .iload_n 3), (576, .iconst 2), (577, .iadd), (578, .iaload), (579, .invokevirtual 87), (582, .if_icmp .eq 205), (585, .iconst 0), (586, .ireturn), (587, .aload_n 1), (588, .aload_n 0), (589, .iload_n 3), (590, .iconst 1), (591, .iadd), (592, .iaload), (593, .aload_n 0), (594, .iload_n 3), (595, .iconst 2), (596, .iadd), (597, .iaload), (598, .invokevirtual 88), (601, .aload_n 2), (602, .aload_n 0), (603, .iload_n 3), (604, .iconst 1), (605, .iadd), (606, .iaload), (607, .aload_n 0), (608, .iload_n 3), (609, .iconst 2), (610, .iadd), (611, .iaload), (612, .invokevirtual 91), (615, .if_icmp .eq 172), (618, .iconst 0), (619, .ireturn), (620, .aload_n 1), (621, .aload_n 0), (622, .iload_n 3), (623, .iconst 1), (624, .iadd), (625, .iaload), (626, .aload_n 0), (627, .iload_n 3), (628, .iconst 2), (629, .iadd), (630, .iaload), (631, .aload_n 0), (632, .iload_n 3), (633, .iconst 3), (634, .iadd), (635, .iaload), (636, .invokevirtual 92), (639, .aload_n 2), (640, .aload_n 0), (641, .iload_n 3), (642, .iconst 1), (643, .iadd), (644, .iaload), (645, .aload_n 0), (646, .iload_n 3), (647, .iconst 2), (648, .iadd), (649, .iaload), (650, .aload_n 0), (651, .iload_n 3), (652, .iconst 3), (653, .iadd), (654, .iaload), (655, .invokevirtual 96), (658, .if_icmp .eq 129), (661, .iconst 0), (662, .ireturn), (663, .aload_n 1), (664, .aload_n 0), (665, .iload_n 3), (666, .iconst 1), (667, .iadd), (668, .iaload), (669, .aload_n 0), (670, .iload_n 3), (671, .iconst 2), (672, .iadd), (673, .iaload), (674, .invokevirtual 97), (677, .aload_n 2), (678, .aload_n 0), (679, .iload_n 3), (680, .iconst 1), (681, .iadd), (682, .iaload), (683, .aload_n 0), (684, .iload_n 3), (685, .iconst 2), (686, .iadd), (687, .iaload), (688, .invokevirtual 100), (691, .if_icmp .eq 96), (694, .iconst 0), (695, .ireturn), (696, .aload_n 1), (697, .aload_n 0), (698, .iload_n 3), (699, .iconst 1), (700, .iadd), (701, .iaload), (702, .aload_n 0), (703, .iload_n 3), (704, .iconst 2), (705, .iadd), (706, .iaload), (707, .invokevirtual 101), (710, .aload_n 2), (711, .aload_n 0), (712, .iload_n 3), (713, .iconst 1), (714, .iadd), (715, .iaload), (716, .aload_n 0), (717, .iload_n 3), (718, .iconst 2), (719, .iadd), (720, .iaload), (721, .invokevirtual 104), (724, .if_icmp .eq 63), (727, .iconst 0), (728, .ireturn), (729, .aload_n 1), (730, .aload_n 0), (731, .iload_n 3), (732, .iconst 1), (733, .iadd), (734, .iaload), (735, .aload_n 0), (736, .iload_n 3), (737, .iconst 2), (738, .iadd), (739, .iaload), (740, .invokevirtual 105), (743, .aload_n 2), (744, .aload_n 0), (745, .iload_n 3), (746, .iconst 1), (747, .iadd), (748, .iaload), (749, .aload_n 0), (750, .iload_n 3), (751, .iconst 2), (752, .iadd), (753, .iaload), (754, .invokevirtual 108), (757, .lcmp), (758, .ifCond .eq 29), (761, .iconst 0), (762, .ireturn), (763, .aload_n 1), (764, .aload_n 0), (765, .iload_n 3), (766, .iconst 1), (767, .iadd), (768, .iaload), (769, .invokevirtual 109), (772, .aload_n 2), (773, .aload_n 0), (774, .iload_n 3), (775, .iconst 1), (776, .iadd), (777, .iaload), (778, .invokevirtual 113), (781, .lcmp), (782, .ifCond .eq 5), (785, .iconst 0), (786, .ireturn), (787, .iinc 3 6), (790, .goto (-752)), (793, .iconst 1), (794, .ireturn)], [], [(7, 11, [.int 0, .int 0, .null, .null, .int 0, .null, .null, .null, .null, .null, .null, .null, .null, .null, .int 0, .int 0, .int 0]), (18, 12, [.int 0, .int 0, .long 0, .null, .null, .int 0, .int 0, .int 0, .int 0, .int 0, .null, .null, .long 0, .int 0, .null, .null, .null, .null, .null, .int 0, .int 0, .null, .null, .null, .null, .int 0, .int 0, .null, .null, .int 0, .int 0, .int 0, .int 0, .null, .int 0, .null, .null, .null, .null, .null, .null, .null, .null, .int 0, .null, .null, .null, .int 0, .null, .int 0, .null, .null, .null, .null, .null, .null, .int 0, .null, .null, .int 0, .int 0, .int 0, .int 0, .int 0, .null, .int 0, .int 0, .int 0, .int 0, .int 0, .int 0, .null, .null, .null, .null, .int 0, .null, .null, .null, .null, .null, .null, .null, .int 0, .null, .int 0, .null, .null, .null, .null, .null, .null, .null, .null, .int 0, .null, .null, .int 0, .null, .null, .null, .int 0, .null, .null, .null, .null, .null, .null, .null, .null, .int 0, .null, .null, .null, .null, .int 0, .null, .null, .int 0, .int 0, .int 0, .int 0, .int 0, .null, .int 0, .null, .null, .null, .null, .null, .null, .int 0, .null, .null, .null, .null, .null, .null, .null, .int 0, .int 0, .null, .null, .null, .null, .int 0])], [], [(64, 4294967295)])
set_option maxRecDepth 100000 in
theorem dV_La_law_0 : ∀ q ∈ ([(0, .new 7), (3, .dup), (4, .aload_n 0), (5, .iconst 0), (6, .invokestatic 9), (9, .aload_n 0), (10, .iconst 1), (11, .invokestatic 9)] : List (Nat × Instr)), decode code q.1 = .ok (q.2, ip_len q.1 q.2) := by decide +kernel
set_option maxRecDepth 100000 in
theorem dV_La_law_1 : ∀ q ∈ ([(14, .invokespecial 15), (17, .astore_n 1), (18, .new 18), (21, .dup), (22, .aload_n 0), (23, .iconst 0), (24, .invokestatic 9), (27, .aload_n 0)] : List (Nat × Instr)), decode code q.1 = .ok (q.2, ip_len q.1 q.2) := by decide +kernel
set_option maxRecDepth 100000 in
theorem dV_La_law_2 : ∀ q ∈ ([(28, .iconst 1), (29, .invokestatic 9), (32, .invokespecial 20), (35, .astore_n 2), (36, .iconst 2), (37, .istore_n 3), (38, .iload_n 3), (39, .aload_n 0)] : List (Nat × Instr)), decode code q.1 = .ok (q.2, ip_len q.1 q.2) := by decide +kernel
set_option maxRecDepth 100000 in
theorem dV_La_law_3 : ∀ q ∈ ([(40, .arraylength), (41, .bipush 6), (43, .isub), (44, .if_icmp .gt 749), (47, .aload_n 0), (48, .iload_n 3), (49, .iaload), (50, .bipush 31)] : List (Nat × Instr)), decode code q.1 = .ok (q.2, ip_len q.1 q.2) := by decide +kernel
set_option maxRecDepth 100000 in
theorem dV_La_law_4 : ∀ q ∈ ([(52, .iand), (53, .tableswitch 734 0 19 #[95, 156, 179, 192, 215, 248, 281, 315, 348, 369, 432, 445, 478, 501, 534, 567, 610, 643, 676, 710]), (148, .aload_n 1), (149, .aload_n 0), (150, .iload_n 3), (151, .iconst 1), (152, .iadd), (153, .iaload)] : List (Nat × Instr)), decode code q.1 = .ok (q.2, ip_len q.1 q.2) := by decide +kernel
set_option maxRecDepth 100000 in
theorem dV_La_law_5 : ∀ q ∈ ([(154, .aload_n 0), (155, .iload_n 3), (156, .iconst 2), (157, .iadd), (158, .iaload), (159, .aload_n 0), (160, .iload_n 3), (161, .iconst 3)] : List (Nat × Instr)), decode code q.1 = .ok (q.2, ip_len q.1 q.2) := by decide +kernel
set_option maxRecDepth 100000 in
theorem dV_La_law_6 : ∀ q ∈ ([(162, .iadd), (163, .iaload), (164, .aload_n 0), (165, .iload_n 3), (166, .iconst 4), (167, .iadd), (168, .iaload), (169, .aload_n 0)] : List (Nat × Instr)), decode code q.1 = .ok (q.2, ip_len q.1 q.2) := by decide +kernel
set_option maxRecDepth 100000 in
theorem dV_La_law_7 : ∀ q ∈ ([(170, .iload_n 3), (171, .iconst 5), (172, .iadd), (173, .iaload), (174, .invokevirtual 21), (177, .aload_n 2), (178, .aload_n 0), (179, .iload_n 3)] : List (Nat × Instr)), decode code q.1 = .ok (q.2, ip_len q.1 q.2) := by decide +kernel
set_option maxRecDepth 100000 in
theorem dV_La_law_8 : ∀ q ∈ ([(180, .iconst 1), (181, .iadd), (182, .iaload), (183, .aload_n 0), (184, .iload_n 3), (185, .iconst 2), (186, .iadd), (187, .iaload)] : List (Nat × Instr)), decode code q.1 = .ok (q.2, ip_len q.1 q.2) := by decide +kernel
set_option maxRecDepth 100000 in
theorem dV_La_law_9 : ∀ q ∈ ([(188, .aload_n 0), (189, .iload_n 3), (190, .iconst 3), (191, .iadd), (192, .iaload), (193, .aload_n 0), (194, .iload_n 3), (195, .iconst 4)] : List (Nat × Instr)), decode code q.1 = .ok (q.2, ip_len q.1 q.2) := by decide +kernel
set_option maxRecDepth 100000 in
theorem dV_La_law_10 : ∀ q ∈ ([(196, .iadd), (197, .iaload), (198, .aload_n 0), (199, .iload_n 3), (200, .iconst 5), (201, .iadd), (202, .iaload), (203, .invokevirtual 25)] : List (Nat × Instr)), decode code q.1 = .ok (q.2, ip_len q.1 q.2) := by decide +kernel
set_option maxRecDepth 100000 in
theorem dV_La_law_11 : ∀ q ∈ ([(206, .goto 581), (209, .aload_n 1), (210, .aload_n 0), (211, .iload_n 3), (212, .iconst 1), (213, .iadd), (214, .iaload), (215, .invokevirtual 26)] : List (Nat × Instr)), decode code q.1 = .ok (q.2, ip_len q.1 q.2) := by decide +kernel
set_option maxRecDepth 100000 in
theorem dV_La_law_12 : ∀ q ∈ ([(218, .aload_n 2), (219, .aload_n 0), (220, .iload_n 3), (221, .iconst 1), (222, .iadd), (223, .iaload), (224, .invokevirtual 30), (227, .if_icmp .eq 560)] : List (Nat × Instr)), decode code q.1 = .ok (q.2, ip_len q.1 q.2) := by decide +kernel
set_option maxRecDepth 100000 in
theorem dV_La_law_13 : ∀ q ∈ ([(230, .iconst 0), (231, .ireturn), (232, .aload_n 1), (233, .invokevirtual 31), (236, .aload_n 2), (237, .invokevirtual 35), (240, .if_icmp .eq 547), (243, .iconst 0)] : List (Nat × Instr)), decode code q.1 = .ok (q.2, ip_len q.1 q.2) := by decide +kernel
set_option maxRecDepth 100000 in
theorem dV_La_law_14 : ∀ q ∈ ([(244, .ireturn), (245, .aload_n 1), (246, .aload_n 0), (247, .iload_n 3), (248, .iconst 1), (249, .iadd), (250, .iaload), (251, .invokevirtual 36)] : List (Nat × Instr)), decode code q.1 = .ok (q.2, ip_len q.1 q.2) := by decide +kernel
set_option maxRecDepth 100000 in
theorem dV_La_law_15 : ∀ q ∈ ([(254, .aload_n 2), (255, .aload_n 0), (256, .iload_n 3), (257, .iconst 1), (258, .iadd), (259, .iaload), (260, .invokevirtual 39), (263, .if_icmp .eq 524)] : List (Nat × Instr)), decode code q.1 = .ok (q.2, ip_len q.1 q.2) := by decide +kernel
set_option maxRecDepth 100000 in
theorem dV_La_law_16 : ∀ q ∈ ([(266, .iconst 0), (267, .ireturn), (268, .aload_n 1), (269, .aload_n 0), (270, .iload_n 3), (271, .iconst 1), (272, .iadd), (273, .iaload)] : List (Nat × Instr)), decode code q.1 = .ok (q.2, ip_len q.1 q.2) := by decide +kernel
set_option maxRecDepth 100000 in
theorem dV_La_law_17 : ∀ q ∈ ([(274, .aload_n 0), (275, .iload_n 3), (276, .iconst 2), (277, .iadd), (278, .iaload), (279, .invokevirtual 40), (282, .aload_n 2), (283, .aload_n 0)] : List (Nat × Instr)), decode code q.1 = .ok (q.2, ip_len q.1 q.2) := by decide +kernel
set_option maxRecDepth 100000 in
theorem dV_La_law_18 : ∀ q ∈ ([(284, .iload_n 3), (285, .iconst 1), (286, .iadd), (287, .iaload), (288, .aload_n 0), (289, .iload_n 3), (290, .iconst 2), (291, .iadd)] : List (Nat × Instr)), decode code q.1 = .ok (q.2, ip_len q.1 q.2) := by decide +kernel
set_option maxRecDepth 100000 in
theorem dV_La_law_19 : ∀ q ∈ ([(292, .iaload), (293, .invokevirtual 44), (296, .if_icmp .eq 491), (299, .iconst 0), (300, .ireturn), (301, .aload_n 1), (302, .aload_n 0), (303, .iload_n 3)] : List (Nat × Instr)), decode code q.1 = .ok (q.2, ip_len q.1 q.2) := by decide +kernel
set_option maxRecDepth 100000 in
theorem dV_La_law_20 : ∀ q ∈ ([(304, .iconst 1), (305, .iadd), (306, .iaload), (307, .aload_n 0), (308, .iload_n 3), (309, .iconst 2), (310, .iadd), (311, .iaload)] : List (Nat × Instr)), decode code q.1 = .ok (q.2, ip_len q.1 q.2) := by decide +kernel
set_option maxRecDepth 100000 in
theorem dV_La_law_21 : ∀ q ∈ ([(312, .invokevirtual 45), (315, .aload_n 2), (316, .aload_n 0), (317, .iload_n 3), (318, .iconst 1), (319, .iadd), (320, .iaload), (321, .aload_n 0)] : List (Nat × Instr)), decode code q.1 = .ok (q.2, ip_len q.1 q.2) := by decide +kernel
set_option maxRecDepth 100000 in
theorem dV_La_law_22 : ∀ q ∈ ([(322, .iload_n 3), (323, .iconst 2), (324, .iadd), (325, .iaload), (326, .invokevirtual 48), (329, .if_icmp .eq 458), (332, .iconst 0), (333, .ireturn)] : List (Nat × Instr)), decode code q.1 = .ok (q.2, ip_len q.1 q.2) := by decide +kernel
set_option maxRecDepth 100000 in
theorem dV_La_law_23 : ∀ q ∈ ([(334, .aload_n 1), (335, .aload_n 0), (336, .iload_n 3), (337, .iconst 1), (338, .iadd), (339, .iaload), (340, .aload_n 0), (341, .iload_n 3)] : List (Nat × Instr)), decode code q.1 = .ok (q.2, ip_len q.1 q.2) := by decide +kernel
set_option maxRecDepth 100000 in
theorem dV_La_law_24 : ∀ q ∈ ([(342, .iconst 2), (343, .iadd), (344, .iaload), (345, .invokevirtual 49), (348, .aload_n 2), (349, .aload_n 0), (350, .iload_n 3), (351, .iconst 1)] : List (Nat × Instr)), decode code q.1 = .ok (q.2, ip_len q.1 q.2) := by decide +kernel
set_option maxRecDepth 100000 in
theorem dV_La_law_25 : ∀ q ∈ ([(352, .iadd), (353, .iaload), (354, .aload_n 0), (355, .iload_n 3), (356, .iconst 2), (357, .iadd), (358, .iaload), (359, .invokevirtual 53)] : List (Nat × Instr)), decode code q.1 = .ok (q.2, ip_len q.1 q.2) := by decide +kernel
set_option maxRecDepth 100000 in
theorem dV_La_law_26 : ∀ q ∈ ([(362, .lcmp), (363, .ifCond .eq 424), (366, .iconst 0), (367, .ireturn), (368, .aload_n 1), (369, .aload_n 0), (370, .iload_n 3), (371, .iconst 1)] : List (Nat × Instr)), decode code q.1 = .ok (q.2, ip_len q.1 q.2) := by decide +kernel
set_option maxRecDepth 100000 in
theorem dV_La_law_27 : ∀ q ∈ ([(372, .iadd), (373, .iaload), (374, .aload_n 0), (375, .iload_n 3), (376, .iconst 2), (377, .iadd), (378, .iaload), (379, .invokevirtual 54)] : List (Nat × Instr)), decode code q.1 = .ok (q.2, ip_len q.1 q.2) := by decide +kernel
set_option maxRecDepth 100000 in
theorem dV_La_law_28 : ∀ q ∈ ([(382, .aload_n 2), (383, .aload_n 0), (384, .iload_n 3), (385, .iconst 1), (386, .iadd), (387, .iaload), (388, .aload_n 0), (389, .iload_n 3)] : List (Nat × Instr)), decode code q.1 = .ok (q.2, ip_len q.1 q.2) := by decide +kernel
set_option maxRecDepth 100000 in
theorem dV_La_law_29 : ∀ q ∈ ([(390, .iconst 2), (391, .iadd), (392, .iaload), (393, .invokevirtual 58), (396, .if_icmp .eq 391), (399, .iconst 0), (400, .ireturn), (401, .aload_n 1)] : List (Nat × Instr)), decode code q.1 = .ok (q.2, ip_len q.1 q.2) := by decide +kernel
set_option maxRecDepth 100000 in
theorem dV_La_law_30 : ∀ q ∈ ([(402, .aload_n 0), (403, .iload_n 3), (404, .iconst 1), (405, .iadd), (406, .iaload), (407, .invokevirtual 59), (410, .aload_n 2), (411, .aload_n 0)] : List (Nat × Instr)), decode code q.1 = .ok (q.2, ip_len q.1 q.2) := by decide +kernel
set_option maxRecDepth 100000 in
theorem dV_La_law_31 : ∀ q ∈ ([(412, .iload_n 3), (413, .iconst 1), (414, .iadd), (415, .iaload), (416, .invokevirtual 63), (419, .goto 368), (422, .aload_n 1), (423, .aload_n 0)] : List (Nat × Instr)), decode code q.1 = .ok (q.2, ip_len q.1 q.2) := by decide +kernel
set_option maxRecDepth 100000 in
theorem dV_La_law_32 : ∀ q ∈ ([(424, .iload_n 3), (425, .iconst 1), (426, .iadd), (427, .iaload), (428, .i2l), (429, .bipush 32), (431, .lshl), (432, .aload_n 0)] : List (Nat × Instr)), decode code q.1 = .ok (q.2, ip_len q.1 q.2) := by decide +kernel
set_option maxRecDepth 100000 in
theorem dV_La_law_33 : ∀ q ∈ ([(433, .iload_n 3), (434, .iconst 2), (435, .iadd), (436, .iaload), (437, .i2l), (438, .ldc2_w 64), (441, .land), (442, .lor)] : List (Nat × Instr)), decode code q.1 = .ok (q.2, ip_len q.1 q.2) := by decide +kernel
set_option maxRecDepth 100000 in
theorem dV_La_law_34 : ∀ q ∈ ([(443, .aload_n 0), (444, .iload_n 3), (445, .iconst 3), (446, .iadd), (447, .iaload), (448, .invokevirtual 66), (451, .aload_n 2), (452, .aload_n 0)] : List (Nat × Instr)), decode code q.1 = .ok (q.2, ip_len q.1 q.2) := by decide +kernel
set_option maxRecDepth 100000 in
theorem dV_La_law_35 : ∀ q ∈ ([(453, .iload_n 3), (454, .iconst 1), (455, .iadd), (456, .iaload), (457, .i2l), (458, .bipush 32), (460, .lshl), (461, .aload_n 0)] : List (Nat × Instr)), decode code q.1 = .ok (q.2, ip_len q.1 q.2) := by decide +kernel
set_option maxRecDepth 100000 in
theorem dV_La_law_36 : ∀ q ∈ ([(462, .iload_n 3), (463, .iconst 2), (464, .iadd), (465, .iaload), (466, .i2l), (467, .ldc2_w 64), (470, .land), (471, .lor)] : List (Nat × Instr)), decode code q.1 = .ok (q.2, ip_len q.1 q.2) := by decide +kernel
set_option maxRecDepth 100000 in
theorem dV_La_law_37 : ∀ q ∈ ([(472, .aload_n 0), (473, .iload_n 3), (474, .iconst 3), (475, .iadd), (476, .iaload), (477, .invokevirtual 70), (480, .if_icmp .eq 307), (483, .iconst 0)] : List (Nat × Instr)), decode code q.1 = .ok (q.2, ip_len q.1 q.2) := by decide +kernel
set_option maxRecDepth 100000 in
theorem dV_La_law_38 : ∀ q ∈ ([(484, .ireturn), (485, .aload_n 1), (486, .invokevirtual 71), (489, .aload_n 2), (490, .invokevirtual 75), (493, .if_icmp .eq 294), (496, .iconst 0), (497, .ireturn)] : List (Nat × Instr)), decode code q.1 = .ok (q.2, ip_len q.1 q.2) := by decide +kernel
set_option maxRecDepth 100000 in
theorem dV_La_law_39 : ∀ q ∈ ([(498, .aload_n 1), (499, .aload_n 0), (500, .iload_n 3), (501, .iconst 1), (502, .iadd), (503, .iaload), (504, .aload_n 0), (505, .iload_n 3)] : List (Nat × Instr)), decode code q.1 = .ok (q.2, ip_len q.1 q.2) := by decide +kernel
set_option maxRecDepth 100000 in
theorem dV_La_law_40 : ∀ q ∈ ([(506, .iconst 2), (507, .iadd), (508, .iaload), (509, .invokevirtual 76), (512, .aload_n 2), (513, .aload_n 0), (514, .iload_n 3), (515, .iconst 1)] : List (Nat × Instr)), decode code q.1 = .ok (q.2, ip_len q.1 q.2) := by decide +kernel
set_option maxRecDepth 100000 in
theorem dV_La_law_41 : ∀ q ∈ ([(516, .iadd), (517, .iaload), (518, .aload_n 0), (519, .iload_n 3), (520, .iconst 2), (521, .iadd), (522, .iaload), (523, .invokevirtual 79)] : List (Nat × Instr)), decode code q.1 = .ok (q.2, ip_len q.1 q.2) := by decide +kernel
set_option maxRecDepth 100000 in
theorem dV_La_law_42 : ∀ q ∈ ([(526, .if_icmp .eq 261), (529, .iconst 0), (530, .ireturn), (531, .aload_n 1), (532, .aload_n 0), (533, .iload_n 3), (534, .iconst 1), (535, .iadd)] : List (Nat × Instr)), decode code q.1 = .ok (q.2, ip_len q.1 q.2) := by decide +kernel
set_option maxRecDepth 100000 in
theorem dV_La_law_43 : ∀ q ∈ ([(536, .iaload), (537, .invokevirtual 80), (540, .aload_n 2), (541, .aload_n 0), (542, .iload_n 3), (543, .iconst 1), (544, .iadd), (545, .iaload)] : List (Nat × Instr)), decode code q.1 = .ok (q.2, ip_len q.1 q.2) := by decide +kernel
set_option maxRecDepth 100000 in
theorem dV_La_law_44 : ∀ q ∈ ([(546, .invokevirtual 83), (549, .if_icmp .eq 238), (552, .iconst 0), (553, .ireturn), (554, .aload_n 1), (555, .aload_n 0), (556, .iload_n 3), (557, .iconst 1)] : List (Nat × Instr)), decode code q.1 = .ok (q.2, ip_len q.1 q.2) := by decide +kernel
set_option maxRecDepth 100000 in
theorem dV_La_law_45 : ∀ q ∈ ([(558, .iadd), (559, .iaload), (560, .aload_n 0), (561, .iload_n 3), (562, .iconst 2), (563, .iadd), (564, .iaload), (565, .invokevirtual 84)] : List (Nat × Instr)), decode code q.1 = .ok (q.2, ip_len q.1 q.2) := by decide +kernel
set_option maxRecDepth 100000 in
theorem dV_La_law_46 : ∀ q ∈ ([(568, .aload_n 2), (569, .aload_n 0), (570, .iload_n 3), (571, .iconst 1), (572, .iadd), (573, .iaload), (574, .aload_n 0), (575, .iload_n 3)] : List (Nat × Instr)), decode code q.1 = .ok (q.2, ip_len q.1 q.2) := by decide +kernel
set_option maxRecDepth 100000 in
theorem dV_La_law_47 : ∀ q ∈ ([(576, .iconst 2), (577, .iadd), (578, .iaload), (579, .invokevirtual 87), (582, .if_icmp .eq 205), (585, .iconst 0), (586, .ireturn), (587, .aload_n 1)] : List (Nat × Instr)), decode code q.1 = .ok (q.2, ip_len q.1 q.2) := by decide +kernel
set_option maxRecDepth 100000 in
theorem dV_La_law_48 : ∀ q ∈ ([(588, .aload_n 0), (589, .iload_n 3), (590, .iconst 1), (591, .iadd), (592, .iaload), (593, .aload_n 0), (594, .iload_n 3), (595, .iconst 2)] : List (Nat × Instr)), decode code q.1 = .ok (q.2, ip_len q.1 q.2) := by decide +kernel
set_option maxRecDepth 100000 in
theorem dV_La_law_49 : ∀ q ∈ ([(596, .iadd), (597, .iaload), (598, .invokevirtual 88), (601, .aload_n 2), (602, .aload_n 0), (603, .iload_n 3), (604, .iconst 1), (605, .iadd)] : List (Nat × Instr)), decode code q.1 = .ok (q.2, ip_len q.1 q.2) := by decide +kernel
set_option maxRecDepth 100000 in
theorem dV_La_law_50 : ∀ q ∈ ([(606, .iaload), (607, .aload_n 0), (608, .iload_n 3), (609, .iconst 2), (610, .iadd), (611, .iaload), (612, .invokevirtual 91), (615, .if_icmp .eq 172)] : List (Nat × Instr)), decode code q.1 = .ok (q.2, ip_len q.1 q.2) := by decide +kernel
set_option maxRecDepth 100000 in
theorem dV_La_law_51 : ∀ q ∈ ([(618, .iconst 0), (619, .ireturn), (620, .aload_n 1), (621, .aload_n 0), (622, .iload_n 3), (623, .iconst 1), (624, .iadd), (625, .iaload)] : List (Nat × Instr)), decode code q.1 = .ok (q.2, ip_len q.1 q.2) := by decide +kernel
set_option maxRecDepth 100000 in
theorem dV_La_law_52 : ∀ q ∈ ([(626, .aload_n 0), (627, .iload_n 3), (628, .iconst 2), (629, .iadd), (630, .iaload), (631, .aload_n 0), (632, .iload_n 3), (633, .iconst 3)] : List (Nat × Instr)), decode code q.1 = .ok (q.2, ip_len q.1 q.2) := by decide +kernel
set_option maxRecDepth 100000 in
theorem dV_La_law_53 : ∀ q ∈ ([(634, .iadd), (635, .iaload), (636, .invokevirtual 92), (639, .aload_n 2), (640, .aload_n 0), (641, .iload_n 3), (642, .iconst 1), (643, .iadd)] : List (Nat × Instr)), decode code q.1 = .ok (q.2, ip_len q.1 q.2) := by decide +kernel
set_option maxRecDepth 100000 in
theorem dV_La_law_54 : ∀ q ∈ ([(644, .iaload), (645, .aload_n 0), (646, .iload_n 3), (647, .iconst 2), (648, .iadd), (649, .iaload), (650, .aload_n 0), (651, .iload_n 3)] : List (Nat × Instr)), decode code q.1 = .ok (q.2, ip_len q.1 q.2) := by decide +kernel
set_option maxRecDepth 100000 in
theorem dV_La_law_55 : ∀ q ∈ ([(652, .iconst 3), (653, .iadd), (654, .iaload), (655, .invokevirtual 96), (658, .if_icmp .eq 129), (661, .iconst 0), (662, .ireturn), (663, .aload_n 1)] : List (Nat × Instr)), decode code q.1 = .ok (q.2, ip_len q.1 q.2) := by decide +kernel
set_option maxRecDepth 100000 in
theorem dV_La_law_56 : ∀ q ∈ ([(664, .aload_n 0), (665, .iload_n 3), (666, .iconst 1), (667, .iadd), (668, .iaload), (669, .aload_n 0), (670, .iload_n 3), (671, .iconst 2)] : List (Nat × Instr)), decode code q.1 = .ok (q.2, ip_len q.1 q.2) := by decide +kernel
set_option maxRecDepth 100000 in
theorem dV_La_law_57 : ∀ q ∈ ([(672, .iadd), (673, .iaload), (674, .invokevirtual 97), (677, .aload_n 2), (678, .aload_n 0), (679, .iload_n 3), (680, .iconst 1), (681, .iadd)] : List (Nat × Instr)), decode code q.1 = .ok (q.2, ip_len q.1 q.2) := by decide +kernel
set_option maxRecDepth 100000 in
theorem dV_La_law_58 : ∀ q ∈ ([(682, .iaload), (683, .aload_n 0), (684, .iload_n 3), (685, .iconst 2), (686, .iadd), (687, .iaload), (688, .invokevirtual 100), (691, .if_icmp .eq 96)] : List (Nat × Instr)), decode code q.1 = .ok (q.2, ip_len q.1 q.2) := by decide +kernel
set_option maxRecDepth 100000 in
theorem dV_La_law_59 : ∀ q ∈ ([(694, .iconst 0), (695, .ireturn), (696, .aload_n 1), (697, .aload_n 0), (698, .iload_n 3), (699, .iconst 1), (700, .iadd), (701, .iaload)] : List (Nat × Instr)), decode code q.1 = .ok (q.2, ip_len q.1 q.2) := by decide +kernel
set_option maxRecDepth 100000 in
theorem dV_La_law_60 : ∀ q ∈ ([(702, .aload_n 0), (703, .iload_n 3), (704, .iconst 2), (705, .iadd), (706, .iaload), (707, .invokevirtual 101), (710, .aload_n 2), (711, .aload_n 0)] : List (Nat × Instr)), decode code q.1 = .ok (q.2, ip_len q.1 q.2) := by decide +kernel
set_option maxRecDepth 100000 in
theorem dV_La_law_61 : ∀ q ∈ ([(712, .iload_n 3), (713, .iconst 1), (714, .iadd), (715, .iaload), (716, .aload_n 0), (717, .iload_n 3), (718, .iconst 2), (719, .iadd)] : List (Nat × Instr)), decode code q.1 = .ok (q.2, ip_len q.1 q.2) := by decide +kernel
set_option maxRecDepth 100000 in
theorem dV_La_law_62 : ∀ q ∈ ([(720, .iaload), (721, .invokevirtual 104), (724, .if_icmp .eq 63), (727, .iconst 0), (728, .ireturn), (729, .aload_n 1), (730, .aload_n 0), (731, .iload_n 3)] : List (Nat × Instr)), decode code q.1 = .ok (q.2, ip_len q.1 q.2) := by decide +kernel
set_option maxRecDepth 100000 in
theorem dV_La_law_63 : ∀ q ∈ ([(732, .iconst 1), (733, .iadd), (734, .iaload), (735, .aload_n 0), (736, .iload_n 3), (737, .iconst 2), (738, .iadd), (739, .iaload)] : List (Nat × Instr)), decode code q.1 = .ok (q.2, ip_len q.1 q.2) := by decide +kernel
set_option maxRecDepth 100000 in
theorem dV_La_law_64 : ∀ q ∈ ([(740, .invokevirtual 105), (743, .aload_n 2), (744, .aload_n 0), (745, .iload_n 3), (746, .iconst 1), (747, .iadd), (748, .iaload), (749, .aload_n 0)] : List (Nat × Instr)), decode code q.1 = .ok (q.2, ip_len q.1 q.2) := by decide +kernel
set_option maxRecDepth 100000 in
theorem dV_La_law_65 : ∀ q ∈ ([(750, .iload_n 3), (751, .iconst 2), (752, .iadd), (753, .iaload), (754, .invokevirtual 108), (757, .lcmp), (758, .ifCond .eq 29), (761, .iconst 0)] : List (Nat × Instr)), decode code q.1 = .ok (q.2, ip_len q.1 q.2) := by decide +kernel
set_option maxRecDepth 100000 in
theorem dV_La_law_66 : ∀ q ∈ ([(762, .ireturn), (763, .aload_n 1), (764, .aload_n 0), (765, .iload_n 3), (766, .iconst 1), (767, .iadd), (768, .iaload), (769, .invokevirtual 109)] : List (Nat × Instr)), decode code q.1 = .ok (q.2, ip_len q.1 q.2) := by decide +kernel
set_option maxRecDepth 100000 in
theorem dV_La_law_67 : ∀ q ∈ ([(772, .aload_n 2), (773, .aload_n 0), (774, .iload_n 3), (775, .iconst 1), (776, .iadd), (777, .iaload), (778, .invokevirtual 113), (781, .lcmp)] : List (Nat × Instr)), decode code q.1 = .ok (q.2, ip_len q.1 q.2) := by decide +kernel
set_option maxRecDepth 100000 in
theorem dV_La_law_68 : ∀ q ∈ ([(782, .ifCond .eq 5), (785, .iconst 0), (786, .ireturn), (787, .iinc 3 6), (790, .goto (-752)), (793, .iconst 1), (794, .ireturn)] : List (Nat × Instr)), decode code q.1 = .ok (q.2, ip_len q.1 q.2) := by decide +kernel
set_option maxRecDepth 100000 in
theorem oV_La_law : ip_okV lg_tbl vwCl M_La_law V_La_law := ⟨ip_fap dV_La_law_0 (ip_fap dV_La_law_1 (ip_fap dV_La_law_2 (ip_fap dV_La_law_3 (ip_fap dV_La_law_4 (ip_fap dV_La_law_5 (ip_fap dV_La_law_6 (ip_fap dV_La_law_7 (ip_fap dV_La_law_8 (ip_fap dV_La_law_9 (ip_fap dV_La_law_10 (ip_fap dV_La_law_11 (ip_fap dV_La_law_12 (ip_fap dV_La_law_13 (ip_fap dV_La_law_14 (ip_fap dV_La_law_15 (ip_fap dV_La_law_16 (ip_fap dV_La_law_17 (ip_fap dV_La_law_18 (ip_fap dV_La_law_19 (ip_fap dV_La_law_20 (ip_fap dV_La_law_21 (ip_fap dV_La_law_22 (ip_fap dV_La_law_23 (ip_fap dV_La_law_24 (ip_fap dV_La_law_25 (ip_fap dV_La_law_26 (ip_fap dV_La_law_27 (ip_fap dV_La_law_28 (ip_fap dV_La_law_29 (ip_fap dV_La_law_30 (ip_fap dV_La_law_31 (ip_fap dV_La_law_32 (ip_fap dV_La_law_33 (ip_fap dV_La_law_34 (ip_fap dV_La_law_35 (ip_fap dV_La_law_36 (ip_fap dV_La_law_37 (ip_fap dV_La_law_38 (ip_fap dV_La_law_39 (ip_fap dV_La_law_40 (ip_fap dV_La_law_41 (ip_fap dV_La_law_42 (ip_fap dV_La_law_43 (ip_fap dV_La_law_44 (ip_fap dV_La_law_45 (ip_fap dV_La_law_46 (ip_fap dV_La_law_47 (ip_fap dV_La_law_48 (ip_fap dV_La_law_49 (ip_fap dV_La_law_50 (ip_fap dV_La_law_51 (ip_fap dV_La_law_52 (ip_fap dV_La_law_53 (ip_fap dV_La_law_54 (ip_fap dV_La_law_55 (ip_fap dV_La_law_56 (ip_fap dV_La_law_57 (ip_fap dV_La_law_58 (ip_fap dV_La_law_59 (ip_fap dV_La_law_60 (ip_fap dV_La_law_61 (ip_fap dV_La_law_62 (ip_fap dV_La_law_63 (ip_fap dV_La_law_64 (ip_fap dV_La_law_65 (ip_fap dV_La_law_66 (ip_fap dV_La_law_67 (dV_La_law_68)))))))))))))))))))))))))))))))))))))))))))))))))))))))))))))))))))), List.forall_mem_nil _, List.forall_mem_cons.mpr ⟨fN_La_7, List.forall_mem_cons.mpr ⟨fN_La_18, List.forall_mem_nil _⟩⟩, List.forall_mem_nil _, List.forall_mem_cons.mpr ⟨tt_11 _ (List.mem_of_getElem? (i := 105) rfl) rfl, List.forall_mem_nil _⟩, fA4⟩
set_option maxRecDepth 100000 in
theorem lw_0 {l : Launch} {Gr} {d a m j Lx : Nat} {xs : Nat → Int32} {h h1 h2 : ip_H} {fs fs1 : List Value} {r : Option Value × ip_H} (hG : ip_gk (lg_tbl, vwCl, Gr)) (hX : ∀ U : State, ip_X (lg_tbl, vwCl, Gr) U → va_X (ip_O (lg_tbl, vwCl, Gr) 0) Lx xs U U.heap) (hb : ip_O (lg_tbl, vwCl, Gr) 0 < ip_B (lg_tbl, vwCl, Gr)) (hL : Lx < 2 ^ 31) (hj : j + 6 ≤ Lx) (ha : ip_h h a = some (.inr (11, fs))) (hm1 : ip_h h1 m = some (.inr (12, fs1))) (hc : ip_RnM l (lg_tbl, vwCl, Gr) M_H_feed d [.ref a, .int (xs (j + 1)), .int (xs (j + 2)), .int (xs (j + 3)), .int (xs (j + 4)), .int (xs (j + 5))] h (none, h1)) (hm : ip_RnM l (lg_tbl, vwCl, Gr) M_Mo_feed d [.ref m, .int (xs (j + 1)), .int (xs (j + 2)), .int (xs (j + 3)), .int (xs (j + 4)), .int (xs (j + 5))] h1 (none, h2))
    (kk : ip_Rn l (lg_tbl, vwCl, Gr) M_La_law (d + 1) 787 [some (.ref 0), some (.ref a), some (.ref m), some (.int (nI j))] [] h2 r) : ip_Rn l (lg_tbl, vwCl, Gr) M_La_law (d + 1) 148 [some (.ref 0), some (.ref a), some (.ref m), some (.int (nI j))] [] h r := by
  refine ip_go (G := (lg_tbl, vwCl, Gr)) (ini := false) oV_La_law (fun q => Bool.noConfusion q) 5 (pc' := 153) (L' := [some (.ref 0), some (.ref a), some (.ref m), some (.int (nI j))]) (st' := [.int ((nI j) + 1), .ref 0, .ref a]) (h' := _) rfl ?_
  refine ip_sld (G := (lg_tbl, vwCl, Gr)) (q := j + 1) (oV_La_law.1 (153, .iaload) (ip_lk_mem rfl)) hX hb (nI_add j 1) (by omega) hL ?_
  refine ip_go (G := (lg_tbl, vwCl, Gr)) (ini := false) oV_La_law (fun q => Bool.noConfusion q) 4 (pc' := 158) (L' := [some (.ref 0), some (.ref a), some (.ref m), some (.int (nI j))]) (st' := [.int ((nI j) + 2), .ref 0, .int (xs (j + 1)), .ref a]) (h' := _) rfl ?_
  refine ip_sld (G := (lg_tbl, vwCl, Gr)) (q := j + 2) (oV_La_law.1 (158, .iaload) (ip_lk_mem rfl)) hX hb (nI_add j 2) (by omega) hL ?_
  refine ip_go (G := (lg_tbl, vwCl, Gr)) (ini := false) oV_La_law (fun q => Bool.noConfusion q) 4 (pc' := 163) (L' := [some (.ref 0), some (.ref a), some (.ref m), some (.int (nI j))]) (st' := [.int ((nI j) + 3), .ref 0, .int (xs (j + 2)), .int (xs (j + 1)), .ref a]) (h' := _) rfl ?_
  refine ip_sld (G := (lg_tbl, vwCl, Gr)) (q := j + 3) (oV_La_law.1 (163, .iaload) (ip_lk_mem rfl)) hX hb (nI_add j 3) (by omega) hL ?_
  refine ip_go (G := (lg_tbl, vwCl, Gr)) (ini := false) oV_La_law (fun q => Bool.noConfusion q) 4 (pc' := 168) (L' := [some (.ref 0), some (.ref a), some (.ref m), some (.int (nI j))]) (st' := [.int ((nI j) + 4), .ref 0, .int (xs (j + 3)), .int (xs (j + 2)), .int (xs (j + 1)), .ref a]) (h' := _) rfl ?_
  refine ip_sld (G := (lg_tbl, vwCl, Gr)) (q := j + 4) (oV_La_law.1 (168, .iaload) (ip_lk_mem rfl)) hX hb (nI_add j 4) (by omega) hL ?_
  refine ip_go (G := (lg_tbl, vwCl, Gr)) (ini := false) oV_La_law (fun q => Bool.noConfusion q) 4 (pc' := 173) (L' := [some (.ref 0), some (.ref a), some (.ref m), some (.int (nI j))]) (st' := [.int ((nI j) + 5), .ref 0, .int (xs (j + 4)), .int (xs (j + 3)), .int (xs (j + 2)), .int (xs (j + 1)), .ref a]) (h' := _) rfl ?_
  refine ip_sld (G := (lg_tbl, vwCl, Gr)) (q := j + 5) (oV_La_law.1 (173, .iaload) (ip_lk_mem rfl)) hX hb (nI_add j 5) (by omega) hL ?_
  refine ip_callV (G := (lg_tbl, vwCl, Gr)) hG.2.2.1 fT oM_H_feed (oV_La_law.1 (174, .invokevirtual 21) (ip_lk_mem rfl)) ⟨tt_3 _ (List.mem_of_getElem? (i := 132) rfl) rfl, tt_3 _ (List.mem_of_getElem? (i := 133) rfl) rfl, tt_3 _ (List.mem_of_getElem? (i := 134) rfl) rfl⟩ (n := a) (ci := 11) (As := [.int (xs (j + 1)), .int (xs (j + 2)), .int (xs (j + 3)), .int (xs (j + 4)), .int (xs (j + 5))]) rfl rfl rfl ha (Nat.le_of_ble_eq_true rfl) hc ?_
  refine ip_go (G := (lg_tbl, vwCl, Gr)) (ini := false) oV_La_law (fun q => Bool.noConfusion q) 5 (pc' := 182) (L' := [some (.ref 0), some (.ref a), some (.ref m), some (.int (nI j))]) (st' := [.int ((nI j) + 1), .ref 0, .ref m]) (h' := _) rfl ?_
  refine ip_sld (G := (lg_tbl, vwCl, Gr)) (q := j + 1) (oV_La_law.1 (182, .iaload) (ip_lk_mem rfl)) hX hb (nI_add j 1) (by omega) hL ?_
  refine ip_go (G := (lg_tbl, vwCl, Gr)) (ini := false) oV_La_law (fun q => Bool.noConfusion q) 4 (pc' := 187) (L' := [some (.ref 0), some (.ref a), some (.ref m), some (.int (nI j))]) (st' := [.int ((nI j) + 2), .ref 0, .int (xs (j + 1)), .ref m]) (h' := _) rfl ?_
  refine ip_sld (G := (lg_tbl, vwCl, Gr)) (q := j + 2) (oV_La_law.1 (187, .iaload) (ip_lk_mem rfl)) hX hb (nI_add j 2) (by omega) hL ?_
  refine ip_go (G := (lg_tbl, vwCl, Gr)) (ini := false) oV_La_law (fun q => Bool.noConfusion q) 4 (pc' := 192) (L' := [some (.ref 0), some (.ref a), some (.ref m), some (.int (nI j))]) (st' := [.int ((nI j) + 3), .ref 0, .int (xs (j + 2)), .int (xs (j + 1)), .ref m]) (h' := _) rfl ?_
  refine ip_sld (G := (lg_tbl, vwCl, Gr)) (q := j + 3) (oV_La_law.1 (192, .iaload) (ip_lk_mem rfl)) hX hb (nI_add j 3) (by omega) hL ?_
  refine ip_go (G := (lg_tbl, vwCl, Gr)) (ini := false) oV_La_law (fun q => Bool.noConfusion q) 4 (pc' := 197) (L' := [some (.ref 0), some (.ref a), some (.ref m), some (.int (nI j))]) (st' := [.int ((nI j) + 4), .ref 0, .int (xs (j + 3)), .int (xs (j + 2)), .int (xs (j + 1)), .ref m]) (h' := _) rfl ?_
  refine ip_sld (G := (lg_tbl, vwCl, Gr)) (q := j + 4) (oV_La_law.1 (197, .iaload) (ip_lk_mem rfl)) hX hb (nI_add j 4) (by omega) hL ?_
  refine ip_go (G := (lg_tbl, vwCl, Gr)) (ini := false) oV_La_law (fun q => Bool.noConfusion q) 4 (pc' := 202) (L' := [some (.ref 0), some (.ref a), some (.ref m), some (.int (nI j))]) (st' := [.int ((nI j) + 5), .ref 0, .int (xs (j + 4)), .int (xs (j + 3)), .int (xs (j + 2)), .int (xs (j + 1)), .ref m]) (h' := _) rfl ?_
  refine ip_sld (G := (lg_tbl, vwCl, Gr)) (q := j + 5) (oV_La_law.1 (202, .iaload) (ip_lk_mem rfl)) hX hb (nI_add j 5) (by omega) hL ?_
  refine ip_callV (G := (lg_tbl, vwCl, Gr)) hG.2.2.1 fT oM_Mo_feed (oV_La_law.1 (203, .invokevirtual 25) (ip_lk_mem rfl)) ⟨tt_9 _ (List.mem_of_getElem? (i := 35) rfl) rfl, tt_9 _ (List.mem_of_getElem? (i := 36) rfl) rfl, tt_9 _ (List.mem_of_getElem? (i := 37) rfl) rfl⟩ (n := m) (ci := 12) (As := [.int (xs (j + 1)), .int (xs (j + 2)), .int (xs (j + 3)), .int (xs (j + 4)), .int (xs (j + 5))]) rfl rfl rfl hm1 (Nat.le_of_ble_eq_true rfl) hm ?_
  refine ip_goto (G := (lg_tbl, vwCl, Gr)) (tgt := 787) (oV_La_law.1 (206, .goto 581) (ip_lk_mem rfl)) (by decide) ?_
  exact kk
set_option maxRecDepth 100000 in
theorem lw_1 {l : Launch} {Gr} {d a m j Lx : Nat} {xs : Nat → Int32} {h h1 h2 : ip_H} {fs fs1 : List Value} {r : Option Value × ip_H} (hG : ip_gk (lg_tbl, vwCl, Gr)) (hX : ∀ U : State, ip_X (lg_tbl, vwCl, Gr) U → va_X (ip_O (lg_tbl, vwCl, Gr) 0) Lx xs U U.heap) (hb : ip_O (lg_tbl, vwCl, Gr) 0 < ip_B (lg_tbl, vwCl, Gr)) (hL : Lx < 2 ^ 31) (hj : j + 6 ≤ Lx) (ha : ip_h h a = some (.inr (11, fs))) {v : Int32} (hm1 : ip_h h1 m = some (.inr (12, fs1))) (hc : ip_RnM l (lg_tbl, vwCl, Gr) M_H_end d [.ref a, .int (xs (j + 1))] h (some (.int v), h1)) (hm : ip_RnM l (lg_tbl, vwCl, Gr) M_Mo_end d [.ref m, .int (xs (j + 1))] h1 (some (.int v), h2))
    (kk : ip_Rn l (lg_tbl, vwCl, Gr) M_La_law (d + 1) 787 [some (.ref 0), some (.ref a), some (.ref m), some (.int (nI j))] [] h2 r) : ip_Rn l (lg_tbl, vwCl, Gr) M_La_law (d + 1) 209 [some (.ref 0), some (.ref a), some (.ref m), some (.int (nI j))] [] h r := by
  refine ip_go (G := (lg_tbl, vwCl, Gr)) (ini := false) oV_La_law (fun q => Bool.noConfusion q) 5 (pc' := 214) (L' := [some (.ref 0), some (.ref a), some (.ref m), some (.int (nI j))]) (st' := [.int ((nI j) + 1), .ref 0, .ref a]) (h' := _) rfl ?_
  refine ip_sld (G := (lg_tbl, vwCl, Gr)) (q := j + 1) (oV_La_law.1 (214, .iaload) (ip_lk_mem rfl)) hX hb (nI_add j 1) (by omega) hL ?_
  refine ip_callV (G := (lg_tbl, vwCl, Gr)) hG.2.2.1 fT oM_H_end (oV_La_law.1 (215, .invokevirtual 26) (ip_lk_mem rfl)) ⟨tt_3 _ (List.mem_of_getElem? (i := 140) rfl) rfl, tt_3 _ (List.mem_of_getElem? (i := 141) rfl) rfl, tt_3 _ (List.mem_of_getElem? (i := 142) rfl) rfl⟩ (n := a) (ci := 11) (As := [.int (xs (j + 1))]) rfl rfl rfl ha (Nat.le_of_ble_eq_true rfl) hc ?_
  refine ip_go (G := (lg_tbl, vwCl, Gr)) (ini := false) oV_La_law (fun q => Bool.noConfusion q) 5 (pc' := 223) (L' := [some (.ref 0), some (.ref a), some (.ref m), some (.int (nI j))]) (st' := [.int ((nI j) + 1), .ref 0, .ref m, .int v]) (h' := _) rfl ?_
  refine ip_sld (G := (lg_tbl, vwCl, Gr)) (q := j + 1) (oV_La_law.1 (223, .iaload) (ip_lk_mem rfl)) hX hb (nI_add j 1) (by omega) hL ?_
  refine ip_callV (G := (lg_tbl, vwCl, Gr)) hG.2.2.1 fT oM_Mo_end (oV_La_law.1 (224, .invokevirtual 30) (ip_lk_mem rfl)) ⟨tt_9 _ (List.mem_of_getElem? (i := 43) rfl) rfl, tt_9 _ (List.mem_of_getElem? (i := 44) rfl) rfl, tt_9 _ (List.mem_of_getElem? (i := 45) rfl) rfl⟩ (n := m) (ci := 12) (As := [.int (xs (j + 1))]) rfl rfl rfl hm1 (Nat.le_of_ble_eq_true rfl) hm ?_
  refine ip_icmp_eq_t (G := (lg_tbl, vwCl, Gr)) (tgt := 787) (oV_La_law.1 (227, .if_icmp .eq 560) (ip_lk_mem rfl)) (by decide) rfl ?_
  exact kk
set_option maxRecDepth 100000 in
theorem lw_2 {l : Launch} {Gr} {d a m j Lx : Nat} {xs : Nat → Int32} {h h1 h2 : ip_H} {fs fs1 : List Value} {r : Option Value × ip_H} (hG : ip_gk (lg_tbl, vwCl, Gr)) (hX : ∀ U : State, ip_X (lg_tbl, vwCl, Gr) U → va_X (ip_O (lg_tbl, vwCl, Gr) 0) Lx xs U U.heap) (hb : ip_O (lg_tbl, vwCl, Gr) 0 < ip_B (lg_tbl, vwCl, Gr)) (hL : Lx < 2 ^ 31) (hj : j + 6 ≤ Lx) (ha : ip_h h a = some (.inr (11, fs))) {v : Int32} (hm1 : ip_h h1 m = some (.inr (12, fs1))) (hc : ip_RnM l (lg_tbl, vwCl, Gr) M_H_compile d [.ref a] h (some (.int v), h1)) (hm : ip_RnM l (lg_tbl, vwCl, Gr) M_Mo_compile d [.ref m] h1 (some (.int v), h2))
    (kk : ip_Rn l (lg_tbl, vwCl, Gr) M_La_law (d + 1) 787 [some (.ref 0), some (.ref a), some (.ref m), some (.int (nI j))] [] h2 r) : ip_Rn l (lg_tbl, vwCl, Gr) M_La_law (d + 1) 232 [some (.ref 0), some (.ref a), some (.ref m), some (.int (nI j))] [] h r := by
  refine ip_go (G := (lg_tbl, vwCl, Gr)) (ini := false) oV_La_law (fun q => Bool.noConfusion q) 1 (pc' := 233) (L' := [some (.ref 0), some (.ref a), some (.ref m), some (.int (nI j))]) (st' := [.ref a]) (h' := _) rfl ?_
  refine ip_callV (G := (lg_tbl, vwCl, Gr)) hG.2.2.1 fT oM_H_compile (oV_La_law.1 (233, .invokevirtual 31) (ip_lk_mem rfl)) ⟨tt_3 _ (List.mem_of_getElem? (i := 153) rfl) rfl, tt_3 _ (List.mem_of_getElem? (i := 154) rfl) rfl, tt_3 _ (List.mem_of_getElem? (i := 155) rfl) rfl⟩ (n := a) (ci := 11) (As := []) rfl rfl rfl ha (Nat.le_of_ble_eq_true rfl) hc ?_
  refine ip_go (G := (lg_tbl, vwCl, Gr)) (ini := false) oV_La_law (fun q => Bool.noConfusion q) 1 (pc' := 237) (L' := [some (.ref 0), some (.ref a), some (.ref m), some (.int (nI j))]) (st' := [.ref m, .int v]) (h' := _) rfl ?_
  refine ip_callV (G := (lg_tbl, vwCl, Gr)) hG.2.2.1 fT oM_Mo_compile (oV_La_law.1 (237, .invokevirtual 35) (ip_lk_mem rfl)) ⟨tt_9 _ (List.mem_of_getElem? (i := 47) rfl) rfl, tt_9 _ (List.mem_of_getElem? (i := 48) rfl) rfl, tt_9 _ (List.mem_of_getElem? (i := 49) rfl) rfl⟩ (n := m) (ci := 12) (As := []) rfl rfl rfl hm1 (Nat.le_of_ble_eq_true rfl) hm ?_
  refine ip_icmp_eq_t (G := (lg_tbl, vwCl, Gr)) (tgt := 787) (oV_La_law.1 (240, .if_icmp .eq 547) (ip_lk_mem rfl)) (by decide) rfl ?_
  exact kk
set_option maxRecDepth 100000 in
theorem lw_3 {l : Launch} {Gr} {d a m j Lx : Nat} {xs : Nat → Int32} {h h1 h2 : ip_H} {fs fs1 : List Value} {r : Option Value × ip_H} (hG : ip_gk (lg_tbl, vwCl, Gr)) (hX : ∀ U : State, ip_X (lg_tbl, vwCl, Gr) U → va_X (ip_O (lg_tbl, vwCl, Gr) 0) Lx xs U U.heap) (hb : ip_O (lg_tbl, vwCl, Gr) 0 < ip_B (lg_tbl, vwCl, Gr)) (hL : Lx < 2 ^ 31) (hj : j + 6 ≤ Lx) (ha : ip_h h a = some (.inr (11, fs))) {v : Int32} (hm1 : ip_h h1 m = some (.inr (12, fs1))) (hc : ip_RnM l (lg_tbl, vwCl, Gr) M_H_look d [.ref a, .int (xs (j + 1))] h (some (.int v), h1)) (hm : ip_RnM l (lg_tbl, vwCl, Gr) M_Mo_look d [.ref m, .int (xs (j + 1))] h1 (some (.int v), h2))
    (kk : ip_Rn l (lg_tbl, vwCl, Gr) M_La_law (d + 1) 787 [some (.ref 0), some (.ref a), some (.ref m), some (.int (nI j))] [] h2 r) : ip_Rn l (lg_tbl, vwCl, Gr) M_La_law (d + 1) 245 [some (.ref 0), some (.ref a), some (.ref m), some (.int (nI j))] [] h r := by
  refine ip_go (G := (lg_tbl, vwCl, Gr)) (ini := false) oV_La_law (fun q => Bool.noConfusion q) 5 (pc' := 250) (L' := [some (.ref 0), some (.ref a), some (.ref m), some (.int (nI j))]) (st' := [.int ((nI j) + 1), .ref 0, .ref a]) (h' := _) rfl ?_
  refine ip_sld (G := (lg_tbl, vwCl, Gr)) (q := j + 1) (oV_La_law.1 (250, .iaload) (ip_lk_mem rfl)) hX hb (nI_add j 1) (by omega) hL ?_
  refine ip_callV (G := (lg_tbl, vwCl, Gr)) hG.2.2.1 fT oM_H_look (oV_La_law.1 (251, .invokevirtual 36) (ip_lk_mem rfl)) ⟨tt_6 _ (List.mem_of_getElem? (i := 50) rfl) rfl, tt_6 _ (List.mem_of_getElem? (i := 51) rfl) rfl, tt_6 _ (List.mem_of_getElem? (i := 52) rfl) rfl⟩ (n := a) (ci := 11) (As := [.int (xs (j + 1))]) rfl rfl rfl ha (Nat.le_of_ble_eq_true rfl) hc ?_
  refine ip_go (G := (lg_tbl, vwCl, Gr)) (ini := false) oV_La_law (fun q => Bool.noConfusion q) 5 (pc' := 259) (L' := [some (.ref 0), some (.ref a), some (.ref m), some (.int (nI j))]) (st' := [.int ((nI j) + 1), .ref 0, .ref m, .int v]) (h' := _) rfl ?_
  refine ip_sld (G := (lg_tbl, vwCl, Gr)) (q := j + 1) (oV_La_law.1 (259, .iaload) (ip_lk_mem rfl)) hX hb (nI_add j 1) (by omega) hL ?_
  refine ip_callV (G := (lg_tbl, vwCl, Gr)) hG.2.2.1 fT oM_Mo_look (oV_La_law.1 (260, .invokevirtual 39) (ip_lk_mem rfl)) ⟨tt_10 _ (List.mem_of_getElem? (i := 207) rfl) rfl, tt_10 _ (List.mem_of_getElem? (i := 208) rfl) rfl, tt_10 _ (List.mem_of_getElem? (i := 209) rfl) rfl⟩ (n := m) (ci := 12) (As := [.int (xs (j + 1))]) rfl rfl rfl hm1 (Nat.le_of_ble_eq_true rfl) hm ?_
  refine ip_icmp_eq_t (G := (lg_tbl, vwCl, Gr)) (tgt := 787) (oV_La_law.1 (263, .if_icmp .eq 524) (ip_lk_mem rfl)) (by decide) rfl ?_
  exact kk
set_option maxRecDepth 100000 in
theorem lw_4 {l : Launch} {Gr} {d a m j Lx : Nat} {xs : Nat → Int32} {h h1 h2 : ip_H} {fs fs1 : List Value} {r : Option Value × ip_H} (hG : ip_gk (lg_tbl, vwCl, Gr)) (hX : ∀ U : State, ip_X (lg_tbl, vwCl, Gr) U → va_X (ip_O (lg_tbl, vwCl, Gr) 0) Lx xs U U.heap) (hb : ip_O (lg_tbl, vwCl, Gr) 0 < ip_B (lg_tbl, vwCl, Gr)) (hL : Lx < 2 ^ 31) (hj : j + 6 ≤ Lx) (ha : ip_h h a = some (.inr (11, fs))) {v : Int32} (hm1 : ip_h h1 m = some (.inr (12, fs1))) (hc : ip_RnM l (lg_tbl, vwCl, Gr) M_H_gate d [.ref a, .int (xs (j + 1)), .int (xs (j + 2))] h (some (.int v), h1)) (hm : ip_RnM l (lg_tbl, vwCl, Gr) M_Mo_gate d [.ref m, .int (xs (j + 1)), .int (xs (j + 2))] h1 (some (.int v), h2))
    (kk : ip_Rn l (lg_tbl, vwCl, Gr) M_La_law (d + 1) 787 [some (.ref 0), some (.ref a), some (.ref m), some (.int (nI j))] [] h2 r) : ip_Rn l (lg_tbl, vwCl, Gr) M_La_law (d + 1) 268 [some (.ref 0), some (.ref a), some (.ref m), some (.int (nI j))] [] h r := by
  refine ip_go (G := (lg_tbl, vwCl, Gr)) (ini := false) oV_La_law (fun q => Bool.noConfusion q) 5 (pc' := 273) (L' := [some (.ref 0), some (.ref a), some (.ref m), some (.int (nI j))]) (st' := [.int ((nI j) + 1), .ref 0, .ref a]) (h' := _) rfl ?_
  refine ip_sld (G := (lg_tbl, vwCl, Gr)) (q := j + 1) (oV_La_law.1 (273, .iaload) (ip_lk_mem rfl)) hX hb (nI_add j 1) (by omega) hL ?_
  refine ip_go (G := (lg_tbl, vwCl, Gr)) (ini := false) oV_La_law (fun q => Bool.noConfusion q) 4 (pc' := 278) (L' := [some (.ref 0), some (.ref a), some (.ref m), some (.int (nI j))]) (st' := [.int ((nI j) + 2), .ref 0, .int (xs (j + 1)), .ref a]) (h' := _) rfl ?_
  refine ip_sld (G := (lg_tbl, vwCl, Gr)) (q := j + 2) (oV_La_law.1 (278, .iaload) (ip_lk_mem rfl)) hX hb (nI_add j 2) (by omega) hL ?_
  refine ip_callV (G := (lg_tbl, vwCl, Gr)) hG.2.2.1 fT oM_H_gate (oV_La_law.1 (279, .invokevirtual 40) (ip_lk_mem rfl)) ⟨tt_6 _ (List.mem_of_getElem? (i := 58) rfl) rfl, tt_6 _ (List.mem_of_getElem? (i := 59) rfl) rfl, tt_6 _ (List.mem_of_getElem? (i := 60) rfl) rfl⟩ (n := a) (ci := 11) (As := [.int (xs (j + 1)), .int (xs (j + 2))]) rfl rfl rfl ha (Nat.le_of_ble_eq_true rfl) hc ?_
  refine ip_go (G := (lg_tbl, vwCl, Gr)) (ini := false) oV_La_law (fun q => Bool.noConfusion q) 5 (pc' := 287) (L' := [some (.ref 0), some (.ref a), some (.ref m), some (.int (nI j))]) (st' := [.int ((nI j) + 1), .ref 0, .ref m, .int v]) (h' := _) rfl ?_
  refine ip_sld (G := (lg_tbl, vwCl, Gr)) (q := j + 1) (oV_La_law.1 (287, .iaload) (ip_lk_mem rfl)) hX hb (nI_add j 1) (by omega) hL ?_
  refine ip_go (G := (lg_tbl, vwCl, Gr)) (ini := false) oV_La_law (fun q => Bool.noConfusion q) 4 (pc' := 292) (L' := [some (.ref 0), some (.ref a), some (.ref m), some (.int (nI j))]) (st' := [.int ((nI j) + 2), .ref 0, .int (xs (j + 1)), .ref m, .int v]) (h' := _) rfl ?_
  refine ip_sld (G := (lg_tbl, vwCl, Gr)) (q := j + 2) (oV_La_law.1 (292, .iaload) (ip_lk_mem rfl)) hX hb (nI_add j 2) (by omega) hL ?_
  refine ip_callV (G := (lg_tbl, vwCl, Gr)) hG.2.2.1 fT oM_Mo_gate (oV_La_law.1 (293, .invokevirtual 44) (ip_lk_mem rfl)) ⟨tt_10 _ (List.mem_of_getElem? (i := 215) rfl) rfl, tt_10 _ (List.mem_of_getElem? (i := 216) rfl) rfl, tt_10 _ (List.mem_of_getElem? (i := 217) rfl) rfl⟩ (n := m) (ci := 12) (As := [.int (xs (j + 1)), .int (xs (j + 2))]) rfl rfl rfl hm1 (Nat.le_of_ble_eq_true rfl) hm ?_
  refine ip_icmp_eq_t (G := (lg_tbl, vwCl, Gr)) (tgt := 787) (oV_La_law.1 (296, .if_icmp .eq 491) (ip_lk_mem rfl)) (by decide) rfl ?_
  exact kk
set_option maxRecDepth 100000 in
theorem lw_5 {l : Launch} {Gr} {d a m j Lx : Nat} {xs : Nat → Int32} {h h1 h2 : ip_H} {fs fs1 : List Value} {r : Option Value × ip_H} (hG : ip_gk (lg_tbl, vwCl, Gr)) (hX : ∀ U : State, ip_X (lg_tbl, vwCl, Gr) U → va_X (ip_O (lg_tbl, vwCl, Gr) 0) Lx xs U U.heap) (hb : ip_O (lg_tbl, vwCl, Gr) 0 < ip_B (lg_tbl, vwCl, Gr)) (hL : Lx < 2 ^ 31) (hj : j + 6 ≤ Lx) (ha : ip_h h a = some (.inr (11, fs))) {v : Int32} (hm1 : ip_h h1 m = some (.inr (12, fs1))) (hc : ip_RnM l (lg_tbl, vwCl, Gr) M_H_literal d [.ref a, .int (xs (j + 1)), .int (xs (j + 2))] h (some (.int v), h1)) (hm : ip_RnM l (lg_tbl, vwCl, Gr) M_Mo_literal d [.ref m, .int (xs (j + 1)), .int (xs (j + 2))] h1 (some (.int v), h2))
    (kk : ip_Rn l (lg_tbl, vwCl, Gr) M_La_law (d + 1) 787 [some (.ref 0), some (.ref a), some (.ref m), some (.int (nI j))] [] h2 r) : ip_Rn l (lg_tbl, vwCl, Gr) M_La_law (d + 1) 301 [some (.ref 0), some (.ref a), some (.ref m), some (.int (nI j))] [] h r := by
  refine ip_go (G := (lg_tbl, vwCl, Gr)) (ini := false) oV_La_law (fun q => Bool.noConfusion q) 5 (pc' := 306) (L' := [some (.ref 0), some (.ref a), some (.ref m), some (.int (nI j))]) (st' := [.int ((nI j) + 1), .ref 0, .ref a]) (h' := _) rfl ?_
  refine ip_sld (G := (lg_tbl, vwCl, Gr)) (q := j + 1) (oV_La_law.1 (306, .iaload) (ip_lk_mem rfl)) hX hb (nI_add j 1) (by omega) hL ?_
  refine ip_go (G := (lg_tbl, vwCl, Gr)) (ini := false) oV_La_law (fun q => Bool.noConfusion q) 4 (pc' := 311) (L' := [some (.ref 0), some (.ref a), some (.ref m), some (.int (nI j))]) (st' := [.int ((nI j) + 2), .ref 0, .int (xs (j + 1)), .ref a]) (h' := _) rfl ?_
  refine ip_sld (G := (lg_tbl, vwCl, Gr)) (q := j + 2) (oV_La_law.1 (311, .iaload) (ip_lk_mem rfl)) hX hb (nI_add j 2) (by omega) hL ?_
  refine ip_callV (G := (lg_tbl, vwCl, Gr)) hG.2.2.1 fT oM_H_literal (oV_La_law.1 (312, .invokevirtual 45) (ip_lk_mem rfl)) ⟨tt_6 _ (List.mem_of_getElem? (i := 62) rfl) rfl, tt_6 _ (List.mem_of_getElem? (i := 63) rfl) rfl, tt_6 _ (List.mem_of_getElem? (i := 64) rfl) rfl⟩ (n := a) (ci := 11) (As := [.int (xs (j + 1)), .int (xs (j + 2))]) rfl rfl rfl ha (Nat.le_of_ble_eq_true rfl) hc ?_
  refine ip_go (G := (lg_tbl, vwCl, Gr)) (ini := false) oV_La_law (fun q => Bool.noConfusion q) 5 (pc' := 320) (L' := [some (.ref 0), some (.ref a), some (.ref m), some (.int (nI j))]) (st' := [.int ((nI j) + 1), .ref 0, .ref m, .int v]) (h' := _) rfl ?_
  refine ip_sld (G := (lg_tbl, vwCl, Gr)) (q := j + 1) (oV_La_law.1 (320, .iaload) (ip_lk_mem rfl)) hX hb (nI_add j 1) (by omega) hL ?_
  refine ip_go (G := (lg_tbl, vwCl, Gr)) (ini := false) oV_La_law (fun q => Bool.noConfusion q) 4 (pc' := 325) (L' := [some (.ref 0), some (.ref a), some (.ref m), some (.int (nI j))]) (st' := [.int ((nI j) + 2), .ref 0, .int (xs (j + 1)), .ref m, .int v]) (h' := _) rfl ?_
  refine ip_sld (G := (lg_tbl, vwCl, Gr)) (q := j + 2) (oV_La_law.1 (325, .iaload) (ip_lk_mem rfl)) hX hb (nI_add j 2) (by omega) hL ?_
  refine ip_callV (G := (lg_tbl, vwCl, Gr)) hG.2.2.1 fT oM_Mo_literal (oV_La_law.1 (326, .invokevirtual 48) (ip_lk_mem rfl)) ⟨tt_10 _ (List.mem_of_getElem? (i := 219) rfl) rfl, tt_10 _ (List.mem_of_getElem? (i := 220) rfl) rfl, tt_10 _ (List.mem_of_getElem? (i := 221) rfl) rfl⟩ (n := m) (ci := 12) (As := [.int (xs (j + 1)), .int (xs (j + 2))]) rfl rfl rfl hm1 (Nat.le_of_ble_eq_true rfl) hm ?_
  refine ip_icmp_eq_t (G := (lg_tbl, vwCl, Gr)) (tgt := 787) (oV_La_law.1 (329, .if_icmp .eq 458) (ip_lk_mem rfl)) (by decide) rfl ?_
  exact kk
set_option maxRecDepth 100000 in
theorem lw_6 {l : Launch} {Gr} {d a m j Lx : Nat} {xs : Nat → Int32} {h h1 h2 : ip_H} {fs fs1 : List Value} {r : Option Value × ip_H} (hG : ip_gk (lg_tbl, vwCl, Gr)) (hX : ∀ U : State, ip_X (lg_tbl, vwCl, Gr) U → va_X (ip_O (lg_tbl, vwCl, Gr) 0) Lx xs U U.heap) (hb : ip_O (lg_tbl, vwCl, Gr) 0 < ip_B (lg_tbl, vwCl, Gr)) (hL : Lx < 2 ^ 31) (hj : j + 6 ≤ Lx) (ha : ip_h h a = some (.inr (11, fs))) {v : Int64} (hm1 : ip_h h1 m = some (.inr (12, fs1))) (hc : ip_RnM l (lg_tbl, vwCl, Gr) M_H_input d [.ref a, .int (xs (j + 1)), .int (xs (j + 2))] h (some (.long v), h1)) (hm : ip_RnM l (lg_tbl, vwCl, Gr) M_Mo_input d [.ref m, .int (xs (j + 1)), .int (xs (j + 2))] h1 (some (.long v), h2))
    (kk : ip_Rn l (lg_tbl, vwCl, Gr) M_La_law (d + 1) 787 [some (.ref 0), some (.ref a), some (.ref m), some (.int (nI j))] [] h2 r) : ip_Rn l (lg_tbl, vwCl, Gr) M_La_law (d + 1) 334 [some (.ref 0), some (.ref a), some (.ref m), some (.int (nI j))] [] h r := by
  refine ip_go (G := (lg_tbl, vwCl, Gr)) (ini := false) oV_La_law (fun q => Bool.noConfusion q) 5 (pc' := 339) (L' := [some (.ref 0), some (.ref a), some (.ref m), some (.int (nI j))]) (st' := [.int ((nI j) + 1), .ref 0, .ref a]) (h' := _) rfl ?_
  refine ip_sld (G := (lg_tbl, vwCl, Gr)) (q := j + 1) (oV_La_law.1 (339, .iaload) (ip_lk_mem rfl)) hX hb (nI_add j 1) (by omega) hL ?_
  refine ip_go (G := (lg_tbl, vwCl, Gr)) (ini := false) oV_La_law (fun q => Bool.noConfusion q) 4 (pc' := 344) (L' := [some (.ref 0), some (.ref a), some (.ref m), some (.int (nI j))]) (st' := [.int ((nI j) + 2), .ref 0, .int (xs (j + 1)), .ref a]) (h' := _) rfl ?_
  refine ip_sld (G := (lg_tbl, vwCl, Gr)) (q := j + 2) (oV_La_law.1 (344, .iaload) (ip_lk_mem rfl)) hX hb (nI_add j 2) (by omega) hL ?_
  refine ip_callV (G := (lg_tbl, vwCl, Gr)) hG.2.2.1 fT oM_H_input (oV_La_law.1 (345, .invokevirtual 49) (ip_lk_mem rfl)) ⟨tt_6 _ (List.mem_of_getElem? (i := 78) rfl) rfl, tt_6 _ (List.mem_of_getElem? (i := 79) rfl) rfl, tt_6 _ (List.mem_of_getElem? (i := 80) rfl) rfl⟩ (n := a) (ci := 11) (As := [.int (xs (j + 1)), .int (xs (j + 2))]) rfl rfl rfl ha (Nat.le_of_ble_eq_true rfl) hc ?_
  refine ip_go (G := (lg_tbl, vwCl, Gr)) (ini := false) oV_La_law (fun q => Bool.noConfusion q) 5 (pc' := 353) (L' := [some (.ref 0), some (.ref a), some (.ref m), some (.int (nI j))]) (st' := [.int ((nI j) + 1), .ref 0, .ref m, .long v]) (h' := _) rfl ?_
  refine ip_sld (G := (lg_tbl, vwCl, Gr)) (q := j + 1) (oV_La_law.1 (353, .iaload) (ip_lk_mem rfl)) hX hb (nI_add j 1) (by omega) hL ?_
  refine ip_go (G := (lg_tbl, vwCl, Gr)) (ini := false) oV_La_law (fun q => Bool.noConfusion q) 4 (pc' := 358) (L' := [some (.ref 0), some (.ref a), some (.ref m), some (.int (nI j))]) (st' := [.int ((nI j) + 2), .ref 0, .int (xs (j + 1)), .ref m, .long v]) (h' := _) rfl ?_
  refine ip_sld (G := (lg_tbl, vwCl, Gr)) (q := j + 2) (oV_La_law.1 (358, .iaload) (ip_lk_mem rfl)) hX hb (nI_add j 2) (by omega) hL ?_
  refine ip_callV (G := (lg_tbl, vwCl, Gr)) hG.2.2.1 fT oM_Mo_input (oV_La_law.1 (359, .invokevirtual 53) (ip_lk_mem rfl)) ⟨tt_10 _ (List.mem_of_getElem? (i := 223) rfl) rfl, tt_10 _ (List.mem_of_getElem? (i := 224) rfl) rfl, tt_10 _ (List.mem_of_getElem? (i := 225) rfl) rfl⟩ (n := m) (ci := 12) (As := [.int (xs (j + 1)), .int (xs (j + 2))]) rfl rfl rfl hm1 (Nat.le_of_ble_eq_true rfl) hm ?_
  refine ip_lcmp (G := (lg_tbl, vwCl, Gr)) (oV_La_law.1 (362, .lcmp) (ip_lk_mem rfl)) ?_
  rw [show lg_cmp v v = 0 from by simp [lg_cmp]]
  refine ip_if_eq_t (G := (lg_tbl, vwCl, Gr)) (tgt := 787) (oV_La_law.1 (363, .ifCond .eq 424) (ip_lk_mem rfl)) (by decide) rfl ?_
  exact kk
set_option maxRecDepth 100000 in
theorem lw_7 {l : Launch} {Gr} {d a m j Lx : Nat} {xs : Nat → Int32} {h h1 h2 : ip_H} {fs fs1 : List Value} {r : Option Value × ip_H} (hG : ip_gk (lg_tbl, vwCl, Gr)) (hX : ∀ U : State, ip_X (lg_tbl, vwCl, Gr) U → va_X (ip_O (lg_tbl, vwCl, Gr) 0) Lx xs U U.heap) (hb : ip_O (lg_tbl, vwCl, Gr) 0 < ip_B (lg_tbl, vwCl, Gr)) (hL : Lx < 2 ^ 31) (hj : j + 6 ≤ Lx) (ha : ip_h h a = some (.inr (11, fs))) {v : Int32} (hm1 : ip_h h1 m = some (.inr (12, fs1))) (hc : ip_RnM l (lg_tbl, vwCl, Gr) M_H_give d [.ref a, .int (xs (j + 1)), .int (xs (j + 2))] h (some (.int v), h1)) (hm : ip_RnM l (lg_tbl, vwCl, Gr) M_Mo_give d [.ref m, .int (xs (j + 1)), .int (xs (j + 2))] h1 (some (.int v), h2))
    (kk : ip_Rn l (lg_tbl, vwCl, Gr) M_La_law (d + 1) 787 [some (.ref 0), some (.ref a), some (.ref m), some (.int (nI j))] [] h2 r) : ip_Rn l (lg_tbl, vwCl, Gr) M_La_law (d + 1) 368 [some (.ref 0), some (.ref a), some (.ref m), some (.int (nI j))] [] h r := by
  refine ip_go (G := (lg_tbl, vwCl, Gr)) (ini := false) oV_La_law (fun q => Bool.noConfusion q) 5 (pc' := 373) (L' := [some (.ref 0), some (.ref a), some (.ref m), some (.int (nI j))]) (st' := [.int ((nI j) + 1), .ref 0, .ref a]) (h' := _) rfl ?_
  refine ip_sld (G := (lg_tbl, vwCl, Gr)) (q := j + 1) (oV_La_law.1 (373, .iaload) (ip_lk_mem rfl)) hX hb (nI_add j 1) (by omega) hL ?_
  refine ip_go (G := (lg_tbl, vwCl, Gr)) (ini := false) oV_La_law (fun q => Bool.noConfusion q) 4 (pc' := 378) (L' := [some (.ref 0), some (.ref a), some (.ref m), some (.int (nI j))]) (st' := [.int ((nI j) + 2), .ref 0, .int (xs (j + 1)), .ref a]) (h' := _) rfl ?_
  refine ip_sld (G := (lg_tbl, vwCl, Gr)) (q := j + 2) (oV_La_law.1 (378, .iaload) (ip_lk_mem rfl)) hX hb (nI_add j 2) (by omega) hL ?_
  refine ip_callV (G := (lg_tbl, vwCl, Gr)) hG.2.2.1 fT oM_H_give (oV_La_law.1 (379, .invokevirtual 54) (ip_lk_mem rfl)) ⟨tt_6 _ (List.mem_of_getElem? (i := 84) rfl) rfl, tt_6 _ (List.mem_of_getElem? (i := 85) rfl) rfl, tt_6 _ (List.mem_of_getElem? (i := 86) rfl) rfl⟩ (n := a) (ci := 11) (As := [.int (xs (j + 1)), .int (xs (j + 2))]) rfl rfl rfl ha (Nat.le_of_ble_eq_true rfl) hc ?_
  refine ip_go (G := (lg_tbl, vwCl, Gr)) (ini := false) oV_La_law (fun q => Bool.noConfusion q) 5 (pc' := 387) (L' := [some (.ref 0), some (.ref a), some (.ref m), some (.int (nI j))]) (st' := [.int ((nI j) + 1), .ref 0, .ref m, .int v]) (h' := _) rfl ?_
  refine ip_sld (G := (lg_tbl, vwCl, Gr)) (q := j + 1) (oV_La_law.1 (387, .iaload) (ip_lk_mem rfl)) hX hb (nI_add j 1) (by omega) hL ?_
  refine ip_go (G := (lg_tbl, vwCl, Gr)) (ini := false) oV_La_law (fun q => Bool.noConfusion q) 4 (pc' := 392) (L' := [some (.ref 0), some (.ref a), some (.ref m), some (.int (nI j))]) (st' := [.int ((nI j) + 2), .ref 0, .int (xs (j + 1)), .ref m, .int v]) (h' := _) rfl ?_
  refine ip_sld (G := (lg_tbl, vwCl, Gr)) (q := j + 2) (oV_La_law.1 (392, .iaload) (ip_lk_mem rfl)) hX hb (nI_add j 2) (by omega) hL ?_
  refine ip_callV (G := (lg_tbl, vwCl, Gr)) hG.2.2.1 fT oM_Mo_give (oV_La_law.1 (393, .invokevirtual 58) (ip_lk_mem rfl)) ⟨tt_10 _ (List.mem_of_getElem? (i := 228) rfl) rfl, tt_10 _ (List.mem_of_getElem? (i := 229) rfl) rfl, tt_10 _ (List.mem_of_getElem? (i := 230) rfl) rfl⟩ (n := m) (ci := 12) (As := [.int (xs (j + 1)), .int (xs (j + 2))]) rfl rfl rfl hm1 (Nat.le_of_ble_eq_true rfl) hm ?_
  refine ip_icmp_eq_t (G := (lg_tbl, vwCl, Gr)) (tgt := 787) (oV_La_law.1 (396, .if_icmp .eq 391) (ip_lk_mem rfl)) (by decide) rfl ?_
  exact kk
set_option maxRecDepth 100000 in
theorem lw_8 {l : Launch} {Gr} {d a m j Lx : Nat} {xs : Nat → Int32} {h h1 h2 : ip_H} {fs fs1 : List Value} {r : Option Value × ip_H} (hG : ip_gk (lg_tbl, vwCl, Gr)) (hX : ∀ U : State, ip_X (lg_tbl, vwCl, Gr) U → va_X (ip_O (lg_tbl, vwCl, Gr) 0) Lx xs U U.heap) (hb : ip_O (lg_tbl, vwCl, Gr) 0 < ip_B (lg_tbl, vwCl, Gr)) (hL : Lx < 2 ^ 31) (hj : j + 6 ≤ Lx) (ha : ip_h h a = some (.inr (11, fs))) (hm1 : ip_h h1 m = some (.inr (12, fs1))) (hc : ip_RnM l (lg_tbl, vwCl, Gr) M_H_seed d [.ref a, .int (xs (j + 1))] h (none, h1)) (hm : ip_RnM l (lg_tbl, vwCl, Gr) M_Mo_seed d [.ref m, .int (xs (j + 1))] h1 (none, h2))
    (kk : ip_Rn l (lg_tbl, vwCl, Gr) M_La_law (d + 1) 787 [some (.ref 0), some (.ref a), some (.ref m), some (.int (nI j))] [] h2 r) : ip_Rn l (lg_tbl, vwCl, Gr) M_La_law (d + 1) 401 [some (.ref 0), some (.ref a), some (.ref m), some (.int (nI j))] [] h r := by
  refine ip_go (G := (lg_tbl, vwCl, Gr)) (ini := false) oV_La_law (fun q => Bool.noConfusion q) 5 (pc' := 406) (L' := [some (.ref 0), some (.ref a), some (.ref m), some (.int (nI j))]) (st' := [.int ((nI j) + 1), .ref 0, .ref a]) (h' := _) rfl ?_
  refine ip_sld (G := (lg_tbl, vwCl, Gr)) (q := j + 1) (oV_La_law.1 (406, .iaload) (ip_lk_mem rfl)) hX hb (nI_add j 1) (by omega) hL ?_
  refine ip_callV (G := (lg_tbl, vwCl, Gr)) hG.2.2.1 fT oM_H_seed (oV_La_law.1 (407, .invokevirtual 59) (ip_lk_mem rfl)) ⟨tt_6 _ (List.mem_of_getElem? (i := 88) rfl) rfl, tt_6 _ (List.mem_of_getElem? (i := 89) rfl) rfl, tt_6 _ (List.mem_of_getElem? (i := 90) rfl) rfl⟩ (n := a) (ci := 11) (As := [.int (xs (j + 1))]) rfl rfl rfl ha (Nat.le_of_ble_eq_true rfl) hc ?_
  refine ip_go (G := (lg_tbl, vwCl, Gr)) (ini := false) oV_La_law (fun q => Bool.noConfusion q) 5 (pc' := 415) (L' := [some (.ref 0), some (.ref a), some (.ref m), some (.int (nI j))]) (st' := [.int ((nI j) + 1), .ref 0, .ref m]) (h' := _) rfl ?_
  refine ip_sld (G := (lg_tbl, vwCl, Gr)) (q := j + 1) (oV_La_law.1 (415, .iaload) (ip_lk_mem rfl)) hX hb (nI_add j 1) (by omega) hL ?_
  refine ip_callV (G := (lg_tbl, vwCl, Gr)) hG.2.2.1 fT oM_Mo_seed (oV_La_law.1 (416, .invokevirtual 63) (ip_lk_mem rfl)) ⟨tt_10 _ (List.mem_of_getElem? (i := 232) rfl) rfl, tt_10 _ (List.mem_of_getElem? (i := 233) rfl) rfl, tt_10 _ (List.mem_of_getElem? (i := 234) rfl) rfl⟩ (n := m) (ci := 12) (As := [.int (xs (j + 1))]) rfl rfl rfl hm1 (Nat.le_of_ble_eq_true rfl) hm ?_
  refine ip_goto (G := (lg_tbl, vwCl, Gr)) (tgt := 787) (oV_La_law.1 (419, .goto 368) (ip_lk_mem rfl)) (by decide) ?_
  exact kk
set_option maxRecDepth 100000 in
theorem lw_9 {l : Launch} {Gr} {d a m j Lx : Nat} {xs : Nat → Int32} {h h1 h2 : ip_H} {fs fs1 : List Value} {r : Option Value × ip_H} (hG : ip_gk (lg_tbl, vwCl, Gr)) (hX : ∀ U : State, ip_X (lg_tbl, vwCl, Gr) U → va_X (ip_O (lg_tbl, vwCl, Gr) 0) Lx xs U U.heap) (hb : ip_O (lg_tbl, vwCl, Gr) 0 < ip_B (lg_tbl, vwCl, Gr)) (hL : Lx < 2 ^ 31) (hj : j + 6 ≤ Lx) (ha : ip_h h a = some (.inr (11, fs))) {v : Int32} (hm1 : ip_h h1 m = some (.inr (12, fs1))) (hc : ip_RnM l (lg_tbl, vwCl, Gr) M_H_draws d [.ref a, .long ((((xs (j + 1))).toInt64 <<< ((32 : Int32).toInt64 &&& 63)) ||| (((xs (j + 2))).toInt64 &&& 4294967295)), .int (xs (j + 3))] h (some (.int v), h1)) (hm : ip_RnM l (lg_tbl, vwCl, Gr) M_Mo_draws d [.ref m, .long ((((xs (j + 1))).toInt64 <<< ((32 : Int32).toInt64 &&& 63)) ||| (((xs (j + 2))).toInt64 &&& 4294967295)), .int (xs (j + 3))] h1 (some (.int v), h2))
    (kk : ip_Rn l (lg_tbl, vwCl, Gr) M_La_law (d + 1) 787 [some (.ref 0), some (.ref a), some (.ref m), some (.int (nI j))] [] h2 r) : ip_Rn l (lg_tbl, vwCl, Gr) M_La_law (d + 1) 422 [some (.ref 0), some (.ref a), some (.ref m), some (.int (nI j))] [] h r := by
  refine ip_go (G := (lg_tbl, vwCl, Gr)) (ini := false) oV_La_law (fun q => Bool.noConfusion q) 5 (pc' := 427) (L' := [some (.ref 0), some (.ref a), some (.ref m), some (.int (nI j))]) (st' := [.int ((nI j) + 1), .ref 0, .ref a]) (h' := _) rfl ?_
  refine ip_sld (G := (lg_tbl, vwCl, Gr)) (q := j + 1) (oV_La_law.1 (427, .iaload) (ip_lk_mem rfl)) hX hb (nI_add j 1) (by omega) hL ?_
  refine ip_go (G := (lg_tbl, vwCl, Gr)) (ini := false) oV_La_law (fun q => Bool.noConfusion q) 7 (pc' := 436) (L' := [some (.ref 0), some (.ref a), some (.ref m), some (.int (nI j))]) (st' := [.int ((nI j) + 2), .ref 0, .long (((xs (j + 1))).toInt64 <<< ((32 : Int32).toInt64 &&& 63)), .ref a]) (h' := _) rfl ?_
  refine ip_sld (G := (lg_tbl, vwCl, Gr)) (q := j + 2) (oV_La_law.1 (436, .iaload) (ip_lk_mem rfl)) hX hb (nI_add j 2) (by omega) hL ?_
  refine ip_go (G := (lg_tbl, vwCl, Gr)) (ini := false) oV_La_law (fun q => Bool.noConfusion q) 8 (pc' := 447) (L' := [some (.ref 0), some (.ref a), some (.ref m), some (.int (nI j))]) (st' := [.int ((nI j) + 3), .ref 0, .long ((((xs (j + 1))).toInt64 <<< ((32 : Int32).toInt64 &&& 63)) ||| (((xs (j + 2))).toInt64 &&& 4294967295)), .ref a]) (h' := _) rfl ?_
  refine ip_sld (G := (lg_tbl, vwCl, Gr)) (q := j + 3) (oV_La_law.1 (447, .iaload) (ip_lk_mem rfl)) hX hb (nI_add j 3) (by omega) hL ?_
  refine ip_callV (G := (lg_tbl, vwCl, Gr)) hG.2.2.1 fT oM_H_draws (oV_La_law.1 (448, .invokevirtual 66) (ip_lk_mem rfl)) ⟨tt_6 _ (List.mem_of_getElem? (i := 92) rfl) rfl, tt_6 _ (List.mem_of_getElem? (i := 93) rfl) rfl, tt_6 _ (List.mem_of_getElem? (i := 94) rfl) rfl⟩ (n := a) (ci := 11) (As := [.long ((((xs (j + 1))).toInt64 <<< ((32 : Int32).toInt64 &&& 63)) ||| (((xs (j + 2))).toInt64 &&& 4294967295)), .int (xs (j + 3))]) rfl rfl rfl ha (Nat.le_of_ble_eq_true rfl) hc ?_
  refine ip_go (G := (lg_tbl, vwCl, Gr)) (ini := false) oV_La_law (fun q => Bool.noConfusion q) 5 (pc' := 456) (L' := [some (.ref 0), some (.ref a), some (.ref m), some (.int (nI j))]) (st' := [.int ((nI j) + 1), .ref 0, .ref m, .int v]) (h' := _) rfl ?_
  refine ip_sld (G := (lg_tbl, vwCl, Gr)) (q := j + 1) (oV_La_law.1 (456, .iaload) (ip_lk_mem rfl)) hX hb (nI_add j 1) (by omega) hL ?_
  refine ip_go (G := (lg_tbl, vwCl, Gr)) (ini := false) oV_La_law (fun q => Bool.noConfusion q) 7 (pc' := 465) (L' := [some (.ref 0), some (.ref a), some (.ref m), some (.int (nI j))]) (st' := [.int ((nI j) + 2), .ref 0, .long (((xs (j + 1))).toInt64 <<< ((32 : Int32).toInt64 &&& 63)), .ref m, .int v]) (h' := _) rfl ?_
  refine ip_sld (G := (lg_tbl, vwCl, Gr)) (q := j + 2) (oV_La_law.1 (465, .iaload) (ip_lk_mem rfl)) hX hb (nI_add j 2) (by omega) hL ?_
  refine ip_go (G := (lg_tbl, vwCl, Gr)) (ini := false) oV_La_law (fun q => Bool.noConfusion q) 8 (pc' := 476) (L' := [some (.ref 0), some (.ref a), some (.ref m), some (.int (nI j))]) (st' := [.int ((nI j) + 3), .ref 0, .long ((((xs (j + 1))).toInt64 <<< ((32 : Int32).toInt64 &&& 63)) ||| (((xs (j + 2))).toInt64 &&& 4294967295)), .ref m, .int v]) (h' := _) rfl ?_
  refine ip_sld (G := (lg_tbl, vwCl, Gr)) (q := j + 3) (oV_La_law.1 (476, .iaload) (ip_lk_mem rfl)) hX hb (nI_add j 3) (by omega) hL ?_
  refine ip_callV (G := (lg_tbl, vwCl, Gr)) hG.2.2.1 fT oM_Mo_draws (oV_La_law.1 (477, .invokevirtual 70) (ip_lk_mem rfl)) ⟨tt_10 _ (List.mem_of_getElem? (i := 236) rfl) rfl, tt_10 _ (List.mem_of_getElem? (i := 237) rfl) rfl, tt_10 _ (List.mem_of_getElem? (i := 238) rfl) rfl⟩ (n := m) (ci := 12) (As := [.long ((((xs (j + 1))).toInt64 <<< ((32 : Int32).toInt64 &&& 63)) ||| (((xs (j + 2))).toInt64 &&& 4294967295)), .int (xs (j + 3))]) rfl rfl rfl hm1 (Nat.le_of_ble_eq_true rfl) hm ?_
  refine ip_icmp_eq_t (G := (lg_tbl, vwCl, Gr)) (tgt := 787) (oV_La_law.1 (480, .if_icmp .eq 307) (ip_lk_mem rfl)) (by decide) rfl ?_
  exact kk
set_option maxRecDepth 100000 in
theorem lw_10 {l : Launch} {Gr} {d a m j Lx : Nat} {xs : Nat → Int32} {h h1 h2 : ip_H} {fs fs1 : List Value} {r : Option Value × ip_H} (hG : ip_gk (lg_tbl, vwCl, Gr)) (hX : ∀ U : State, ip_X (lg_tbl, vwCl, Gr) U → va_X (ip_O (lg_tbl, vwCl, Gr) 0) Lx xs U U.heap) (hb : ip_O (lg_tbl, vwCl, Gr) 0 < ip_B (lg_tbl, vwCl, Gr)) (hL : Lx < 2 ^ 31) (hj : j + 6 ≤ Lx) (ha : ip_h h a = some (.inr (11, fs))) {v : Int32} (hm1 : ip_h h1 m = some (.inr (12, fs1))) (hc : ip_RnM l (lg_tbl, vwCl, Gr) M_H_deal d [.ref a] h (some (.int v), h1)) (hm : ip_RnM l (lg_tbl, vwCl, Gr) M_Mo_deal d [.ref m] h1 (some (.int v), h2))
    (kk : ip_Rn l (lg_tbl, vwCl, Gr) M_La_law (d + 1) 787 [some (.ref 0), some (.ref a), some (.ref m), some (.int (nI j))] [] h2 r) : ip_Rn l (lg_tbl, vwCl, Gr) M_La_law (d + 1) 485 [some (.ref 0), some (.ref a), some (.ref m), some (.int (nI j))] [] h r := by
  refine ip_go (G := (lg_tbl, vwCl, Gr)) (ini := false) oV_La_law (fun q => Bool.noConfusion q) 1 (pc' := 486) (L' := [some (.ref 0), some (.ref a), some (.ref m), some (.int (nI j))]) (st' := [.ref a]) (h' := _) rfl ?_
  refine ip_callV (G := (lg_tbl, vwCl, Gr)) hG.2.2.1 fT oM_H_deal (oV_La_law.1 (486, .invokevirtual 71) (ip_lk_mem rfl)) ⟨tt_6 _ (List.mem_of_getElem? (i := 100) rfl) rfl, tt_6 _ (List.mem_of_getElem? (i := 101) rfl) rfl, tt_6 _ (List.mem_of_getElem? (i := 102) rfl) rfl⟩ (n := a) (ci := 11) (As := []) rfl rfl rfl ha (Nat.le_of_ble_eq_true rfl) hc ?_
  refine ip_go (G := (lg_tbl, vwCl, Gr)) (ini := false) oV_La_law (fun q => Bool.noConfusion q) 1 (pc' := 490) (L' := [some (.ref 0), some (.ref a), some (.ref m), some (.int (nI j))]) (st' := [.ref m, .int v]) (h' := _) rfl ?_
  refine ip_callV (G := (lg_tbl, vwCl, Gr)) hG.2.2.1 fT oM_Mo_deal (oV_La_law.1 (490, .invokevirtual 75) (ip_lk_mem rfl)) ⟨tt_11 _ (List.mem_of_getElem? (i := 0) rfl) rfl, tt_11 _ (List.mem_of_getElem? (i := 1) rfl) rfl, tt_11 _ (List.mem_of_getElem? (i := 2) rfl) rfl⟩ (n := m) (ci := 12) (As := []) rfl rfl rfl hm1 (Nat.le_of_ble_eq_true rfl) hm ?_
  refine ip_icmp_eq_t (G := (lg_tbl, vwCl, Gr)) (tgt := 787) (oV_La_law.1 (493, .if_icmp .eq 294) (ip_lk_mem rfl)) (by decide) rfl ?_
  exact kk
set_option maxRecDepth 100000 in
theorem lw_11 {l : Launch} {Gr} {d a m j Lx : Nat} {xs : Nat → Int32} {h h1 h2 : ip_H} {fs fs1 : List Value} {r : Option Value × ip_H} (hG : ip_gk (lg_tbl, vwCl, Gr)) (hX : ∀ U : State, ip_X (lg_tbl, vwCl, Gr) U → va_X (ip_O (lg_tbl, vwCl, Gr) 0) Lx xs U U.heap) (hb : ip_O (lg_tbl, vwCl, Gr) 0 < ip_B (lg_tbl, vwCl, Gr)) (hL : Lx < 2 ^ 31) (hj : j + 6 ≤ Lx) (ha : ip_h h a = some (.inr (11, fs))) {v : Int32} (hm1 : ip_h h1 m = some (.inr (12, fs1))) (hc : ip_RnM l (lg_tbl, vwCl, Gr) M_H_message d [.ref a, .int (xs (j + 1)), .int (xs (j + 2))] h (some (.int v), h1)) (hm : ip_RnM l (lg_tbl, vwCl, Gr) M_Mo_message d [.ref m, .int (xs (j + 1)), .int (xs (j + 2))] h1 (some (.int v), h2))
    (kk : ip_Rn l (lg_tbl, vwCl, Gr) M_La_law (d + 1) 787 [some (.ref 0), some (.ref a), some (.ref m), some (.int (nI j))] [] h2 r) : ip_Rn l (lg_tbl, vwCl, Gr) M_La_law (d + 1) 498 [some (.ref 0), some (.ref a), some (.ref m), some (.int (nI j))] [] h r := by
  refine ip_go (G := (lg_tbl, vwCl, Gr)) (ini := false) oV_La_law (fun q => Bool.noConfusion q) 5 (pc' := 503) (L' := [some (.ref 0), some (.ref a), some (.ref m), some (.int (nI j))]) (st' := [.int ((nI j) + 1), .ref 0, .ref a]) (h' := _) rfl ?_
  refine ip_sld (G := (lg_tbl, vwCl, Gr)) (q := j + 1) (oV_La_law.1 (503, .iaload) (ip_lk_mem rfl)) hX hb (nI_add j 1) (by omega) hL ?_
  refine ip_go (G := (lg_tbl, vwCl, Gr)) (ini := false) oV_La_law (fun q => Bool.noConfusion q) 4 (pc' := 508) (L' := [some (.ref 0), some (.ref a), some (.ref m), some (.int (nI j))]) (st' := [.int ((nI j) + 2), .ref 0, .int (xs (j + 1)), .ref a]) (h' := _) rfl ?_
  refine ip_sld (G := (lg_tbl, vwCl, Gr)) (q := j + 2) (oV_La_law.1 (508, .iaload) (ip_lk_mem rfl)) hX hb (nI_add j 2) (by omega) hL ?_
  refine ip_callV (G := (lg_tbl, vwCl, Gr)) hG.2.2.1 fT oM_H_message (oV_La_law.1 (509, .invokevirtual 76) (ip_lk_mem rfl)) ⟨tt_6 _ (List.mem_of_getElem? (i := 168) rfl) rfl, tt_6 _ (List.mem_of_getElem? (i := 169) rfl) rfl, tt_6 _ (List.mem_of_getElem? (i := 170) rfl) rfl⟩ (n := a) (ci := 11) (As := [.int (xs (j + 1)), .int (xs (j + 2))]) rfl rfl rfl ha (Nat.le_of_ble_eq_true rfl) hc ?_
  refine ip_go (G := (lg_tbl, vwCl, Gr)) (ini := false) oV_La_law (fun q => Bool.noConfusion q) 5 (pc' := 517) (L' := [some (.ref 0), some (.ref a), some (.ref m), some (.int (nI j))]) (st' := [.int ((nI j) + 1), .ref 0, .ref m, .int v]) (h' := _) rfl ?_
  refine ip_sld (G := (lg_tbl, vwCl, Gr)) (q := j + 1) (oV_La_law.1 (517, .iaload) (ip_lk_mem rfl)) hX hb (nI_add j 1) (by omega) hL ?_
  refine ip_go (G := (lg_tbl, vwCl, Gr)) (ini := false) oV_La_law (fun q => Bool.noConfusion q) 4 (pc' := 522) (L' := [some (.ref 0), some (.ref a), some (.ref m), some (.int (nI j))]) (st' := [.int ((nI j) + 2), .ref 0, .int (xs (j + 1)), .ref m, .int v]) (h' := _) rfl ?_
  refine ip_sld (G := (lg_tbl, vwCl, Gr)) (q := j + 2) (oV_La_law.1 (522, .iaload) (ip_lk_mem rfl)) hX hb (nI_add j 2) (by omega) hL ?_
  refine ip_callV (G := (lg_tbl, vwCl, Gr)) hG.2.2.1 fT oM_Mo_message (oV_La_law.1 (523, .invokevirtual 79) (ip_lk_mem rfl)) ⟨tt_11 _ (List.mem_of_getElem? (i := 25) rfl) rfl, tt_11 _ (List.mem_of_getElem? (i := 26) rfl) rfl, tt_11 _ (List.mem_of_getElem? (i := 27) rfl) rfl⟩ (n := m) (ci := 12) (As := [.int (xs (j + 1)), .int (xs (j + 2))]) rfl rfl rfl hm1 (Nat.le_of_ble_eq_true rfl) hm ?_
  refine ip_icmp_eq_t (G := (lg_tbl, vwCl, Gr)) (tgt := 787) (oV_La_law.1 (526, .if_icmp .eq 261) (ip_lk_mem rfl)) (by decide) rfl ?_
  exact kk
set_option maxRecDepth 100000 in
theorem lw_12 {l : Launch} {Gr} {d a m j Lx : Nat} {xs : Nat → Int32} {h h1 h2 : ip_H} {fs fs1 : List Value} {r : Option Value × ip_H} (hG : ip_gk (lg_tbl, vwCl, Gr)) (hX : ∀ U : State, ip_X (lg_tbl, vwCl, Gr) U → va_X (ip_O (lg_tbl, vwCl, Gr) 0) Lx xs U U.heap) (hb : ip_O (lg_tbl, vwCl, Gr) 0 < ip_B (lg_tbl, vwCl, Gr)) (hL : Lx < 2 ^ 31) (hj : j + 6 ≤ Lx) (ha : ip_h h a = some (.inr (11, fs))) {v : Int32} (hm1 : ip_h h1 m = some (.inr (12, fs1))) (hc : ip_RnM l (lg_tbl, vwCl, Gr) M_H_deliver d [.ref a, .int (xs (j + 1))] h (some (.int v), h1)) (hm : ip_RnM l (lg_tbl, vwCl, Gr) M_Mo_deliver d [.ref m, .int (xs (j + 1))] h1 (some (.int v), h2))
    (kk : ip_Rn l (lg_tbl, vwCl, Gr) M_La_law (d + 1) 787 [some (.ref 0), some (.ref a), some (.ref m), some (.int (nI j))] [] h2 r) : ip_Rn l (lg_tbl, vwCl, Gr) M_La_law (d + 1) 531 [some (.ref 0), some (.ref a), some (.ref m), some (.int (nI j))] [] h r := by
  refine ip_go (G := (lg_tbl, vwCl, Gr)) (ini := false) oV_La_law (fun q => Bool.noConfusion q) 5 (pc' := 536) (L' := [some (.ref 0), some (.ref a), some (.ref m), some (.int (nI j))]) (st' := [.int ((nI j) + 1), .ref 0, .ref a]) (h' := _) rfl ?_
  refine ip_sld (G := (lg_tbl, vwCl, Gr)) (q := j + 1) (oV_La_law.1 (536, .iaload) (ip_lk_mem rfl)) hX hb (nI_add j 1) (by omega) hL ?_
  refine ip_callV (G := (lg_tbl, vwCl, Gr)) hG.2.2.1 fT oM_H_deliver (oV_La_law.1 (537, .invokevirtual 80) (ip_lk_mem rfl)) ⟨tt_6 _ (List.mem_of_getElem? (i := 221) rfl) rfl, tt_6 _ (List.mem_of_getElem? (i := 222) rfl) rfl, tt_6 _ (List.mem_of_getElem? (i := 223) rfl) rfl⟩ (n := a) (ci := 11) (As := [.int (xs (j + 1))]) rfl rfl rfl ha (Nat.le_of_ble_eq_true rfl) hc ?_
  refine ip_go (G := (lg_tbl, vwCl, Gr)) (ini := false) oV_La_law (fun q => Bool.noConfusion q) 5 (pc' := 545) (L' := [some (.ref 0), some (.ref a), some (.ref m), some (.int (nI j))]) (st' := [.int ((nI j) + 1), .ref 0, .ref m, .int v]) (h' := _) rfl ?_
  refine ip_sld (G := (lg_tbl, vwCl, Gr)) (q := j + 1) (oV_La_law.1 (545, .iaload) (ip_lk_mem rfl)) hX hb (nI_add j 1) (by omega) hL ?_
  refine ip_callV (G := (lg_tbl, vwCl, Gr)) hG.2.2.1 fT oM_Mo_deliver (oV_La_law.1 (546, .invokevirtual 83) (ip_lk_mem rfl)) ⟨tt_11 _ (List.mem_of_getElem? (i := 37) rfl) rfl, tt_11 _ (List.mem_of_getElem? (i := 38) rfl) rfl, tt_11 _ (List.mem_of_getElem? (i := 39) rfl) rfl⟩ (n := m) (ci := 12) (As := [.int (xs (j + 1))]) rfl rfl rfl hm1 (Nat.le_of_ble_eq_true rfl) hm ?_
  refine ip_icmp_eq_t (G := (lg_tbl, vwCl, Gr)) (tgt := 787) (oV_La_law.1 (549, .if_icmp .eq 238) (ip_lk_mem rfl)) (by decide) rfl ?_
  exact kk
set_option maxRecDepth 100000 in
theorem lw_13 {l : Launch} {Gr} {d a m j Lx : Nat} {xs : Nat → Int32} {h h1 h2 : ip_H} {fs fs1 : List Value} {r : Option Value × ip_H} (hG : ip_gk (lg_tbl, vwCl, Gr)) (hX : ∀ U : State, ip_X (lg_tbl, vwCl, Gr) U → va_X (ip_O (lg_tbl, vwCl, Gr) 0) Lx xs U U.heap) (hb : ip_O (lg_tbl, vwCl, Gr) 0 < ip_B (lg_tbl, vwCl, Gr)) (hL : Lx < 2 ^ 31) (hj : j + 6 ≤ Lx) (ha : ip_h h a = some (.inr (11, fs))) {v : Int32} (hm1 : ip_h h1 m = some (.inr (12, fs1))) (hc : ip_RnM l (lg_tbl, vwCl, Gr) M_H_rush d [.ref a, .int (xs (j + 1)), .int (xs (j + 2))] h (some (.int v), h1)) (hm : ip_RnM l (lg_tbl, vwCl, Gr) M_Mo_rush d [.ref m, .int (xs (j + 1)), .int (xs (j + 2))] h1 (some (.int v), h2))
    (kk : ip_Rn l (lg_tbl, vwCl, Gr) M_La_law (d + 1) 787 [some (.ref 0), some (.ref a), some (.ref m), some (.int (nI j))] [] h2 r) : ip_Rn l (lg_tbl, vwCl, Gr) M_La_law (d + 1) 554 [some (.ref 0), some (.ref a), some (.ref m), some (.int (nI j))] [] h r := by
  refine ip_go (G := (lg_tbl, vwCl, Gr)) (ini := false) oV_La_law (fun q => Bool.noConfusion q) 5 (pc' := 559) (L' := [some (.ref 0), some (.ref a), some (.ref m), some (.int (nI j))]) (st' := [.int ((nI j) + 1), .ref 0, .ref a]) (h' := _) rfl ?_
  refine ip_sld (G := (lg_tbl, vwCl, Gr)) (q := j + 1) (oV_La_law.1 (559, .iaload) (ip_lk_mem rfl)) hX hb (nI_add j 1) (by omega) hL ?_
  refine ip_go (G := (lg_tbl, vwCl, Gr)) (ini := false) oV_La_law (fun q => Bool.noConfusion q) 4 (pc' := 564) (L' := [some (.ref 0), some (.ref a), some (.ref m), some (.int (nI j))]) (st' := [.int ((nI j) + 2), .ref 0, .int (xs (j + 1)), .ref a]) (h' := _) rfl ?_
  refine ip_sld (G := (lg_tbl, vwCl, Gr)) (q := j + 2) (oV_La_law.1 (564, .iaload) (ip_lk_mem rfl)) hX hb (nI_add j 2) (by omega) hL ?_
  refine ip_callV (G := (lg_tbl, vwCl, Gr)) hG.2.2.1 fT oM_H_rush (oV_La_law.1 (565, .invokevirtual 84) (ip_lk_mem rfl)) ⟨tt_6 _ (List.mem_of_getElem? (i := 239) rfl) rfl, tt_7 _ (List.mem_of_getElem? (i := 0) rfl) rfl, tt_7 _ (List.mem_of_getElem? (i := 1) rfl) rfl⟩ (n := a) (ci := 11) (As := [.int (xs (j + 1)), .int (xs (j + 2))]) rfl rfl rfl ha (Nat.le_of_ble_eq_true rfl) hc ?_
  refine ip_go (G := (lg_tbl, vwCl, Gr)) (ini := false) oV_La_law (fun q => Bool.noConfusion q) 5 (pc' := 573) (L' := [some (.ref 0), some (.ref a), some (.ref m), some (.int (nI j))]) (st' := [.int ((nI j) + 1), .ref 0, .ref m, .int v]) (h' := _) rfl ?_
  refine ip_sld (G := (lg_tbl, vwCl, Gr)) (q := j + 1) (oV_La_law.1 (573, .iaload) (ip_lk_mem rfl)) hX hb (nI_add j 1) (by omega) hL ?_
  refine ip_go (G := (lg_tbl, vwCl, Gr)) (ini := false) oV_La_law (fun q => Bool.noConfusion q) 4 (pc' := 578) (L' := [some (.ref 0), some (.ref a), some (.ref m), some (.int (nI j))]) (st' := [.int ((nI j) + 2), .ref 0, .int (xs (j + 1)), .ref m, .int v]) (h' := _) rfl ?_
  refine ip_sld (G := (lg_tbl, vwCl, Gr)) (q := j + 2) (oV_La_law.1 (578, .iaload) (ip_lk_mem rfl)) hX hb (nI_add j 2) (by omega) hL ?_
  refine ip_callV (G := (lg_tbl, vwCl, Gr)) hG.2.2.1 fT oM_Mo_rush (oV_La_law.1 (579, .invokevirtual 87) (ip_lk_mem rfl)) ⟨tt_11 _ (List.mem_of_getElem? (i := 45) rfl) rfl, tt_11 _ (List.mem_of_getElem? (i := 46) rfl) rfl, tt_11 _ (List.mem_of_getElem? (i := 47) rfl) rfl⟩ (n := m) (ci := 12) (As := [.int (xs (j + 1)), .int (xs (j + 2))]) rfl rfl rfl hm1 (Nat.le_of_ble_eq_true rfl) hm ?_
  refine ip_icmp_eq_t (G := (lg_tbl, vwCl, Gr)) (tgt := 787) (oV_La_law.1 (582, .if_icmp .eq 205) (ip_lk_mem rfl)) (by decide) rfl ?_
  exact kk
set_option maxRecDepth 100000 in
theorem lw_14 {l : Launch} {Gr} {d a m j Lx : Nat} {xs : Nat → Int32} {h h1 h2 : ip_H} {fs fs1 : List Value} {r : Option Value × ip_H} (hG : ip_gk (lg_tbl, vwCl, Gr)) (hX : ∀ U : State, ip_X (lg_tbl, vwCl, Gr) U → va_X (ip_O (lg_tbl, vwCl, Gr) 0) Lx xs U U.heap) (hb : ip_O (lg_tbl, vwCl, Gr) 0 < ip_B (lg_tbl, vwCl, Gr)) (hL : Lx < 2 ^ 31) (hj : j + 6 ≤ Lx) (ha : ip_h h a = some (.inr (11, fs))) {v : Int32} (hm1 : ip_h h1 m = some (.inr (12, fs1))) (hc : ip_RnM l (lg_tbl, vwCl, Gr) M_H_party d [.ref a, .int (xs (j + 1)), .int (xs (j + 2))] h (some (.int v), h1)) (hm : ip_RnM l (lg_tbl, vwCl, Gr) M_Mo_party d [.ref m, .int (xs (j + 1)), .int (xs (j + 2))] h1 (some (.int v), h2))
    (kk : ip_Rn l (lg_tbl, vwCl, Gr) M_La_law (d + 1) 787 [some (.ref 0), some (.ref a), some (.ref m), some (.int (nI j))] [] h2 r) : ip_Rn l (lg_tbl, vwCl, Gr) M_La_law (d + 1) 587 [some (.ref 0), some (.ref a), some (.ref m), some (.int (nI j))] [] h r := by
  refine ip_go (G := (lg_tbl, vwCl, Gr)) (ini := false) oV_La_law (fun q => Bool.noConfusion q) 5 (pc' := 592) (L' := [some (.ref 0), some (.ref a), some (.ref m), some (.int (nI j))]) (st' := [.int ((nI j) + 1), .ref 0, .ref a]) (h' := _) rfl ?_
  refine ip_sld (G := (lg_tbl, vwCl, Gr)) (q := j + 1) (oV_La_law.1 (592, .iaload) (ip_lk_mem rfl)) hX hb (nI_add j 1) (by omega) hL ?_
  refine ip_go (G := (lg_tbl, vwCl, Gr)) (ini := false) oV_La_law (fun q => Bool.noConfusion q) 4 (pc' := 597) (L' := [some (.ref 0), some (.ref a), some (.ref m), some (.int (nI j))]) (st' := [.int ((nI j) + 2), .ref 0, .int (xs (j + 1)), .ref a]) (h' := _) rfl ?_
  refine ip_sld (G := (lg_tbl, vwCl, Gr)) (q := j + 2) (oV_La_law.1 (597, .iaload) (ip_lk_mem rfl)) hX hb (nI_add j 2) (by omega) hL ?_
  refine ip_callV (G := (lg_tbl, vwCl, Gr)) hG.2.2.1 fT oM_H_party (oV_La_law.1 (598, .invokevirtual 88) (ip_lk_mem rfl)) ⟨tt_7 _ (List.mem_of_getElem? (i := 4) rfl) rfl, tt_7 _ (List.mem_of_getElem? (i := 5) rfl) rfl, tt_7 _ (List.mem_of_getElem? (i := 6) rfl) rfl⟩ (n := a) (ci := 11) (As := [.int (xs (j + 1)), .int (xs (j + 2))]) rfl rfl rfl ha (Nat.le_of_ble_eq_true rfl) hc ?_
  refine ip_go (G := (lg_tbl, vwCl, Gr)) (ini := false) oV_La_law (fun q => Bool.noConfusion q) 5 (pc' := 606) (L' := [some (.ref 0), some (.ref a), some (.ref m), some (.int (nI j))]) (st' := [.int ((nI j) + 1), .ref 0, .ref m, .int v]) (h' := _) rfl ?_
  refine ip_sld (G := (lg_tbl, vwCl, Gr)) (q := j + 1) (oV_La_law.1 (606, .iaload) (ip_lk_mem rfl)) hX hb (nI_add j 1) (by omega) hL ?_
  refine ip_go (G := (lg_tbl, vwCl, Gr)) (ini := false) oV_La_law (fun q => Bool.noConfusion q) 4 (pc' := 611) (L' := [some (.ref 0), some (.ref a), some (.ref m), some (.int (nI j))]) (st' := [.int ((nI j) + 2), .ref 0, .int (xs (j + 1)), .ref m, .int v]) (h' := _) rfl ?_
  refine ip_sld (G := (lg_tbl, vwCl, Gr)) (q := j + 2) (oV_La_law.1 (611, .iaload) (ip_lk_mem rfl)) hX hb (nI_add j 2) (by omega) hL ?_
  refine ip_callV (G := (lg_tbl, vwCl, Gr)) hG.2.2.1 fT oM_Mo_party (oV_La_law.1 (612, .invokevirtual 91) (ip_lk_mem rfl)) ⟨tt_11 _ (List.mem_of_getElem? (i := 49) rfl) rfl, tt_11 _ (List.mem_of_getElem? (i := 50) rfl) rfl, tt_11 _ (List.mem_of_getElem? (i := 51) rfl) rfl⟩ (n := m) (ci := 12) (As := [.int (xs (j + 1)), .int (xs (j + 2))]) rfl rfl rfl hm1 (Nat.le_of_ble_eq_true rfl) hm ?_
  refine ip_icmp_eq_t (G := (lg_tbl, vwCl, Gr)) (tgt := 787) (oV_La_law.1 (615, .if_icmp .eq 172) (ip_lk_mem rfl)) (by decide) rfl ?_
  exact kk
set_option maxRecDepth 100000 in
theorem lw_15 {l : Launch} {Gr} {d a m j Lx : Nat} {xs : Nat → Int32} {h h1 h2 : ip_H} {fs fs1 : List Value} {r : Option Value × ip_H} (hG : ip_gk (lg_tbl, vwCl, Gr)) (hX : ∀ U : State, ip_X (lg_tbl, vwCl, Gr) U → va_X (ip_O (lg_tbl, vwCl, Gr) 0) Lx xs U U.heap) (hb : ip_O (lg_tbl, vwCl, Gr) 0 < ip_B (lg_tbl, vwCl, Gr)) (hL : Lx < 2 ^ 31) (hj : j + 6 ≤ Lx) (ha : ip_h h a = some (.inr (11, fs))) {v : Int32} (hm1 : ip_h h1 m = some (.inr (12, fs1))) (hc : ip_RnM l (lg_tbl, vwCl, Gr) M_H_dealt d [.ref a, .int (xs (j + 1)), .int (xs (j + 2)), .int (xs (j + 3))] h (some (.int v), h1)) (hm : ip_RnM l (lg_tbl, vwCl, Gr) M_Mo_dealt d [.ref m, .int (xs (j + 1)), .int (xs (j + 2)), .int (xs (j + 3))] h1 (some (.int v), h2))
    (kk : ip_Rn l (lg_tbl, vwCl, Gr) M_La_law (d + 1) 787 [some (.ref 0), some (.ref a), some (.ref m), some (.int (nI j))] [] h2 r) : ip_Rn l (lg_tbl, vwCl, Gr) M_La_law (d + 1) 620 [some (.ref 0), some (.ref a), some (.ref m), some (.int (nI j))] [] h r := by
  refine ip_go (G := (lg_tbl, vwCl, Gr)) (ini := false) oV_La_law (fun q => Bool.noConfusion q) 5 (pc' := 625) (L' := [some (.ref 0), some (.ref a), some (.ref m), some (.int (nI j))]) (st' := [.int ((nI j) + 1), .ref 0, .ref a]) (h' := _) rfl ?_
  refine ip_sld (G := (lg_tbl, vwCl, Gr)) (q := j + 1) (oV_La_law.1 (625, .iaload) (ip_lk_mem rfl)) hX hb (nI_add j 1) (by omega) hL ?_
  refine ip_go (G := (lg_tbl, vwCl, Gr)) (ini := false) oV_La_law (fun q => Bool.noConfusion q) 4 (pc' := 630) (L' := [some (.ref 0), some (.ref a), some (.ref m), some (.int (nI j))]) (st' := [.int ((nI j) + 2), .ref 0, .int (xs (j + 1)), .ref a]) (h' := _) rfl ?_
  refine ip_sld (G := (lg_tbl, vwCl, Gr)) (q := j + 2) (oV_La_law.1 (630, .iaload) (ip_lk_mem rfl)) hX hb (nI_add j 2) (by omega) hL ?_
  refine ip_go (G := (lg_tbl, vwCl, Gr)) (ini := false) oV_La_law (fun q => Bool.noConfusion q) 4 (pc' := 635) (L' := [some (.ref 0), some (.ref a), some (.ref m), some (.int (nI j))]) (st' := [.int ((nI j) + 3), .ref 0, .int (xs (j + 2)), .int (xs (j + 1)), .ref a]) (h' := _) rfl ?_
  refine ip_sld (G := (lg_tbl, vwCl, Gr)) (q := j + 3) (oV_La_law.1 (635, .iaload) (ip_lk_mem rfl)) hX hb (nI_add j 3) (by omega) hL ?_
  refine ip_callV (G := (lg_tbl, vwCl, Gr)) hG.2.2.1 fT oM_H_dealt (oV_La_law.1 (636, .invokevirtual 92) (ip_lk_mem rfl)) ⟨tt_7 _ (List.mem_of_getElem? (i := 16) rfl) rfl, tt_7 _ (List.mem_of_getElem? (i := 17) rfl) rfl, tt_7 _ (List.mem_of_getElem? (i := 18) rfl) rfl⟩ (n := a) (ci := 11) (As := [.int (xs (j + 1)), .int (xs (j + 2)), .int (xs (j + 3))]) rfl rfl rfl ha (Nat.le_of_ble_eq_true rfl) hc ?_
  refine ip_go (G := (lg_tbl, vwCl, Gr)) (ini := false) oV_La_law (fun q => Bool.noConfusion q) 5 (pc' := 644) (L' := [some (.ref 0), some (.ref a), some (.ref m), some (.int (nI j))]) (st' := [.int ((nI j) + 1), .ref 0, .ref m, .int v]) (h' := _) rfl ?_
  refine ip_sld (G := (lg_tbl, vwCl, Gr)) (q := j + 1) (oV_La_law.1 (644, .iaload) (ip_lk_mem rfl)) hX hb (nI_add j 1) (by omega) hL ?_
  refine ip_go (G := (lg_tbl, vwCl, Gr)) (ini := false) oV_La_law (fun q => Bool.noConfusion q) 4 (pc' := 649) (L' := [some (.ref 0), some (.ref a), some (.ref m), some (.int (nI j))]) (st' := [.int ((nI j) + 2), .ref 0, .int (xs (j + 1)), .ref m, .int v]) (h' := _) rfl ?_
  refine ip_sld (G := (lg_tbl, vwCl, Gr)) (q := j + 2) (oV_La_law.1 (649, .iaload) (ip_lk_mem rfl)) hX hb (nI_add j 2) (by omega) hL ?_
  refine ip_go (G := (lg_tbl, vwCl, Gr)) (ini := false) oV_La_law (fun q => Bool.noConfusion q) 4 (pc' := 654) (L' := [some (.ref 0), some (.ref a), some (.ref m), some (.int (nI j))]) (st' := [.int ((nI j) + 3), .ref 0, .int (xs (j + 2)), .int (xs (j + 1)), .ref m, .int v]) (h' := _) rfl ?_
  refine ip_sld (G := (lg_tbl, vwCl, Gr)) (q := j + 3) (oV_La_law.1 (654, .iaload) (ip_lk_mem rfl)) hX hb (nI_add j 3) (by omega) hL ?_
  refine ip_callV (G := (lg_tbl, vwCl, Gr)) hG.2.2.1 fT oM_Mo_dealt (oV_La_law.1 (655, .invokevirtual 96) (ip_lk_mem rfl)) ⟨tt_11 _ (List.mem_of_getElem? (i := 57) rfl) rfl, tt_11 _ (List.mem_of_getElem? (i := 58) rfl) rfl, tt_11 _ (List.mem_of_getElem? (i := 59) rfl) rfl⟩ (n := m) (ci := 12) (As := [.int (xs (j + 1)), .int (xs (j + 2)), .int (xs (j + 3))]) rfl rfl rfl hm1 (Nat.le_of_ble_eq_true rfl) hm ?_
  refine ip_icmp_eq_t (G := (lg_tbl, vwCl, Gr)) (tgt := 787) (oV_La_law.1 (658, .if_icmp .eq 129) (ip_lk_mem rfl)) (by decide) rfl ?_
  exact kk
set_option maxRecDepth 100000 in
theorem lw_16 {l : Launch} {Gr} {d a m j Lx : Nat} {xs : Nat → Int32} {h h1 h2 : ip_H} {fs fs1 : List Value} {r : Option Value × ip_H} (hG : ip_gk (lg_tbl, vwCl, Gr)) (hX : ∀ U : State, ip_X (lg_tbl, vwCl, Gr) U → va_X (ip_O (lg_tbl, vwCl, Gr) 0) Lx xs U U.heap) (hb : ip_O (lg_tbl, vwCl, Gr) 0 < ip_B (lg_tbl, vwCl, Gr)) (hL : Lx < 2 ^ 31) (hj : j + 6 ≤ Lx) (ha : ip_h h a = some (.inr (11, fs))) {v : Int32} (hm1 : ip_h h1 m = some (.inr (12, fs1))) (hc : ip_RnM l (lg_tbl, vwCl, Gr) M_H_share d [.ref a, .int (xs (j + 1)), .int (xs (j + 2))] h (some (.int v), h1)) (hm : ip_RnM l (lg_tbl, vwCl, Gr) M_Mo_share d [.ref m, .int (xs (j + 1)), .int (xs (j + 2))] h1 (some (.int v), h2))
    (kk : ip_Rn l (lg_tbl, vwCl, Gr) M_La_law (d + 1) 787 [some (.ref 0), some (.ref a), some (.ref m), some (.int (nI j))] [] h2 r) : ip_Rn l (lg_tbl, vwCl, Gr) M_La_law (d + 1) 663 [some (.ref 0), some (.ref a), some (.ref m), some (.int (nI j))] [] h r := by
  refine ip_go (G := (lg_tbl, vwCl, Gr)) (ini := false) oV_La_law (fun q => Bool.noConfusion q) 5 (pc' := 668) (L' := [some (.ref 0), some (.ref a), some (.ref m), some (.int (nI j))]) (st' := [.int ((nI j) + 1), .ref 0, .ref a]) (h' := _) rfl ?_
  refine ip_sld (G := (lg_tbl, vwCl, Gr)) (q := j + 1) (oV_La_law.1 (668, .iaload) (ip_lk_mem rfl)) hX hb (nI_add j 1) (by omega) hL ?_
  refine ip_go (G := (lg_tbl, vwCl, Gr)) (ini := false) oV_La_law (fun q => Bool.noConfusion q) 4 (pc' := 673) (L' := [some (.ref 0), some (.ref a), some (.ref m), some (.int (nI j))]) (st' := [.int ((nI j) + 2), .ref 0, .int (xs (j + 1)), .ref a]) (h' := _) rfl ?_
  refine ip_sld (G := (lg_tbl, vwCl, Gr)) (q := j + 2) (oV_La_law.1 (673, .iaload) (ip_lk_mem rfl)) hX hb (nI_add j 2) (by omega) hL ?_
  refine ip_callV (G := (lg_tbl, vwCl, Gr)) hG.2.2.1 fT oM_H_share (oV_La_law.1 (674, .invokevirtual 97) (ip_lk_mem rfl)) ⟨tt_7 _ (List.mem_of_getElem? (i := 21) rfl) rfl, tt_7 _ (List.mem_of_getElem? (i := 22) rfl) rfl, tt_7 _ (List.mem_of_getElem? (i := 23) rfl) rfl⟩ (n := a) (ci := 11) (As := [.int (xs (j + 1)), .int (xs (j + 2))]) rfl rfl rfl ha (Nat.le_of_ble_eq_true rfl) hc ?_
  refine ip_go (G := (lg_tbl, vwCl, Gr)) (ini := false) oV_La_law (fun q => Bool.noConfusion q) 5 (pc' := 682) (L' := [some (.ref 0), some (.ref a), some (.ref m), some (.int (nI j))]) (st' := [.int ((nI j) + 1), .ref 0, .ref m, .int v]) (h' := _) rfl ?_
  refine ip_sld (G := (lg_tbl, vwCl, Gr)) (q := j + 1) (oV_La_law.1 (682, .iaload) (ip_lk_mem rfl)) hX hb (nI_add j 1) (by omega) hL ?_
  refine ip_go (G := (lg_tbl, vwCl, Gr)) (ini := false) oV_La_law (fun q => Bool.noConfusion q) 4 (pc' := 687) (L' := [some (.ref 0), some (.ref a), some (.ref m), some (.int (nI j))]) (st' := [.int ((nI j) + 2), .ref 0, .int (xs (j + 1)), .ref m, .int v]) (h' := _) rfl ?_
  refine ip_sld (G := (lg_tbl, vwCl, Gr)) (q := j + 2) (oV_La_law.1 (687, .iaload) (ip_lk_mem rfl)) hX hb (nI_add j 2) (by omega) hL ?_
  refine ip_callV (G := (lg_tbl, vwCl, Gr)) hG.2.2.1 fT oM_Mo_share (oV_La_law.1 (688, .invokevirtual 100) (ip_lk_mem rfl)) ⟨tt_11 _ (List.mem_of_getElem? (i := 61) rfl) rfl, tt_11 _ (List.mem_of_getElem? (i := 62) rfl) rfl, tt_11 _ (List.mem_of_getElem? (i := 63) rfl) rfl⟩ (n := m) (ci := 12) (As := [.int (xs (j + 1)), .int (xs (j + 2))]) rfl rfl rfl hm1 (Nat.le_of_ble_eq_true rfl) hm ?_
  refine ip_icmp_eq_t (G := (lg_tbl, vwCl, Gr)) (tgt := 787) (oV_La_law.1 (691, .if_icmp .eq 96) (ip_lk_mem rfl)) (by decide) rfl ?_
  exact kk
set_option maxRecDepth 100000 in
theorem lw_17 {l : Launch} {Gr} {d a m j Lx : Nat} {xs : Nat → Int32} {h h1 h2 : ip_H} {fs fs1 : List Value} {r : Option Value × ip_H} (hG : ip_gk (lg_tbl, vwCl, Gr)) (hX : ∀ U : State, ip_X (lg_tbl, vwCl, Gr) U → va_X (ip_O (lg_tbl, vwCl, Gr) 0) Lx xs U U.heap) (hb : ip_O (lg_tbl, vwCl, Gr) 0 < ip_B (lg_tbl, vwCl, Gr)) (hL : Lx < 2 ^ 31) (hj : j + 6 ≤ Lx) (ha : ip_h h a = some (.inr (11, fs))) {v : Int32} (hm1 : ip_h h1 m = some (.inr (12, fs1))) (hc : ip_RnM l (lg_tbl, vwCl, Gr) M_H_view d [.ref a, .int (xs (j + 1)), .int (xs (j + 2))] h (some (.int v), h1)) (hm : ip_RnM l (lg_tbl, vwCl, Gr) M_Mo_view d [.ref m, .int (xs (j + 1)), .int (xs (j + 2))] h1 (some (.int v), h2))
    (kk : ip_Rn l (lg_tbl, vwCl, Gr) M_La_law (d + 1) 787 [some (.ref 0), some (.ref a), some (.ref m), some (.int (nI j))] [] h2 r) : ip_Rn l (lg_tbl, vwCl, Gr) M_La_law (d + 1) 696 [some (.ref 0), some (.ref a), some (.ref m), some (.int (nI j))] [] h r := by
  refine ip_go (G := (lg_tbl, vwCl, Gr)) (ini := false) oV_La_law (fun q => Bool.noConfusion q) 5 (pc' := 701) (L' := [some (.ref 0), some (.ref a), some (.ref m), some (.int (nI j))]) (st' := [.int ((nI j) + 1), .ref 0, .ref a]) (h' := _) rfl ?_
  refine ip_sld (G := (lg_tbl, vwCl, Gr)) (q := j + 1) (oV_La_law.1 (701, .iaload) (ip_lk_mem rfl)) hX hb (nI_add j 1) (by omega) hL ?_
  refine ip_go (G := (lg_tbl, vwCl, Gr)) (ini := false) oV_La_law (fun q => Bool.noConfusion q) 4 (pc' := 706) (L' := [some (.ref 0), some (.ref a), some (.ref m), some (.int (nI j))]) (st' := [.int ((nI j) + 2), .ref 0, .int (xs (j + 1)), .ref a]) (h' := _) rfl ?_
  refine ip_sld (G := (lg_tbl, vwCl, Gr)) (q := j + 2) (oV_La_law.1 (706, .iaload) (ip_lk_mem rfl)) hX hb (nI_add j 2) (by omega) hL ?_
  refine ip_callV (G := (lg_tbl, vwCl, Gr)) hG.2.2.1 fT oM_H_view (oV_La_law.1 (707, .invokevirtual 101) (ip_lk_mem rfl)) ⟨tt_7 _ (List.mem_of_getElem? (i := 26) rfl) rfl, tt_7 _ (List.mem_of_getElem? (i := 27) rfl) rfl, tt_7 _ (List.mem_of_getElem? (i := 28) rfl) rfl⟩ (n := a) (ci := 11) (As := [.int (xs (j + 1)), .int (xs (j + 2))]) rfl rfl rfl ha (Nat.le_of_ble_eq_true rfl) hc ?_
  refine ip_go (G := (lg_tbl, vwCl, Gr)) (ini := false) oV_La_law (fun q => Bool.noConfusion q) 5 (pc' := 715) (L' := [some (.ref 0), some (.ref a), some (.ref m), some (.int (nI j))]) (st' := [.int ((nI j) + 1), .ref 0, .ref m, .int v]) (h' := _) rfl ?_
  refine ip_sld (G := (lg_tbl, vwCl, Gr)) (q := j + 1) (oV_La_law.1 (715, .iaload) (ip_lk_mem rfl)) hX hb (nI_add j 1) (by omega) hL ?_
  refine ip_go (G := (lg_tbl, vwCl, Gr)) (ini := false) oV_La_law (fun q => Bool.noConfusion q) 4 (pc' := 720) (L' := [some (.ref 0), some (.ref a), some (.ref m), some (.int (nI j))]) (st' := [.int ((nI j) + 2), .ref 0, .int (xs (j + 1)), .ref m, .int v]) (h' := _) rfl ?_
  refine ip_sld (G := (lg_tbl, vwCl, Gr)) (q := j + 2) (oV_La_law.1 (720, .iaload) (ip_lk_mem rfl)) hX hb (nI_add j 2) (by omega) hL ?_
  refine ip_callV (G := (lg_tbl, vwCl, Gr)) hG.2.2.1 fT oM_Mo_view (oV_La_law.1 (721, .invokevirtual 104) (ip_lk_mem rfl)) ⟨tt_11 _ (List.mem_of_getElem? (i := 65) rfl) rfl, tt_11 _ (List.mem_of_getElem? (i := 66) rfl) rfl, tt_11 _ (List.mem_of_getElem? (i := 67) rfl) rfl⟩ (n := m) (ci := 12) (As := [.int (xs (j + 1)), .int (xs (j + 2))]) rfl rfl rfl hm1 (Nat.le_of_ble_eq_true rfl) hm ?_
  refine ip_icmp_eq_t (G := (lg_tbl, vwCl, Gr)) (tgt := 787) (oV_La_law.1 (724, .if_icmp .eq 63) (ip_lk_mem rfl)) (by decide) rfl ?_
  exact kk
set_option maxRecDepth 100000 in
theorem lw_18 {l : Launch} {Gr} {d a m j Lx : Nat} {xs : Nat → Int32} {h h1 h2 : ip_H} {fs fs1 : List Value} {r : Option Value × ip_H} (hG : ip_gk (lg_tbl, vwCl, Gr)) (hX : ∀ U : State, ip_X (lg_tbl, vwCl, Gr) U → va_X (ip_O (lg_tbl, vwCl, Gr) 0) Lx xs U U.heap) (hb : ip_O (lg_tbl, vwCl, Gr) 0 < ip_B (lg_tbl, vwCl, Gr)) (hL : Lx < 2 ^ 31) (hj : j + 6 ≤ Lx) (ha : ip_h h a = some (.inr (11, fs))) {v : Int64} (hm1 : ip_h h1 m = some (.inr (12, fs1))) (hc : ip_RnM l (lg_tbl, vwCl, Gr) M_H_told d [.ref a, .int (xs (j + 1)), .int (xs (j + 2))] h (some (.long v), h1)) (hm : ip_RnM l (lg_tbl, vwCl, Gr) M_Mo_told d [.ref m, .int (xs (j + 1)), .int (xs (j + 2))] h1 (some (.long v), h2))
    (kk : ip_Rn l (lg_tbl, vwCl, Gr) M_La_law (d + 1) 787 [some (.ref 0), some (.ref a), some (.ref m), some (.int (nI j))] [] h2 r) : ip_Rn l (lg_tbl, vwCl, Gr) M_La_law (d + 1) 729 [some (.ref 0), some (.ref a), some (.ref m), some (.int (nI j))] [] h r := by
  refine ip_go (G := (lg_tbl, vwCl, Gr)) (ini := false) oV_La_law (fun q => Bool.noConfusion q) 5 (pc' := 734) (L' := [some (.ref 0), some (.ref a), some (.ref m), some (.int (nI j))]) (st' := [.int ((nI j) + 1), .ref 0, .ref a]) (h' := _) rfl ?_
  refine ip_sld (G := (lg_tbl, vwCl, Gr)) (q := j + 1) (oV_La_law.1 (734, .iaload) (ip_lk_mem rfl)) hX hb (nI_add j 1) (by omega) hL ?_
  refine ip_go (G := (lg_tbl, vwCl, Gr)) (ini := false) oV_La_law (fun q => Bool.noConfusion q) 4 (pc' := 739) (L' := [some (.ref 0), some (.ref a), some (.ref m), some (.int (nI j))]) (st' := [.int ((nI j) + 2), .ref 0, .int (xs (j + 1)), .ref a]) (h' := _) rfl ?_
  refine ip_sld (G := (lg_tbl, vwCl, Gr)) (q := j + 2) (oV_La_law.1 (739, .iaload) (ip_lk_mem rfl)) hX hb (nI_add j 2) (by omega) hL ?_
  refine ip_callV (G := (lg_tbl, vwCl, Gr)) hG.2.2.1 fT oM_H_told (oV_La_law.1 (740, .invokevirtual 105) (ip_lk_mem rfl)) ⟨tt_7 _ (List.mem_of_getElem? (i := 40) rfl) rfl, tt_7 _ (List.mem_of_getElem? (i := 41) rfl) rfl, tt_7 _ (List.mem_of_getElem? (i := 42) rfl) rfl⟩ (n := a) (ci := 11) (As := [.int (xs (j + 1)), .int (xs (j + 2))]) rfl rfl rfl ha (Nat.le_of_ble_eq_true rfl) hc ?_
  refine ip_go (G := (lg_tbl, vwCl, Gr)) (ini := false) oV_La_law (fun q => Bool.noConfusion q) 5 (pc' := 748) (L' := [some (.ref 0), some (.ref a), some (.ref m), some (.int (nI j))]) (st' := [.int ((nI j) + 1), .ref 0, .ref m, .long v]) (h' := _) rfl ?_
  refine ip_sld (G := (lg_tbl, vwCl, Gr)) (q := j + 1) (oV_La_law.1 (748, .iaload) (ip_lk_mem rfl)) hX hb (nI_add j 1) (by omega) hL ?_
  refine ip_go (G := (lg_tbl, vwCl, Gr)) (ini := false) oV_La_law (fun q => Bool.noConfusion q) 4 (pc' := 753) (L' := [some (.ref 0), some (.ref a), some (.ref m), some (.int (nI j))]) (st' := [.int ((nI j) + 2), .ref 0, .int (xs (j + 1)), .ref m, .long v]) (h' := _) rfl ?_
  refine ip_sld (G := (lg_tbl, vwCl, Gr)) (q := j + 2) (oV_La_law.1 (753, .iaload) (ip_lk_mem rfl)) hX hb (nI_add j 2) (by omega) hL ?_
  refine ip_callV (G := (lg_tbl, vwCl, Gr)) hG.2.2.1 fT oM_Mo_told (oV_La_law.1 (754, .invokevirtual 108) (ip_lk_mem rfl)) ⟨tt_11 _ (List.mem_of_getElem? (i := 69) rfl) rfl, tt_11 _ (List.mem_of_getElem? (i := 70) rfl) rfl, tt_11 _ (List.mem_of_getElem? (i := 71) rfl) rfl⟩ (n := m) (ci := 12) (As := [.int (xs (j + 1)), .int (xs (j + 2))]) rfl rfl rfl hm1 (Nat.le_of_ble_eq_true rfl) hm ?_
  refine ip_lcmp (G := (lg_tbl, vwCl, Gr)) (oV_La_law.1 (757, .lcmp) (ip_lk_mem rfl)) ?_
  rw [show lg_cmp v v = 0 from by simp [lg_cmp]]
  refine ip_if_eq_t (G := (lg_tbl, vwCl, Gr)) (tgt := 787) (oV_La_law.1 (758, .ifCond .eq 29) (ip_lk_mem rfl)) (by decide) rfl ?_
  exact kk
set_option maxRecDepth 100000 in
theorem lw_19 {l : Launch} {Gr} {d a m j Lx : Nat} {xs : Nat → Int32} {h h1 h2 : ip_H} {fs fs1 : List Value} {r : Option Value × ip_H} (hG : ip_gk (lg_tbl, vwCl, Gr)) (hX : ∀ U : State, ip_X (lg_tbl, vwCl, Gr) U → va_X (ip_O (lg_tbl, vwCl, Gr) 0) Lx xs U U.heap) (hb : ip_O (lg_tbl, vwCl, Gr) 0 < ip_B (lg_tbl, vwCl, Gr)) (hL : Lx < 2 ^ 31) (hj : j + 6 ≤ Lx) (ha : ip_h h a = some (.inr (11, fs))) {v : Int64} (hm1 : ip_h h1 m = some (.inr (12, fs1))) (hc : ip_RnM l (lg_tbl, vwCl, Gr) M_H_truth d [.ref a, .int (xs (j + 1))] h (some (.long v), h1)) (hm : ip_RnM l (lg_tbl, vwCl, Gr) M_Mo_truth d [.ref m, .int (xs (j + 1))] h1 (some (.long v), h2))
    (kk : ip_Rn l (lg_tbl, vwCl, Gr) M_La_law (d + 1) 787 [some (.ref 0), some (.ref a), some (.ref m), some (.int (nI j))] [] h2 r) : ip_Rn l (lg_tbl, vwCl, Gr) M_La_law (d + 1) 763 [some (.ref 0), some (.ref a), some (.ref m), some (.int (nI j))] [] h r := by
  refine ip_go (G := (lg_tbl, vwCl, Gr)) (ini := false) oV_La_law (fun q => Bool.noConfusion q) 5 (pc' := 768) (L' := [some (.ref 0), some (.ref a), some (.ref m), some (.int (nI j))]) (st' := [.int ((nI j) + 1), .ref 0, .ref a]) (h' := _) rfl ?_
  refine ip_sld (G := (lg_tbl, vwCl, Gr)) (q := j + 1) (oV_La_law.1 (768, .iaload) (ip_lk_mem rfl)) hX hb (nI_add j 1) (by omega) hL ?_
  refine ip_callV (G := (lg_tbl, vwCl, Gr)) hG.2.2.1 fT oM_H_truth (oV_La_law.1 (769, .invokevirtual 109) (ip_lk_mem rfl)) ⟨tt_7 _ (List.mem_of_getElem? (i := 47) rfl) rfl, tt_7 _ (List.mem_of_getElem? (i := 48) rfl) rfl, tt_7 _ (List.mem_of_getElem? (i := 49) rfl) rfl⟩ (n := a) (ci := 11) (As := [.int (xs (j + 1))]) rfl rfl rfl ha (Nat.le_of_ble_eq_true rfl) hc ?_
  refine ip_go (G := (lg_tbl, vwCl, Gr)) (ini := false) oV_La_law (fun q => Bool.noConfusion q) 5 (pc' := 777) (L' := [some (.ref 0), some (.ref a), some (.ref m), some (.int (nI j))]) (st' := [.int ((nI j) + 1), .ref 0, .ref m, .long v]) (h' := _) rfl ?_
  refine ip_sld (G := (lg_tbl, vwCl, Gr)) (q := j + 1) (oV_La_law.1 (777, .iaload) (ip_lk_mem rfl)) hX hb (nI_add j 1) (by omega) hL ?_
  refine ip_callV (G := (lg_tbl, vwCl, Gr)) hG.2.2.1 fT oM_Mo_truth (oV_La_law.1 (778, .invokevirtual 113) (ip_lk_mem rfl)) ⟨tt_11 _ (List.mem_of_getElem? (i := 73) rfl) rfl, tt_11 _ (List.mem_of_getElem? (i := 74) rfl) rfl, tt_11 _ (List.mem_of_getElem? (i := 75) rfl) rfl⟩ (n := m) (ci := 12) (As := [.int (xs (j + 1))]) rfl rfl rfl hm1 (Nat.le_of_ble_eq_true rfl) hm ?_
  refine ip_lcmp (G := (lg_tbl, vwCl, Gr)) (oV_La_law.1 (781, .lcmp) (ip_lk_mem rfl)) ?_
  rw [show lg_cmp v v = 0 from by simp [lg_cmp]]
  refine ip_if_eq_t (G := (lg_tbl, vwCl, Gr)) (tgt := 787) (oV_La_law.1 (782, .ifCond .eq 5) (ip_lk_mem rfl)) (by decide) rfl ?_
  exact kk
end
section
theorem lw_gt {j L : Nat} (hj : j ≤ 200000) (hL : L ≤ 100000) : (nI L - (Int8.ofInt 6).toInt32 < nI j) ↔ L < j + 6 := by
  rw [Int32.lt_iff_toInt_lt, show (Int8.ofInt 6).toInt32 = nI 6 from rfl, pk_sub_toInt (by omega) (by omega), nI_toInt (by omega)]
  omega
set_option maxRecDepth 100000 in
theorem lw_exit {l : Launch} {Gr} {d a m j Lx : Nat} {xs : Nat → Int32} {h : ip_H} (hX : ∀ U : State, ip_X (lg_tbl, vwCl, Gr) U → va_X (ip_O (lg_tbl, vwCl, Gr) 0) Lx xs U U.heap) (hb : ip_O (lg_tbl, vwCl, Gr) 0 < ip_B (lg_tbl, vwCl, Gr)) (hL : Lx ≤ 100000) (hj : j ≤ 200000) (hx : Lx < j + 6) : ip_Rn l (lg_tbl, vwCl, Gr) M_La_law d 38 [some (.ref 0), some (.ref a), some (.ref m), some (.int (nI j))] [] h (some (.int 1), h) := by
  refine ip_go (G := (lg_tbl, vwCl, Gr)) (ini := false) oV_La_law (fun q => Bool.noConfusion q) 2 (pc' := 40) (L' := [some (.ref 0), some (.ref a), some (.ref m), some (.int (nI j))]) (st' := [.ref 0, .int (nI j)]) (h' := _) rfl ?_
  refine ip_slen (G := (lg_tbl, vwCl, Gr)) (oV_La_law.1 (40, .arraylength) (ip_lk_mem rfl)) hX hb ?_
  refine ip_go (G := (lg_tbl, vwCl, Gr)) (ini := false) oV_La_law (fun q => Bool.noConfusion q) 2 (pc' := 44) (L' := [some (.ref 0), some (.ref a), some (.ref m), some (.int (nI j))]) (st' := [.int (nI Lx - (Int8.ofInt 6).toInt32), .int (nI j)]) (h' := _) rfl ?_
  refine ip_icmp_gt_t (G := (lg_tbl, vwCl, Gr)) (tgt := 793) (oV_La_law.1 (44, .if_icmp .gt 749) (ip_lk_mem rfl)) (by decide) ((lw_gt hj hL).mpr hx) ?_
  refine ip_go (G := (lg_tbl, vwCl, Gr)) (ini := false) oV_La_law (fun q => Bool.noConfusion q) 1 (pc' := 794) (L' := [some (.ref 0), some (.ref a), some (.ref m), some (.int (nI j))]) (st' := [.int 1]) (h' := _) rfl ?_
  exact ip_ret (G := (lg_tbl, vwCl, Gr)) (v := some (.int 1)) (oV_La_law.1 (794, .ireturn) (ip_lk_mem rfl))
set_option maxRecDepth 100000 in
theorem lw_enter {l : Launch} {Gr} {d a m j Lx : Nat} {xs : Nat → Int32} {h : ip_H} {r : Option Value × ip_H} (hX : ∀ U : State, ip_X (lg_tbl, vwCl, Gr) U → va_X (ip_O (lg_tbl, vwCl, Gr) 0) Lx xs U U.heap) (hb : ip_O (lg_tbl, vwCl, Gr) 0 < ip_B (lg_tbl, vwCl, Gr)) (hL : Lx ≤ 100000) (hj : j + 6 ≤ Lx) (kk : ip_Rn l (lg_tbl, vwCl, Gr) M_La_law d 53 [some (.ref 0), some (.ref a), some (.ref m), some (.int (nI j))] [.int (xs j &&& 31)] h r) : ip_Rn l (lg_tbl, vwCl, Gr) M_La_law d 38 [some (.ref 0), some (.ref a), some (.ref m), some (.int (nI j))] [] h r := by
  refine ip_go (G := (lg_tbl, vwCl, Gr)) (ini := false) oV_La_law (fun q => Bool.noConfusion q) 2 (pc' := 40) (L' := [some (.ref 0), some (.ref a), some (.ref m), some (.int (nI j))]) (st' := [.ref 0, .int (nI j)]) (h' := _) rfl ?_
  refine ip_slen (G := (lg_tbl, vwCl, Gr)) (oV_La_law.1 (40, .arraylength) (ip_lk_mem rfl)) hX hb ?_
  refine ip_go (G := (lg_tbl, vwCl, Gr)) (ini := false) oV_La_law (fun q => Bool.noConfusion q) 2 (pc' := 44) (L' := [some (.ref 0), some (.ref a), some (.ref m), some (.int (nI j))]) (st' := [.int (nI Lx - (Int8.ofInt 6).toInt32), .int (nI j)]) (h' := _) rfl ?_
  refine ip_icmp_gt_f (G := (lg_tbl, vwCl, Gr)) (tgt := 793) (oV_La_law.1 (44, .if_icmp .gt 749) (ip_lk_mem rfl)) (by decide) (fun q => by have := (lw_gt (by omega) hL).mp q; omega) ?_
  refine ip_go (G := (lg_tbl, vwCl, Gr)) (ini := false) oV_La_law (fun q => Bool.noConfusion q) 2 (pc' := 49) (L' := [some (.ref 0), some (.ref a), some (.ref m), some (.int (nI j))]) (st' := [.int (nI j), .ref 0]) (h' := _) rfl ?_
  refine ip_sld (G := (lg_tbl, vwCl, Gr)) (q := j) (oV_La_law.1 (49, .iaload) (ip_lk_mem rfl)) hX hb rfl (by omega) (by omega) ?_
  refine ip_go (G := (lg_tbl, vwCl, Gr)) (ini := false) oV_La_law (fun q => Bool.noConfusion q) 2 (pc' := 53) (L' := [some (.ref 0), some (.ref a), some (.ref m), some (.int (nI j))]) (st' := [.int (xs j &&& 31)]) (h' := _) rfl ?_
  exact kk
set_option maxRecDepth 100000 in
theorem lw_sw0 {l : Launch} {Gr} {d a m j : Nat} {x : Int32} {h : ip_H} {r : Option Value × ip_H} (e : x = 0) (kk : ip_Rn l (lg_tbl, vwCl, Gr) M_La_law d 148 [some (.ref 0), some (.ref a), some (.ref m), some (.int (nI j))] [] h r) : ip_Rn l (lg_tbl, vwCl, Gr) M_La_law d 53 [some (.ref 0), some (.ref a), some (.ref m), some (.int (nI j))] [.int x] h r := by
  subst e
  exact ip_tabI (G := (lg_tbl, vwCl, Gr)) (tgt := 148) (oV_La_law.1 (53, .tableswitch 734 0 19 #[95, 156, 179, 192, 215, 248, 281, 315, 348, 369, 432, 445, 478, 501, 534, 567, 610, 643, 676, 710]) (ip_lk_mem rfl)) (by decide) (by decide) (off := 95) rfl (by decide) kk
set_option maxRecDepth 100000 in
theorem lw_sw1 {l : Launch} {Gr} {d a m j : Nat} {x : Int32} {h : ip_H} {r : Option Value × ip_H} (e : x = 1) (kk : ip_Rn l (lg_tbl, vwCl, Gr) M_La_law d 209 [some (.ref 0), some (.ref a), some (.ref m), some (.int (nI j))] [] h r) : ip_Rn l (lg_tbl, vwCl, Gr) M_La_law d 53 [some (.ref 0), some (.ref a), some (.ref m), some (.int (nI j))] [.int x] h r := by
  subst e
  exact ip_tabI (G := (lg_tbl, vwCl, Gr)) (tgt := 209) (oV_La_law.1 (53, .tableswitch 734 0 19 #[95, 156, 179, 192, 215, 248, 281, 315, 348, 369, 432, 445, 478, 501, 534, 567, 610, 643, 676, 710]) (ip_lk_mem rfl)) (by decide) (by decide) (off := 156) rfl (by decide) kk
set_option maxRecDepth 100000 in
theorem lw_sw2 {l : Launch} {Gr} {d a m j : Nat} {x : Int32} {h : ip_H} {r : Option Value × ip_H} (e : x = 2) (kk : ip_Rn l (lg_tbl, vwCl, Gr) M_La_law d 232 [some (.ref 0), some (.ref a), some (.ref m), some (.int (nI j))] [] h r) : ip_Rn l (lg_tbl, vwCl, Gr) M_La_law d 53 [some (.ref 0), some (.ref a), some (.ref m), some (.int (nI j))] [.int x] h r := by
  subst e
  exact ip_tabI (G := (lg_tbl, vwCl, Gr)) (tgt := 232) (oV_La_law.1 (53, .tableswitch 734 0 19 #[95, 156, 179, 192, 215, 248, 281, 315, 348, 369, 432, 445, 478, 501, 534, 567, 610, 643, 676, 710]) (ip_lk_mem rfl)) (by decide) (by decide) (off := 179) rfl (by decide) kk
set_option maxRecDepth 100000 in
theorem lw_sw3 {l : Launch} {Gr} {d a m j : Nat} {x : Int32} {h : ip_H} {r : Option Value × ip_H} (e : x = 3) (kk : ip_Rn l (lg_tbl, vwCl, Gr) M_La_law d 245 [some (.ref 0), some (.ref a), some (.ref m), some (.int (nI j))] [] h r) : ip_Rn l (lg_tbl, vwCl, Gr) M_La_law d 53 [some (.ref 0), some (.ref a), some (.ref m), some (.int (nI j))] [.int x] h r := by
  subst e
  exact ip_tabI (G := (lg_tbl, vwCl, Gr)) (tgt := 245) (oV_La_law.1 (53, .tableswitch 734 0 19 #[95, 156, 179, 192, 215, 248, 281, 315, 348, 369, 432, 445, 478, 501, 534, 567, 610, 643, 676, 710]) (ip_lk_mem rfl)) (by decide) (by decide) (off := 192) rfl (by decide) kk
set_option maxRecDepth 100000 in
theorem lw_sw4 {l : Launch} {Gr} {d a m j : Nat} {x : Int32} {h : ip_H} {r : Option Value × ip_H} (e : x = 4) (kk : ip_Rn l (lg_tbl, vwCl, Gr) M_La_law d 268 [some (.ref 0), some (.ref a), some (.ref m), some (.int (nI j))] [] h r) : ip_Rn l (lg_tbl, vwCl, Gr) M_La_law d 53 [some (.ref 0), some (.ref a), some (.ref m), some (.int (nI j))] [.int x] h r := by
  subst e
  exact ip_tabI (G := (lg_tbl, vwCl, Gr)) (tgt := 268) (oV_La_law.1 (53, .tableswitch 734 0 19 #[95, 156, 179, 192, 215, 248, 281, 315, 348, 369, 432, 445, 478, 501, 534, 567, 610, 643, 676, 710]) (ip_lk_mem rfl)) (by decide) (by decide) (off := 215) rfl (by decide) kk
set_option maxRecDepth 100000 in
theorem lw_sw5 {l : Launch} {Gr} {d a m j : Nat} {x : Int32} {h : ip_H} {r : Option Value × ip_H} (e : x = 5) (kk : ip_Rn l (lg_tbl, vwCl, Gr) M_La_law d 301 [some (.ref 0), some (.ref a), some (.ref m), some (.int (nI j))] [] h r) : ip_Rn l (lg_tbl, vwCl, Gr) M_La_law d 53 [some (.ref 0), some (.ref a), some (.ref m), some (.int (nI j))] [.int x] h r := by
  subst e
  exact ip_tabI (G := (lg_tbl, vwCl, Gr)) (tgt := 301) (oV_La_law.1 (53, .tableswitch 734 0 19 #[95, 156, 179, 192, 215, 248, 281, 315, 348, 369, 432, 445, 478, 501, 534, 567, 610, 643, 676, 710]) (ip_lk_mem rfl)) (by decide) (by decide) (off := 248) rfl (by decide) kk
set_option maxRecDepth 100000 in
theorem lw_sw6 {l : Launch} {Gr} {d a m j : Nat} {x : Int32} {h : ip_H} {r : Option Value × ip_H} (e : x = 6) (kk : ip_Rn l (lg_tbl, vwCl, Gr) M_La_law d 334 [some (.ref 0), some (.ref a), some (.ref m), some (.int (nI j))] [] h r) : ip_Rn l (lg_tbl, vwCl, Gr) M_La_law d 53 [some (.ref 0), some (.ref a), some (.ref m), some (.int (nI j))] [.int x] h r := by
  subst e
  exact ip_tabI (G := (lg_tbl, vwCl, Gr)) (tgt := 334) (oV_La_law.1 (53, .tableswitch 734 0 19 #[95, 156, 179, 192, 215, 248, 281, 315, 348, 369, 432, 445, 478, 501, 534, 567, 610, 643, 676, 710]) (ip_lk_mem rfl)) (by decide) (by decide) (off := 281) rfl (by decide) kk
set_option maxRecDepth 100000 in
theorem lw_sw7 {l : Launch} {Gr} {d a m j : Nat} {x : Int32} {h : ip_H} {r : Option Value × ip_H} (e : x = 7) (kk : ip_Rn l (lg_tbl, vwCl, Gr) M_La_law d 368 [some (.ref 0), some (.ref a), some (.ref m), some (.int (nI j))] [] h r) : ip_Rn l (lg_tbl, vwCl, Gr) M_La_law d 53 [some (.ref 0), some (.ref a), some (.ref m), some (.int (nI j))] [.int x] h r := by
  subst e
  exact ip_tabI (G := (lg_tbl, vwCl, Gr)) (tgt := 368) (oV_La_law.1 (53, .tableswitch 734 0 19 #[95, 156, 179, 192, 215, 248, 281, 315, 348, 369, 432, 445, 478, 501, 534, 567, 610, 643, 676, 710]) (ip_lk_mem rfl)) (by decide) (by decide) (off := 315) rfl (by decide) kk
set_option maxRecDepth 100000 in
theorem lw_sw8 {l : Launch} {Gr} {d a m j : Nat} {x : Int32} {h : ip_H} {r : Option Value × ip_H} (e : x = 8) (kk : ip_Rn l (lg_tbl, vwCl, Gr) M_La_law d 401 [some (.ref 0), some (.ref a), some (.ref m), some (.int (nI j))] [] h r) : ip_Rn l (lg_tbl, vwCl, Gr) M_La_law d 53 [some (.ref 0), some (.ref a), some (.ref m), some (.int (nI j))] [.int x] h r := by
  subst e
  exact ip_tabI (G := (lg_tbl, vwCl, Gr)) (tgt := 401) (oV_La_law.1 (53, .tableswitch 734 0 19 #[95, 156, 179, 192, 215, 248, 281, 315, 348, 369, 432, 445, 478, 501, 534, 567, 610, 643, 676, 710]) (ip_lk_mem rfl)) (by decide) (by decide) (off := 348) rfl (by decide) kk
set_option maxRecDepth 100000 in
theorem lw_sw9 {l : Launch} {Gr} {d a m j : Nat} {x : Int32} {h : ip_H} {r : Option Value × ip_H} (e : x = 9) (kk : ip_Rn l (lg_tbl, vwCl, Gr) M_La_law d 422 [some (.ref 0), some (.ref a), some (.ref m), some (.int (nI j))] [] h r) : ip_Rn l (lg_tbl, vwCl, Gr) M_La_law d 53 [some (.ref 0), some (.ref a), some (.ref m), some (.int (nI j))] [.int x] h r := by
  subst e
  exact ip_tabI (G := (lg_tbl, vwCl, Gr)) (tgt := 422) (oV_La_law.1 (53, .tableswitch 734 0 19 #[95, 156, 179, 192, 215, 248, 281, 315, 348, 369, 432, 445, 478, 501, 534, 567, 610, 643, 676, 710]) (ip_lk_mem rfl)) (by decide) (by decide) (off := 369) rfl (by decide) kk
set_option maxRecDepth 100000 in
theorem lw_sw10 {l : Launch} {Gr} {d a m j : Nat} {x : Int32} {h : ip_H} {r : Option Value × ip_H} (e : x = 10) (kk : ip_Rn l (lg_tbl, vwCl, Gr) M_La_law d 485 [some (.ref 0), some (.ref a), some (.ref m), some (.int (nI j))] [] h r) : ip_Rn l (lg_tbl, vwCl, Gr) M_La_law d 53 [some (.ref 0), some (.ref a), some (.ref m), some (.int (nI j))] [.int x] h r := by
  subst e
  exact ip_tabI (G := (lg_tbl, vwCl, Gr)) (tgt := 485) (oV_La_law.1 (53, .tableswitch 734 0 19 #[95, 156, 179, 192, 215, 248, 281, 315, 348, 369, 432, 445, 478, 501, 534, 567, 610, 643, 676, 710]) (ip_lk_mem rfl)) (by decide) (by decide) (off := 432) rfl (by decide) kk
set_option maxRecDepth 100000 in
theorem lw_sw11 {l : Launch} {Gr} {d a m j : Nat} {x : Int32} {h : ip_H} {r : Option Value × ip_H} (e : x = 11) (kk : ip_Rn l (lg_tbl, vwCl, Gr) M_La_law d 498 [some (.ref 0), some (.ref a), some (.ref m), some (.int (nI j))] [] h r) : ip_Rn l (lg_tbl, vwCl, Gr) M_La_law d 53 [some (.ref 0), some (.ref a), some (.ref m), some (.int (nI j))] [.int x] h r := by
  subst e
  exact ip_tabI (G := (lg_tbl, vwCl, Gr)) (tgt := 498) (oV_La_law.1 (53, .tableswitch 734 0 19 #[95, 156, 179, 192, 215, 248, 281, 315, 348, 369, 432, 445, 478, 501, 534, 567, 610, 643, 676, 710]) (ip_lk_mem rfl)) (by decide) (by decide) (off := 445) rfl (by decide) kk
set_option maxRecDepth 100000 in
theorem lw_sw12 {l : Launch} {Gr} {d a m j : Nat} {x : Int32} {h : ip_H} {r : Option Value × ip_H} (e : x = 12) (kk : ip_Rn l (lg_tbl, vwCl, Gr) M_La_law d 531 [some (.ref 0), some (.ref a), some (.ref m), some (.int (nI j))] [] h r) : ip_Rn l (lg_tbl, vwCl, Gr) M_La_law d 53 [some (.ref 0), some (.ref a), some (.ref m), some (.int (nI j))] [.int x] h r := by
  subst e
  exact ip_tabI (G := (lg_tbl, vwCl, Gr)) (tgt := 531) (oV_La_law.1 (53, .tableswitch 734 0 19 #[95, 156, 179, 192, 215, 248, 281, 315, 348, 369, 432, 445, 478, 501, 534, 567, 610, 643, 676, 710]) (ip_lk_mem rfl)) (by decide) (by decide) (off := 478) rfl (by decide) kk
set_option maxRecDepth 100000 in
theorem lw_sw13 {l : Launch} {Gr} {d a m j : Nat} {x : Int32} {h : ip_H} {r : Option Value × ip_H} (e : x = 13) (kk : ip_Rn l (lg_tbl, vwCl, Gr) M_La_law d 554 [some (.ref 0), some (.ref a), some (.ref m), some (.int (nI j))] [] h r) : ip_Rn l (lg_tbl, vwCl, Gr) M_La_law d 53 [some (.ref 0), some (.ref a), some (.ref m), some (.int (nI j))] [.int x] h r := by
  subst e
  exact ip_tabI (G := (lg_tbl, vwCl, Gr)) (tgt := 554) (oV_La_law.1 (53, .tableswitch 734 0 19 #[95, 156, 179, 192, 215, 248, 281, 315, 348, 369, 432, 445, 478, 501, 534, 567, 610, 643, 676, 710]) (ip_lk_mem rfl)) (by decide) (by decide) (off := 501) rfl (by decide) kk
set_option maxRecDepth 100000 in
theorem lw_sw14 {l : Launch} {Gr} {d a m j : Nat} {x : Int32} {h : ip_H} {r : Option Value × ip_H} (e : x = 14) (kk : ip_Rn l (lg_tbl, vwCl, Gr) M_La_law d 587 [some (.ref 0), some (.ref a), some (.ref m), some (.int (nI j))] [] h r) : ip_Rn l (lg_tbl, vwCl, Gr) M_La_law d 53 [some (.ref 0), some (.ref a), some (.ref m), some (.int (nI j))] [.int x] h r := by
  subst e
  exact ip_tabI (G := (lg_tbl, vwCl, Gr)) (tgt := 587) (oV_La_law.1 (53, .tableswitch 734 0 19 #[95, 156, 179, 192, 215, 248, 281, 315, 348, 369, 432, 445, 478, 501, 534, 567, 610, 643, 676, 710]) (ip_lk_mem rfl)) (by decide) (by decide) (off := 534) rfl (by decide) kk
set_option maxRecDepth 100000 in
theorem lw_sw15 {l : Launch} {Gr} {d a m j : Nat} {x : Int32} {h : ip_H} {r : Option Value × ip_H} (e : x = 15) (kk : ip_Rn l (lg_tbl, vwCl, Gr) M_La_law d 620 [some (.ref 0), some (.ref a), some (.ref m), some (.int (nI j))] [] h r) : ip_Rn l (lg_tbl, vwCl, Gr) M_La_law d 53 [some (.ref 0), some (.ref a), some (.ref m), some (.int (nI j))] [.int x] h r := by
  subst e
  exact ip_tabI (G := (lg_tbl, vwCl, Gr)) (tgt := 620) (oV_La_law.1 (53, .tableswitch 734 0 19 #[95, 156, 179, 192, 215, 248, 281, 315, 348, 369, 432, 445, 478, 501, 534, 567, 610, 643, 676, 710]) (ip_lk_mem rfl)) (by decide) (by decide) (off := 567) rfl (by decide) kk
set_option maxRecDepth 100000 in
theorem lw_sw16 {l : Launch} {Gr} {d a m j : Nat} {x : Int32} {h : ip_H} {r : Option Value × ip_H} (e : x = 16) (kk : ip_Rn l (lg_tbl, vwCl, Gr) M_La_law d 663 [some (.ref 0), some (.ref a), some (.ref m), some (.int (nI j))] [] h r) : ip_Rn l (lg_tbl, vwCl, Gr) M_La_law d 53 [some (.ref 0), some (.ref a), some (.ref m), some (.int (nI j))] [.int x] h r := by
  subst e
  exact ip_tabI (G := (lg_tbl, vwCl, Gr)) (tgt := 663) (oV_La_law.1 (53, .tableswitch 734 0 19 #[95, 156, 179, 192, 215, 248, 281, 315, 348, 369, 432, 445, 478, 501, 534, 567, 610, 643, 676, 710]) (ip_lk_mem rfl)) (by decide) (by decide) (off := 610) rfl (by decide) kk
set_option maxRecDepth 100000 in
theorem lw_sw17 {l : Launch} {Gr} {d a m j : Nat} {x : Int32} {h : ip_H} {r : Option Value × ip_H} (e : x = 17) (kk : ip_Rn l (lg_tbl, vwCl, Gr) M_La_law d 696 [some (.ref 0), some (.ref a), some (.ref m), some (.int (nI j))] [] h r) : ip_Rn l (lg_tbl, vwCl, Gr) M_La_law d 53 [some (.ref 0), some (.ref a), some (.ref m), some (.int (nI j))] [.int x] h r := by
  subst e
  exact ip_tabI (G := (lg_tbl, vwCl, Gr)) (tgt := 696) (oV_La_law.1 (53, .tableswitch 734 0 19 #[95, 156, 179, 192, 215, 248, 281, 315, 348, 369, 432, 445, 478, 501, 534, 567, 610, 643, 676, 710]) (ip_lk_mem rfl)) (by decide) (by decide) (off := 643) rfl (by decide) kk
set_option maxRecDepth 100000 in
theorem lw_sw18 {l : Launch} {Gr} {d a m j : Nat} {x : Int32} {h : ip_H} {r : Option Value × ip_H} (e : x = 18) (kk : ip_Rn l (lg_tbl, vwCl, Gr) M_La_law d 729 [some (.ref 0), some (.ref a), some (.ref m), some (.int (nI j))] [] h r) : ip_Rn l (lg_tbl, vwCl, Gr) M_La_law d 53 [some (.ref 0), some (.ref a), some (.ref m), some (.int (nI j))] [.int x] h r := by
  subst e
  exact ip_tabI (G := (lg_tbl, vwCl, Gr)) (tgt := 729) (oV_La_law.1 (53, .tableswitch 734 0 19 #[95, 156, 179, 192, 215, 248, 281, 315, 348, 369, 432, 445, 478, 501, 534, 567, 610, 643, 676, 710]) (ip_lk_mem rfl)) (by decide) (by decide) (off := 676) rfl (by decide) kk
set_option maxRecDepth 100000 in
theorem lw_sw19 {l : Launch} {Gr} {d a m j : Nat} {x : Int32} {h : ip_H} {r : Option Value × ip_H} (e : x = 19) (kk : ip_Rn l (lg_tbl, vwCl, Gr) M_La_law d 763 [some (.ref 0), some (.ref a), some (.ref m), some (.int (nI j))] [] h r) : ip_Rn l (lg_tbl, vwCl, Gr) M_La_law d 53 [some (.ref 0), some (.ref a), some (.ref m), some (.int (nI j))] [.int x] h r := by
  subst e
  exact ip_tabI (G := (lg_tbl, vwCl, Gr)) (tgt := 763) (oV_La_law.1 (53, .tableswitch 734 0 19 #[95, 156, 179, 192, 215, 248, 281, 315, 348, 369, 432, 445, 478, 501, 534, 567, 610, 643, 676, 710]) (ip_lk_mem rfl)) (by decide) (by decide) (off := 710) rfl (by decide) kk
set_option maxRecDepth 100000 in
theorem lw_swd {l : Launch} {Gr} {d a m j : Nat} {x : Int32} {h : ip_H} {r : Option Value × ip_H} (e : 19 < x.toInt) (kk : ip_Rn l (lg_tbl, vwCl, Gr) M_La_law d 787 [some (.ref 0), some (.ref a), some (.ref m), some (.int (nI j))] [] h r) : ip_Rn l (lg_tbl, vwCl, Gr) M_La_law d 53 [some (.ref 0), some (.ref a), some (.ref m), some (.int (nI j))] [.int x] h r :=
  ip_tabO (G := (lg_tbl, vwCl, Gr)) (tgt := 787) (oV_La_law.1 (53, .tableswitch 734 0 19 #[95, 156, 179, 192, 215, 248, 281, 315, 348, 369, 432, 445, 478, 501, 534, 567, 610, 643, 676, 710]) (ip_lk_mem rfl)) (Or.inr e) (by decide) kk
set_option maxRecDepth 100000 in
theorem lw_next {l : Launch} {Gr} {d a m j : Nat} {h : ip_H} {r : Option Value × ip_H} (kk : ip_Rn l (lg_tbl, vwCl, Gr) M_La_law d 38 [some (.ref 0), some (.ref a), some (.ref m), some (.int (nI (j + 6)))] [] h r) : ip_Rn l (lg_tbl, vwCl, Gr) M_La_law d 787 [some (.ref 0), some (.ref a), some (.ref m), some (.int (nI j))] [] h r := by
  refine ip_go (G := (lg_tbl, vwCl, Gr)) (ini := false) oV_La_law (fun q => Bool.noConfusion q) 2 (pc' := 38) (L' := [some (.ref 0), some (.ref a), some (.ref m), some (.int (nI j + Int32.ofInt 6))]) (st' := []) (h' := _) rfl ?_
  rw [show nI j + Int32.ofInt 6 = nI (j + 6) from nI_add j 6]
  exact kk
theorem lw_op (x : Int32) : ∃ k : Nat, k < 32 ∧ x &&& 31 = nI k := pk_andE x 5 (by decide)
set_option maxRecDepth 100000 in
theorem c_cell {l : Launch} {Gr} {k Lx : Nat} {xs : Nat → Int32} {h : ip_H} (d : Nat) (hX : ∀ U : State, ip_X (lg_tbl, vwCl, Gr) U → va_X (ip_O (lg_tbl, vwCl, Gr) 0) Lx xs U U.heap) (hb : ip_O (lg_tbl, vwCl, Gr) 0 < ip_B (lg_tbl, vwCl, Gr)) (hL : Lx ≤ 100000) (hk : k ≤ 10) : ip_RnM l (lg_tbl, vwCl, Gr) M_La_cell d [.ref 0, .int (nI k)] h (some (.int (if k < Lx then xs k else 0)), h) := by
  refine ip_ofRn (G := (lg_tbl, vwCl, Gr)) oM_La_cell (⟨rfl, by decide⟩) (Nat.le_of_ble_eq_true rfl) ?_
  show ip_Rn l _ _ d 0 [some (.ref 0), some (.int (nI k))] [] _ _
  refine ip_go (G := (lg_tbl, vwCl, Gr)) (ini := false) oV_La_cell (fun q => Bool.noConfusion q) 2 (pc' := 2) (L' := [some (.ref 0), some (.int (nI k))]) (st' := [.ref 0, .int (nI k)]) (h' := _) rfl ?_
  refine ip_slen (G := (lg_tbl, vwCl, Gr)) (oV_La_cell.1 (2, .arraylength) (ip_lk_mem rfl)) hX hb ?_
  by_cases q : k < Lx
  · rw [if_pos q]
    refine ip_icmp_ge_f (G := (lg_tbl, vwCl, Gr)) (tgt := 12) (oV_La_cell.1 (3, .if_icmp .ge 9) (ip_lk_mem rfl)) (by decide) (nI_ge q (by omega)) ?_
    refine ip_go (G := (lg_tbl, vwCl, Gr)) (ini := false) oV_La_cell (fun q => Bool.noConfusion q) 2 (pc' := 8) (L' := [some (.ref 0), some (.int (nI k))]) (st' := [.int (nI k), .ref 0]) (h' := _) rfl ?_
    refine ip_sld (G := (lg_tbl, vwCl, Gr)) (q := k) (oV_La_cell.1 (8, .iaload) (ip_lk_mem rfl)) hX hb rfl q (by omega) ?_
    refine ip_go (G := (lg_tbl, vwCl, Gr)) (ini := false) oV_La_cell (fun q => Bool.noConfusion q) 1 (pc' := 13) (L' := [some (.ref 0), some (.int (nI k))]) (st' := [.int (xs k)]) (h' := _) rfl ?_
    exact ip_ret (G := (lg_tbl, vwCl, Gr)) (v := some (.int (xs k))) (oV_La_cell.1 (13, .ireturn) (ip_lk_mem rfl))
  · rw [if_neg q]
    refine ip_icmp_ge_t (G := (lg_tbl, vwCl, Gr)) (tgt := 12) (oV_La_cell.1 (3, .if_icmp .ge 9) (ip_lk_mem rfl)) (by decide) (nI_le (by omega) (by omega)) ?_
    refine ip_go (G := (lg_tbl, vwCl, Gr)) (ini := false) oV_La_cell (fun q => Bool.noConfusion q) 1 (pc' := 13) (L' := [some (.ref 0), some (.int (nI k))]) (st' := [.int 0]) (h' := _) rfl ?_
    exact ip_ret (G := (lg_tbl, vwCl, Gr)) (v := some (.int 0)) (oV_La_cell.1 (13, .ireturn) (ip_lk_mem rfl))
end
section
theorem cl_ex (a b : Nat) (hab : a ≤ b) (hb : b ≤ 100) (p : Int32) : ∃ n : Nat, (a ≤ n ∧ n ≤ b) ∧ ip_max (nI a) (ip_min (nI b) p) = nI n := by
  obtain ⟨c1, c2, c3⟩ := cl_spec (a := nI a) (b := nI b) (p := p) (nI_le hab (by omega)) rfl
  by_cases h1 : nI a ≤ p
  · by_cases h2 : p ≤ nI b
    · obtain ⟨k, hk, rfl⟩ := nI_of2 (M := nI b) (n := b) (nI_toInt (by omega)) (fun q => by
        have q1 := Int32.le_iff_toInt_le.mp h1
        have q2 := Int32.lt_iff_toInt_lt.mp q
        rw [nI_toInt (by omega)] at q1
        have q3 : (0 : Int32).toInt = 0 := rfl
        omega) h2
      exact ⟨k, ⟨(nI_leI (by omega) (by omega)).mp h1, hk⟩, (c3 h1 h2).symm⟩
    · exact ⟨b, ⟨hab, Nat.le_refl _⟩, (c2 h2).symm⟩
  · exact ⟨a, ⟨Nat.le_refl _, hab⟩, (c1 h1).symm⟩
end
