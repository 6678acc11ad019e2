section
-- ===== PART A: goes FIRST, ahead of the names: the tables' words, and 'selects' of the private methods out of them =====
/-- a private method of a class that the tables say can be made, by its rows of tables_1 -/
def lw_okq (q : MethodName × Nat) : Prop := (q.1.cls ≠ "java/lang/invoke/MethodHandle" ∧ q.1.cls ≠ "java/lang/invoke/VarHandle") ∧ Cond.instantiable q.1.cls q.2 ∈ tables_1 ∧ Cond.privateMethod q.1 ∈ tables_1 ∧ Cond.instanceMethod q.1 ∈ tables_1
theorem lw_p0 : lw_okq (⟨"ShareHouse", "putReady", "(II)V"⟩, 17) := ⟨⟨by decide +kernel, by decide +kernel⟩, List.mem_of_getElem? (i := 23) (by decide +kernel), List.mem_of_getElem? (i := 617) (by decide +kernel), List.mem_of_getElem? (i := 618) (by decide +kernel)⟩
theorem lw_p1 : lw_okq (⟨"ShareHouse$Words", "skipBlanks", "()V"⟩, 5) := ⟨⟨by decide +kernel, by decide +kernel⟩, List.mem_of_getElem? (i := 272) (by decide +kernel), List.mem_of_getElem? (i := 665) (by decide +kernel), List.mem_of_getElem? (i := 666) (by decide +kernel)⟩
theorem lw_p2 : lw_okq (⟨"ShareHouse$Words", "wordKind", "()I"⟩, 5) := ⟨⟨by decide +kernel, by decide +kernel⟩, List.mem_of_getElem? (i := 272) (by decide +kernel), List.mem_of_getElem? (i := 675) (by decide +kernel), List.mem_of_getElem? (i := 676) (by decide +kernel)⟩
theorem lw_p3 : lw_okq (⟨"ShareHouse$Reader", "readInput", "()V"⟩, 11) := ⟨⟨by decide +kernel, by decide +kernel⟩, List.mem_of_getElem? (i := 266) (by decide +kernel), List.mem_of_getElem? (i := 731) (by decide +kernel), List.mem_of_getElem? (i := 732) (by decide +kernel)⟩
theorem lw_p4 : lw_okq (⟨"ShareHouse$Reader", "takeName", "()I"⟩, 11) := ⟨⟨by decide +kernel, by decide +kernel⟩, List.mem_of_getElem? (i := 266) (by decide +kernel), List.mem_of_getElem? (i := 736) (by decide +kernel), List.mem_of_getElem? (i := 737) (by decide +kernel)⟩
theorem lw_p5 : lw_okq (⟨"ShareHouse$Reader", "expect", "(I)V"⟩, 11) := ⟨⟨by decide +kernel, by decide +kernel⟩, List.mem_of_getElem? (i := 266) (by decide +kernel), List.mem_of_getElem? (i := 744) (by decide +kernel), List.mem_of_getElem? (i := 745) (by decide +kernel)⟩
theorem lw_p6 : lw_okq (⟨"ShareHouse$Reader", "takeNumber", "(JJ)J"⟩, 11) := ⟨⟨by decide +kernel, by decide +kernel⟩, List.mem_of_getElem? (i := 266) (by decide +kernel), List.mem_of_getElem? (i := 748) (by decide +kernel), List.mem_of_getElem? (i := 749) (by decide +kernel)⟩
theorem lw_p7 : lw_okq (⟨"ShareHouse$Reader", "takeTyped", "(III)I"⟩, 11) := ⟨⟨by decide +kernel, by decide +kernel⟩, List.mem_of_getElem? (i := 266) (by decide +kernel), List.mem_of_getElem? (i := 759) (by decide +kernel), List.mem_of_getElem? (i := 760) (by decide +kernel)⟩
theorem lw_p8 : lw_okq (⟨"ShareHouse$Reader", "takeSort", "()I"⟩, 11) := ⟨⟨by decide +kernel, by decide +kernel⟩, List.mem_of_getElem? (i := 266) (by decide +kernel), List.mem_of_getElem? (i := 763) (by decide +kernel), List.mem_of_getElem? (i := 764) (by decide +kernel)⟩
theorem lw_p9 : lw_okq (⟨"ShareHouse$Names", "stopOf", "(I)I"⟩, 13) := ⟨⟨by decide +kernel, by decide +kernel⟩, List.mem_of_getElem? (i := 84) (by decide +kernel), List.mem_of_getElem? (i := 788) (by decide +kernel), List.mem_of_getElem? (i := 789) (by decide +kernel)⟩
theorem lw_p10 : lw_okq (⟨"ShareHouse$Reader", "readDef", "()V"⟩, 11) := ⟨⟨by decide +kernel, by decide +kernel⟩, List.mem_of_getElem? (i := 266) (by decide +kernel), List.mem_of_getElem? (i := 811) (by decide +kernel), List.mem_of_getElem? (i := 812) (by decide +kernel)⟩
theorem lw_p11 : lw_okq (⟨"ShareHouse$Reader", "readParam", "(I)V"⟩, 11) := ⟨⟨by decide +kernel, by decide +kernel⟩, List.mem_of_getElem? (i := 266) (by decide +kernel), List.mem_of_getElem? (i := 815) (by decide +kernel), List.mem_of_getElem? (i := 816) (by decide +kernel)⟩
theorem lw_p12 : lw_okq (⟨"ShareHouse$Reader", "readExpr", "(I)V"⟩, 11) := ⟨⟨by decide +kernel, by decide +kernel⟩, List.mem_of_getElem? (i := 266) (by decide +kernel), List.mem_of_getElem? (i := 819) (by decide +kernel), List.mem_of_getElem? (i := 820) (by decide +kernel)⟩
theorem lw_p13 : lw_okq (⟨"ShareHouse$Reader", "readChoice", "(I)V"⟩, 11) := ⟨⟨by decide +kernel, by decide +kernel⟩, List.mem_of_getElem? (i := 266) (by decide +kernel), List.mem_of_getElem? (i := 823) (by decide +kernel), List.mem_of_getElem? (i := 824) (by decide +kernel)⟩
theorem lw_p14 : lw_okq (⟨"ShareHouse$Reader", "readFactor", "(I)V"⟩, 11) := ⟨⟨by decide +kernel, by decide +kernel⟩, List.mem_of_getElem? (i := 266) (by decide +kernel), List.mem_of_getElem? (i := 827) (by decide +kernel), List.mem_of_getElem? (i := 828) (by decide +kernel)⟩
theorem lw_p15 : lw_okq (⟨"ShareHouse$Reader", "opens", "(II)Z"⟩, 11) := ⟨⟨by decide +kernel, by decide +kernel⟩, List.mem_of_getElem? (i := 266) (by decide +kernel), List.mem_of_getElem? (i := 831) (by decide +kernel), List.mem_of_getElem? (i := 832) (by decide +kernel)⟩
def lw_privs_1 : List (MethodName × Nat) := [(⟨"ShareHouse", "putReady", "(II)V"⟩, 17), (⟨"ShareHouse$Words", "skipBlanks", "()V"⟩, 5), (⟨"ShareHouse$Words", "wordKind", "()I"⟩, 5), (⟨"ShareHouse$Reader", "readInput", "()V"⟩, 11), (⟨"ShareHouse$Reader", "takeName", "()I"⟩, 11), (⟨"ShareHouse$Reader", "expect", "(I)V"⟩, 11), (⟨"ShareHouse$Reader", "takeNumber", "(JJ)J"⟩, 11), (⟨"ShareHouse$Reader", "takeTyped", "(III)I"⟩, 11), (⟨"ShareHouse$Reader", "takeSort", "()I"⟩, 11), (⟨"ShareHouse$Names", "stopOf", "(I)I"⟩, 13), (⟨"ShareHouse$Reader", "readDef", "()V"⟩, 11), (⟨"ShareHouse$Reader", "readParam", "(I)V"⟩, 11), (⟨"ShareHouse$Reader", "readExpr", "(I)V"⟩, 11), (⟨"ShareHouse$Reader", "readChoice", "(I)V"⟩, 11), (⟨"ShareHouse$Reader", "readFactor", "(I)V"⟩, 11), (⟨"ShareHouse$Reader", "opens", "(II)Z"⟩, 11)]
theorem lw_r1 : ∀ q ∈ lw_privs_1, lw_okq q := List.forall_mem_cons.mpr ⟨lw_p0, List.forall_mem_cons.mpr ⟨lw_p1, List.forall_mem_cons.mpr ⟨lw_p2, List.forall_mem_cons.mpr ⟨lw_p3, List.forall_mem_cons.mpr ⟨lw_p4, List.forall_mem_cons.mpr ⟨lw_p5, List.forall_mem_cons.mpr ⟨lw_p6, List.forall_mem_cons.mpr ⟨lw_p7, List.forall_mem_cons.mpr ⟨lw_p8, List.forall_mem_cons.mpr ⟨lw_p9, List.forall_mem_cons.mpr ⟨lw_p10, List.forall_mem_cons.mpr ⟨lw_p11, List.forall_mem_cons.mpr ⟨lw_p12, List.forall_mem_cons.mpr ⟨lw_p13, List.forall_mem_cons.mpr ⟨lw_p14, List.forall_mem_cons.mpr ⟨lw_p15, fun _ h => absurd h List.not_mem_nil⟩⟩⟩⟩⟩⟩⟩⟩⟩⟩⟩⟩⟩⟩⟩⟩
theorem lw_p16 : lw_okq (⟨"ShareHouse$Reader", "readNamed", "(I)V"⟩, 11) := ⟨⟨by decide +kernel, by decide +kernel⟩, List.mem_of_getElem? (i := 266) (by decide +kernel), List.mem_of_getElem? (i := 836) (by decide +kernel), List.mem_of_getElem? (i := 837) (by decide +kernel)⟩
theorem lw_p17 : lw_okq (⟨"ShareHouse$Reader", "readIndex", "(II)V"⟩, 11) := ⟨⟨by decide +kernel, by decide +kernel⟩, List.mem_of_getElem? (i := 266) (by decide +kernel), List.mem_of_getElem? (i := 840) (by decide +kernel), List.mem_of_getElem? (i := 841) (by decide +kernel)⟩
theorem lw_p18 : lw_okq (⟨"ShareHouse$Reader", "readCall", "(II)V"⟩, 11) := ⟨⟨by decide +kernel, by decide +kernel⟩, List.mem_of_getElem? (i := 266) (by decide +kernel), List.mem_of_getElem? (i := 844) (by decide +kernel), List.mem_of_getElem? (i := 845) (by decide +kernel)⟩
theorem lw_p19 : lw_okq (⟨"ShareHouse$Reader", "readConversion", "(ZI)V"⟩, 11) := ⟨⟨by decide +kernel, by decide +kernel⟩, List.mem_of_getElem? (i := 266) (by decide +kernel), List.mem_of_getElem? (i := 849) (by decide +kernel), List.mem_of_getElem? (i := 850) (by decide +kernel)⟩
theorem lw_p20 : lw_okq (⟨"ShareHouse$Reader", "settle", "(II)V"⟩, 11) := ⟨⟨by decide +kernel, by decide +kernel⟩, List.mem_of_getElem? (i := 266) (by decide +kernel), List.mem_of_getElem? (i := 861) (by decide +kernel), List.mem_of_getElem? (i := 862) (by decide +kernel)⟩
theorem lw_p21 : lw_okq (⟨"ShareHouse$Reader", "readOutput", "()V"⟩, 11) := ⟨⟨by decide +kernel, by decide +kernel⟩, List.mem_of_getElem? (i := 266) (by decide +kernel), List.mem_of_getElem? (i := 865) (by decide +kernel), List.mem_of_getElem? (i := 866) (by decide +kernel)⟩
theorem lw_p22 : lw_okq (⟨"ShareHouse$Reader", "readStatement", "(I)V"⟩, 11) := ⟨⟨by decide +kernel, by decide +kernel⟩, List.mem_of_getElem? (i := 266) (by decide +kernel), List.mem_of_getElem? (i := 869) (by decide +kernel), List.mem_of_getElem? (i := 870) (by decide +kernel)⟩
theorem lw_p23 : lw_okq (⟨"ShareHouse$Reader", "readVar", "(I)V"⟩, 11) := ⟨⟨by decide +kernel, by decide +kernel⟩, List.mem_of_getElem? (i := 266) (by decide +kernel), List.mem_of_getElem? (i := 873) (by decide +kernel), List.mem_of_getElem? (i := 874) (by decide +kernel)⟩
theorem lw_p24 : lw_okq (⟨"ShareHouse$Reader", "readAssignment", "(I)V"⟩, 11) := ⟨⟨by decide +kernel, by decide +kernel⟩, List.mem_of_getElem? (i := 266) (by decide +kernel), List.mem_of_getElem? (i := 877) (by decide +kernel), List.mem_of_getElem? (i := 878) (by decide +kernel)⟩
theorem lw_p25 : lw_okq (⟨"ShareHouse$Reader", "readIf", "(I)V"⟩, 11) := ⟨⟨by decide +kernel, by decide +kernel⟩, List.mem_of_getElem? (i := 266) (by decide +kernel), List.mem_of_getElem? (i := 881) (by decide +kernel), List.mem_of_getElem? (i := 882) (by decide +kernel)⟩
theorem lw_p26 : lw_okq (⟨"ShareHouse$Reader", "readBlock", "(I)V"⟩, 11) := ⟨⟨by decide +kernel, by decide +kernel⟩, List.mem_of_getElem? (i := 266) (by decide +kernel), List.mem_of_getElem? (i := 885) (by decide +kernel), List.mem_of_getElem? (i := 886) (by decide +kernel)⟩
theorem lw_p27 : lw_okq (⟨"ShareHouse$Reader", "readFor", "(I)V"⟩, 11) := ⟨⟨by decide +kernel, by decide +kernel⟩, List.mem_of_getElem? (i := 266) (by decide +kernel), List.mem_of_getElem? (i := 889) (by decide +kernel), List.mem_of_getElem? (i := 890) (by decide +kernel)⟩
theorem lw_p28 : lw_okq (⟨"ShareHouse$Sorts", "checkStatement", "(II)V"⟩, 11) := ⟨⟨by decide +kernel, by decide +kernel⟩, List.mem_of_getElem? (i := 331) (by decide +kernel), List.mem_of_getElem? (i := 897) (by decide +kernel), List.mem_of_getElem? (i := 898) (by decide +kernel)⟩
theorem lw_p29 : lw_okq (⟨"ShareHouse$Sorts", "comeIn", "(I)V"⟩, 11) := ⟨⟨by decide +kernel, by decide +kernel⟩, List.mem_of_getElem? (i := 331) (by decide +kernel), List.mem_of_getElem? (i := 901) (by decide +kernel), List.mem_of_getElem? (i := 902) (by decide +kernel)⟩
theorem lw_p30 : lw_okq (⟨"ShareHouse$Names", "isSame", "(III)Z"⟩, 13) := ⟨⟨by decide +kernel, by decide +kernel⟩, List.mem_of_getElem? (i := 84) (by decide +kernel), List.mem_of_getElem? (i := 909) (by decide +kernel), List.mem_of_getElem? (i := 910) (by decide +kernel)⟩
theorem lw_p31 : lw_okq (⟨"ShareHouse$Sorts", "mustBe", "(II)I"⟩, 11) := ⟨⟨by decide +kernel, by decide +kernel⟩, List.mem_of_getElem? (i := 331) (by decide +kernel), List.mem_of_getElem? (i := 922) (by decide +kernel), List.mem_of_getElem? (i := 923) (by decide +kernel)⟩
def lw_privs_2 : List (MethodName × Nat) := [(⟨"ShareHouse$Reader", "readNamed", "(I)V"⟩, 11), (⟨"ShareHouse$Reader", "readIndex", "(II)V"⟩, 11), (⟨"ShareHouse$Reader", "readCall", "(II)V"⟩, 11), (⟨"ShareHouse$Reader", "readConversion", "(ZI)V"⟩, 11), (⟨"ShareHouse$Reader", "settle", "(II)V"⟩, 11), (⟨"ShareHouse$Reader", "readOutput", "()V"⟩, 11), (⟨"ShareHouse$Reader", "readStatement", "(I)V"⟩, 11), (⟨"ShareHouse$Reader", "readVar", "(I)V"⟩, 11), (⟨"ShareHouse$Reader", "readAssignment", "(I)V"⟩, 11), (⟨"ShareHouse$Reader", "readIf", "(I)V"⟩, 11), (⟨"ShareHouse$Reader", "readBlock", "(I)V"⟩, 11), (⟨"ShareHouse$Reader", "readFor", "(I)V"⟩, 11), (⟨"ShareHouse$Sorts", "checkStatement", "(II)V"⟩, 11), (⟨"ShareHouse$Sorts", "comeIn", "(I)V"⟩, 11), (⟨"ShareHouse$Names", "isSame", "(III)Z"⟩, 13), (⟨"ShareHouse$Sorts", "mustBe", "(II)I"⟩, 11)]
theorem lw_r2 : ∀ q ∈ lw_privs_2, lw_okq q := List.forall_mem_cons.mpr ⟨lw_p16, List.forall_mem_cons.mpr ⟨lw_p17, List.forall_mem_cons.mpr ⟨lw_p18, List.forall_mem_cons.mpr ⟨lw_p19, List.forall_mem_cons.mpr ⟨lw_p20, List.forall_mem_cons.mpr ⟨lw_p21, List.forall_mem_cons.mpr ⟨lw_p22, List.forall_mem_cons.mpr ⟨lw_p23, List.forall_mem_cons.mpr ⟨lw_p24, List.forall_mem_cons.mpr ⟨lw_p25, List.forall_mem_cons.mpr ⟨lw_p26, List.forall_mem_cons.mpr ⟨lw_p27, List.forall_mem_cons.mpr ⟨lw_p28, List.forall_mem_cons.mpr ⟨lw_p29, List.forall_mem_cons.mpr ⟨lw_p30, List.forall_mem_cons.mpr ⟨lw_p31, fun _ h => absurd h List.not_mem_nil⟩⟩⟩⟩⟩⟩⟩⟩⟩⟩⟩⟩⟩⟩⟩⟩
theorem lw_p32 : lw_okq (⟨"ShareHouse$Sorts", "pop", "()I"⟩, 11) := ⟨⟨by decide +kernel, by decide +kernel⟩, List.mem_of_getElem? (i := 331) (by decide +kernel), List.mem_of_getElem? (i := 926) (by decide +kernel), List.mem_of_getElem? (i := 927) (by decide +kernel)⟩
theorem lw_p33 : lw_okq (⟨"ShareHouse$Sorts", "checkTarget", "(IZ)V"⟩, 11) := ⟨⟨by decide +kernel, by decide +kernel⟩, List.mem_of_getElem? (i := 331) (by decide +kernel), List.mem_of_getElem? (i := 938) (by decide +kernel), List.mem_of_getElem? (i := 939) (by decide +kernel)⟩
theorem lw_p34 : lw_okq (⟨"ShareHouse$Sorts", "resolve", "(I)I"⟩, 11) := ⟨⟨by decide +kernel, by decide +kernel⟩, List.mem_of_getElem? (i := 331) (by decide +kernel), List.mem_of_getElem? (i := 942) (by decide +kernel), List.mem_of_getElem? (i := 943) (by decide +kernel)⟩
theorem lw_p35 : lw_okq (⟨"ShareHouse$Sorts", "noteAssigned", "(I)V"⟩, 11) := ⟨⟨by decide +kernel, by decide +kernel⟩, List.mem_of_getElem? (i := 331) (by decide +kernel), List.mem_of_getElem? (i := 950) (by decide +kernel), List.mem_of_getElem? (i := 951) (by decide +kernel)⟩
theorem lw_p36 : lw_okq (⟨"ShareHouse$Sorts", "widen", "(III)V"⟩, 11) := ⟨⟨by decide +kernel, by decide +kernel⟩, List.mem_of_getElem? (i := 331) (by decide +kernel), List.mem_of_getElem? (i := 954) (by decide +kernel), List.mem_of_getElem? (i := 955) (by decide +kernel)⟩
theorem lw_p37 : lw_okq (⟨"ShareHouse$Sorts", "checkFlow", "(II)V"⟩, 11) := ⟨⟨by decide +kernel, by decide +kernel⟩, List.mem_of_getElem? (i := 331) (by decide +kernel), List.mem_of_getElem? (i := 960) (by decide +kernel), List.mem_of_getElem? (i := 961) (by decide +kernel)⟩
theorem lw_p38 : lw_okq (⟨"ShareHouse$Sorts", "openScope", "()V"⟩, 11) := ⟨⟨by decide +kernel, by decide +kernel⟩, List.mem_of_getElem? (i := 331) (by decide +kernel), List.mem_of_getElem? (i := 964) (by decide +kernel), List.mem_of_getElem? (i := 965) (by decide +kernel)⟩
theorem lw_p39 : lw_okq (⟨"ShareHouse$Sorts", "openIf", "()V"⟩, 11) := ⟨⟨by decide +kernel, by decide +kernel⟩, List.mem_of_getElem? (i := 331) (by decide +kernel), List.mem_of_getElem? (i := 968) (by decide +kernel), List.mem_of_getElem? (i := 969) (by decide +kernel)⟩
theorem lw_p40 : lw_okq (⟨"ShareHouse$Sorts", "closeScope", "()V"⟩, 11) := ⟨⟨by decide +kernel, by decide +kernel⟩, List.mem_of_getElem? (i := 331) (by decide +kernel), List.mem_of_getElem? (i := 972) (by decide +kernel), List.mem_of_getElem? (i := 973) (by decide +kernel)⟩
theorem lw_p41 : lw_okq (⟨"ShareHouse$Sorts", "closeIf", "(I)V"⟩, 11) := ⟨⟨by decide +kernel, by decide +kernel⟩, List.mem_of_getElem? (i := 331) (by decide +kernel), List.mem_of_getElem? (i := 981) (by decide +kernel), List.mem_of_getElem? (i := 982) (by decide +kernel)⟩
theorem lw_p42 : lw_okq (⟨"ShareHouse$Sorts", "mustBePublic", "(II)V"⟩, 11) := ⟨⟨by decide +kernel, by decide +kernel⟩, List.mem_of_getElem? (i := 331) (by decide +kernel), List.mem_of_getElem? (i := 985) (by decide +kernel), List.mem_of_getElem? (i := 986) (by decide +kernel)⟩
theorem lw_p43 : lw_okq (⟨"ShareHouse$Sorts", "checkFactor", "(II)V"⟩, 11) := ⟨⟨by decide +kernel, by decide +kernel⟩, List.mem_of_getElem? (i := 331) (by decide +kernel), List.mem_of_getElem? (i := 989) (by decide +kernel), List.mem_of_getElem? (i := 990) (by decide +kernel)⟩
theorem lw_p44 : lw_okq (⟨"ShareHouse$Sorts", "push", "(I)V"⟩, 11) := ⟨⟨by decide +kernel, by decide +kernel⟩, List.mem_of_getElem? (i := 331) (by decide +kernel), List.mem_of_getElem? (i := 993) (by decide +kernel), List.mem_of_getElem? (i := 994) (by decide +kernel)⟩
theorem lw_p45 : lw_okq (⟨"ShareHouse$Sorts", "checkName", "(I)V"⟩, 11) := ⟨⟨by decide +kernel, by decide +kernel⟩, List.mem_of_getElem? (i := 331) (by decide +kernel), List.mem_of_getElem? (i := 998) (by decide +kernel), List.mem_of_getElem? (i := 999) (by decide +kernel)⟩
theorem lw_p46 : lw_okq (⟨"ShareHouse$Sorts", "checkHead", "(IZ)V"⟩, 11) := ⟨⟨by decide +kernel, by decide +kernel⟩, List.mem_of_getElem? (i := 331) (by decide +kernel), List.mem_of_getElem? (i := 1002) (by decide +kernel), List.mem_of_getElem? (i := 1003) (by decide +kernel)⟩
theorem lw_p47 : lw_okq (⟨"ShareHouse$Sorts", "checkSign", "(II)V"⟩, 11) := ⟨⟨by decide +kernel, by decide +kernel⟩, List.mem_of_getElem? (i := 331) (by decide +kernel), List.mem_of_getElem? (i := 1006) (by decide +kernel), List.mem_of_getElem? (i := 1007) (by decide +kernel)⟩
def lw_privs_3 : List (MethodName × Nat) := [(⟨"ShareHouse$Sorts", "pop", "()I"⟩, 11), (⟨"ShareHouse$Sorts", "checkTarget", "(IZ)V"⟩, 11), (⟨"ShareHouse$Sorts", "resolve", "(I)I"⟩, 11), (⟨"ShareHouse$Sorts", "noteAssigned", "(I)V"⟩, 11), (⟨"ShareHouse$Sorts", "widen", "(III)V"⟩, 11), (⟨"ShareHouse$Sorts", "checkFlow", "(II)V"⟩, 11), (⟨"ShareHouse$Sorts", "openScope", "()V"⟩, 11), (⟨"ShareHouse$Sorts", "openIf", "()V"⟩, 11), (⟨"ShareHouse$Sorts", "closeScope", "()V"⟩, 11), (⟨"ShareHouse$Sorts", "closeIf", "(I)V"⟩, 11), (⟨"ShareHouse$Sorts", "mustBePublic", "(II)V"⟩, 11), (⟨"ShareHouse$Sorts", "checkFactor", "(II)V"⟩, 11), (⟨"ShareHouse$Sorts", "push", "(I)V"⟩, 11), (⟨"ShareHouse$Sorts", "checkName", "(I)V"⟩, 11), (⟨"ShareHouse$Sorts", "checkHead", "(IZ)V"⟩, 11), (⟨"ShareHouse$Sorts", "checkSign", "(II)V"⟩, 11)]
theorem lw_r3 : ∀ q ∈ lw_privs_3, lw_okq q := List.forall_mem_cons.mpr ⟨lw_p32, List.forall_mem_cons.mpr ⟨lw_p33, List.forall_mem_cons.mpr ⟨lw_p34, List.forall_mem_cons.mpr ⟨lw_p35, List.forall_mem_cons.mpr ⟨lw_p36, List.forall_mem_cons.mpr ⟨lw_p37, List.forall_mem_cons.mpr ⟨lw_p38, List.forall_mem_cons.mpr ⟨lw_p39, List.forall_mem_cons.mpr ⟨lw_p40, List.forall_mem_cons.mpr ⟨lw_p41, List.forall_mem_cons.mpr ⟨lw_p42, List.forall_mem_cons.mpr ⟨lw_p43, List.forall_mem_cons.mpr ⟨lw_p44, List.forall_mem_cons.mpr ⟨lw_p45, List.forall_mem_cons.mpr ⟨lw_p46, List.forall_mem_cons.mpr ⟨lw_p47, fun _ h => absurd h List.not_mem_nil⟩⟩⟩⟩⟩⟩⟩⟩⟩⟩⟩⟩⟩⟩⟩⟩
theorem lw_p48 : lw_okq (⟨"ShareHouse$Sorts", "checkOperator", "(II)V"⟩, 11) := ⟨⟨by decide +kernel, by decide +kernel⟩, List.mem_of_getElem? (i := 331) (by decide +kernel), List.mem_of_getElem? (i := 1010) (by decide +kernel), List.mem_of_getElem? (i := 1011) (by decide +kernel)⟩
theorem lw_p49 : lw_okq (⟨"ShareHouse$Builder", "buildStatement", "(II)V"⟩, 19) := ⟨⟨by decide +kernel, by decide +kernel⟩, List.mem_of_getElem? (i := 371) (by decide +kernel), List.mem_of_getElem? (i := 1027) (by decide +kernel), List.mem_of_getElem? (i := 1028) (by decide +kernel)⟩
theorem lw_p50 : lw_okq (⟨"ShareHouse$Builder", "goBack", "()V"⟩, 19) := ⟨⟨by decide +kernel, by decide +kernel⟩, List.mem_of_getElem? (i := 371) (by decide +kernel), List.mem_of_getElem? (i := 1031) (by decide +kernel), List.mem_of_getElem? (i := 1032) (by decide +kernel)⟩
theorem lw_p51 : lw_okq (⟨"ShareHouse$Builder", "reserve", "(I)V"⟩, 19) := ⟨⟨by decide +kernel, by decide +kernel⟩, List.mem_of_getElem? (i := 371) (by decide +kernel), List.mem_of_getElem? (i := 1035) (by decide +kernel), List.mem_of_getElem? (i := 1036) (by decide +kernel)⟩
theorem lw_p52 : lw_okq (⟨"ShareHouse$Builder", "keepAll", "(I)V"⟩, 19) := ⟨⟨by decide +kernel, by decide +kernel⟩, List.mem_of_getElem? (i := 371) (by decide +kernel), List.mem_of_getElem? (i := 1040) (by decide +kernel), List.mem_of_getElem? (i := 1041) (by decide +kernel)⟩
theorem lw_p53 : lw_okq (⟨"ShareHouse$Builder", "keep", "(III)V"⟩, 19) := ⟨⟨by decide +kernel, by decide +kernel⟩, List.mem_of_getElem? (i := 371) (by decide +kernel), List.mem_of_getElem? (i := 1045) (by decide +kernel), List.mem_of_getElem? (i := 1046) (by decide +kernel)⟩
theorem lw_p54 : lw_okq (⟨"ShareHouse$Builder", "bitsOf", "(I)I"⟩, 19) := ⟨⟨by decide +kernel, by decide +kernel⟩, List.mem_of_getElem? (i := 371) (by decide +kernel), List.mem_of_getElem? (i := 1049) (by decide +kernel), List.mem_of_getElem? (i := 1050) (by decide +kernel)⟩
theorem lw_p55 : lw_okq (⟨"ShareHouse$Builder", "storeElement", "(I)V"⟩, 19) := ⟨⟨by decide +kernel, by decide +kernel⟩, List.mem_of_getElem? (i := 371) (by decide +kernel), List.mem_of_getElem? (i := 1056) (by decide +kernel), List.mem_of_getElem? (i := 1057) (by decide +kernel)⟩
theorem lw_p56 : lw_okq (⟨"ShareHouse$Circuit", "newGate", "(IIZI)I"⟩, 16) := ⟨⟨by decide +kernel, by decide +kernel⟩, List.mem_of_getElem? (i := 193) (by decide +kernel), List.mem_of_getElem? (i := 1077) (by decide +kernel), List.mem_of_getElem? (i := 1078) (by decide +kernel)⟩
theorem lw_p57 : lw_okq (⟨"ShareHouse$Logic", "all", "(I)I"⟩, 7) := ⟨⟨by decide +kernel, by decide +kernel⟩, List.mem_of_getElem? (i := 377) (by decide +kernel), List.mem_of_getElem? (i := 1081) (by decide +kernel), List.mem_of_getElem? (i := 1082) (by decide +kernel)⟩
theorem lw_p58 : lw_okq (⟨"ShareHouse$Builder", "buildFlow", "(II)V"⟩, 19) := ⟨⟨by decide +kernel, by decide +kernel⟩, List.mem_of_getElem? (i := 371) (by decide +kernel), List.mem_of_getElem? (i := 1098) (by decide +kernel), List.mem_of_getElem? (i := 1099) (by decide +kernel)⟩
theorem lw_p59 : lw_okq (⟨"ShareHouse$Builder", "openIf", "(I)V"⟩, 19) := ⟨⟨by decide +kernel, by decide +kernel⟩, List.mem_of_getElem? (i := 371) (by decide +kernel), List.mem_of_getElem? (i := 1102) (by decide +kernel), List.mem_of_getElem? (i := 1103) (by decide +kernel)⟩
theorem lw_p60 : lw_okq (⟨"ShareHouse$Builder", "turnIf", "(I)V"⟩, 19) := ⟨⟨by decide +kernel, by decide +kernel⟩, List.mem_of_getElem? (i := 371) (by decide +kernel), List.mem_of_getElem? (i := 1106) (by decide +kernel), List.mem_of_getElem? (i := 1107) (by decide +kernel)⟩
theorem lw_p61 : lw_okq (⟨"ShareHouse$Builder", "closeIf", "(I)V"⟩, 19) := ⟨⟨by decide +kernel, by decide +kernel⟩, List.mem_of_getElem? (i := 371) (by decide +kernel), List.mem_of_getElem? (i := 1110) (by decide +kernel), List.mem_of_getElem? (i := 1111) (by decide +kernel)⟩
theorem lw_p62 : lw_okq (⟨"ShareHouse$Builder", "beginLoop", "(I)V"⟩, 19) := ⟨⟨by decide +kernel, by decide +kernel⟩, List.mem_of_getElem? (i := 371) (by decide +kernel), List.mem_of_getElem? (i := 1114) (by decide +kernel), List.mem_of_getElem? (i := 1115) (by decide +kernel)⟩
theorem lw_p63 : lw_okq (⟨"ShareHouse$Builder", "takeNextTurn", "(I)V"⟩, 19) := ⟨⟨by decide +kernel, by decide +kernel⟩, List.mem_of_getElem? (i := 371) (by decide +kernel), List.mem_of_getElem? (i := 1120) (by decide +kernel), List.mem_of_getElem? (i := 1121) (by decide +kernel)⟩
def lw_privs_4 : List (MethodName × Nat) := [(⟨"ShareHouse$Sorts", "checkOperator", "(II)V"⟩, 11), (⟨"ShareHouse$Builder", "buildStatement", "(II)V"⟩, 19), (⟨"ShareHouse$Builder", "goBack", "()V"⟩, 19), (⟨"ShareHouse$Builder", "reserve", "(I)V"⟩, 19), (⟨"ShareHouse$Builder", "keepAll", "(I)V"⟩, 19), (⟨"ShareHouse$Builder", "keep", "(III)V"⟩, 19), (⟨"ShareHouse$Builder", "bitsOf", "(I)I"⟩, 19), (⟨"ShareHouse$Builder", "storeElement", "(I)V"⟩, 19), (⟨"ShareHouse$Circuit", "newGate", "(IIZI)I"⟩, 16), (⟨"ShareHouse$Logic", "all", "(I)I"⟩, 7), (⟨"ShareHouse$Builder", "buildFlow", "(II)V"⟩, 19), (⟨"ShareHouse$Builder", "openIf", "(I)V"⟩, 19), (⟨"ShareHouse$Builder", "turnIf", "(I)V"⟩, 19), (⟨"ShareHouse$Builder", "closeIf", "(I)V"⟩, 19), (⟨"ShareHouse$Builder", "beginLoop", "(I)V"⟩, 19), (⟨"ShareHouse$Builder", "takeNextTurn", "(I)V"⟩, 19)]
theorem lw_r4 : ∀ q ∈ lw_privs_4, lw_okq q := List.forall_mem_cons.mpr ⟨lw_p48, List.forall_mem_cons.mpr ⟨lw_p49, List.forall_mem_cons.mpr ⟨lw_p50, List.forall_mem_cons.mpr ⟨lw_p51, List.forall_mem_cons.mpr ⟨lw_p52, List.forall_mem_cons.mpr ⟨lw_p53, List.forall_mem_cons.mpr ⟨lw_p54, List.forall_mem_cons.mpr ⟨lw_p55, List.forall_mem_cons.mpr ⟨lw_p56, List.forall_mem_cons.mpr ⟨lw_p57, List.forall_mem_cons.mpr ⟨lw_p58, List.forall_mem_cons.mpr ⟨lw_p59, List.forall_mem_cons.mpr ⟨lw_p60, List.forall_mem_cons.mpr ⟨lw_p61, List.forall_mem_cons.mpr ⟨lw_p62, List.forall_mem_cons.mpr ⟨lw_p63, fun _ h => absurd h List.not_mem_nil⟩⟩⟩⟩⟩⟩⟩⟩⟩⟩⟩⟩⟩⟩⟩⟩
theorem lw_p64 : lw_okq (⟨"ShareHouse$Builder", "buildFactor", "(II)V"⟩, 19) := ⟨⟨by decide +kernel, by decide +kernel⟩, List.mem_of_getElem? (i := 371) (by decide +kernel), List.mem_of_getElem? (i := 1124) (by decide +kernel), List.mem_of_getElem? (i := 1125) (by decide +kernel)⟩
theorem lw_p65 : lw_okq (⟨"ShareHouse$Builder", "pushNumber", "(J)V"⟩, 19) := ⟨⟨by decide +kernel, by decide +kernel⟩, List.mem_of_getElem? (i := 371) (by decide +kernel), List.mem_of_getElem? (i := 1128) (by decide +kernel), List.mem_of_getElem? (i := 1129) (by decide +kernel)⟩
theorem lw_p66 : lw_okq (⟨"ShareHouse$Builder", "pushNamed", "(I)V"⟩, 19) := ⟨⟨by decide +kernel, by decide +kernel⟩, List.mem_of_getElem? (i := 371) (by decide +kernel), List.mem_of_getElem? (i := 1136) (by decide +kernel), List.mem_of_getElem? (i := 1137) (by decide +kernel)⟩
theorem lw_p67 : lw_okq (⟨"ShareHouse$Builder", "load", "(III)V"⟩, 19) := ⟨⟨by decide +kernel, by decide +kernel⟩, List.mem_of_getElem? (i := 371) (by decide +kernel), List.mem_of_getElem? (i := 1140) (by decide +kernel), List.mem_of_getElem? (i := 1141) (by decide +kernel)⟩
theorem lw_p68 : lw_okq (⟨"ShareHouse$Builder", "literalOf", "(III)I"⟩, 19) := ⟨⟨by decide +kernel, by decide +kernel⟩, List.mem_of_getElem? (i := 371) (by decide +kernel), List.mem_of_getElem? (i := 1144) (by decide +kernel), List.mem_of_getElem? (i := 1145) (by decide +kernel)⟩
theorem lw_p69 : lw_okq (⟨"ShareHouse$Builder", "checkIndex", "(I)V"⟩, 19) := ⟨⟨by decide +kernel, by decide +kernel⟩, List.mem_of_getElem? (i := 371) (by decide +kernel), List.mem_of_getElem? (i := 1148) (by decide +kernel), List.mem_of_getElem? (i := 1149) (by decide +kernel)⟩
theorem lw_p70 : lw_okq (⟨"ShareHouse$Builder", "readElement", "(I)V"⟩, 19) := ⟨⟨by decide +kernel, by decide +kernel⟩, List.mem_of_getElem? (i := 371) (by decide +kernel), List.mem_of_getElem? (i := 1152) (by decide +kernel), List.mem_of_getElem? (i := 1153) (by decide +kernel)⟩
theorem lw_p71 : lw_okq (⟨"ShareHouse$Builder", "call", "(I)V"⟩, 19) := ⟨⟨by decide +kernel, by decide +kernel⟩, List.mem_of_getElem? (i := 371) (by decide +kernel), List.mem_of_getElem? (i := 1158) (by decide +kernel), List.mem_of_getElem? (i := 1159) (by decide +kernel)⟩
theorem lw_p72 : lw_okq (⟨"ShareHouse$Builder", "takeBit", "(I)V"⟩, 19) := ⟨⟨by decide +kernel, by decide +kernel⟩, List.mem_of_getElem? (i := 371) (by decide +kernel), List.mem_of_getElem? (i := 1162) (by decide +kernel), List.mem_of_getElem? (i := 1163) (by decide +kernel)⟩
theorem lw_p73 : lw_okq (⟨"ShareHouse$Builder", "buildSign", "(II)V"⟩, 19) := ⟨⟨by decide +kernel, by decide +kernel⟩, List.mem_of_getElem? (i := 371) (by decide +kernel), List.mem_of_getElem? (i := 1166) (by decide +kernel), List.mem_of_getElem? (i := 1167) (by decide +kernel)⟩
theorem lw_p74 : lw_okq (⟨"ShareHouse$Builder", "choose", "(I)V"⟩, 19) := ⟨⟨by decide +kernel, by decide +kernel⟩, List.mem_of_getElem? (i := 371) (by decide +kernel), List.mem_of_getElem? (i := 1185) (by decide +kernel), List.mem_of_getElem? (i := 1186) (by decide +kernel)⟩
theorem lw_p75 : lw_okq (⟨"ShareHouse$Builder", "buildOperator", "(II)V"⟩, 19) := ⟨⟨by decide +kernel, by decide +kernel⟩, List.mem_of_getElem? (i := 371) (by decide +kernel), List.mem_of_getElem? (i := 1189) (by decide +kernel), List.mem_of_getElem? (i := 1190) (by decide +kernel)⟩
theorem lw_p76 : lw_okq (⟨"ShareHouse$Builder", "buildShift", "(III)V"⟩, 19) := ⟨⟨by decide +kernel, by decide +kernel⟩, List.mem_of_getElem? (i := 371) (by decide +kernel), List.mem_of_getElem? (i := 1201) (by decide +kernel), List.mem_of_getElem? (i := 1202) (by decide +kernel)⟩
theorem lw_p77 : lw_okq (⟨"ShareHouse$Logic", "isKnown", "([II)Z"⟩, 7) := ⟨⟨by decide +kernel, by decide +kernel⟩, List.mem_of_getElem? (i := 377) (by decide +kernel), List.mem_of_getElem? (i := 1218) (by decide +kernel), List.mem_of_getElem? (i := 1219) (by decide +kernel)⟩
theorem lw_p78 : lw_okq (⟨"ShareHouse$Logic", "takeAway", "([II)I"⟩, 7) := ⟨⟨by decide +kernel, by decide +kernel⟩, List.mem_of_getElem? (i := 377) (by decide +kernel), List.mem_of_getElem? (i := 1232) (by decide +kernel), List.mem_of_getElem? (i := 1233) (by decide +kernel)⟩
theorem lw_p79 : lw_okq (⟨"ShareHouse$Builder", "buildBits", "(IIII)V"⟩, 19) := ⟨⟨by decide +kernel, by decide +kernel⟩, List.mem_of_getElem? (i := 371) (by decide +kernel), List.mem_of_getElem? (i := 1237) (by decide +kernel), List.mem_of_getElem? (i := 1238) (by decide +kernel)⟩
def lw_privs_5 : List (MethodName × Nat) := [(⟨"ShareHouse$Builder", "buildFactor", "(II)V"⟩, 19), (⟨"ShareHouse$Builder", "pushNumber", "(J)V"⟩, 19), (⟨"ShareHouse$Builder", "pushNamed", "(I)V"⟩, 19), (⟨"ShareHouse$Builder", "load", "(III)V"⟩, 19), (⟨"ShareHouse$Builder", "literalOf", "(III)I"⟩, 19), (⟨"ShareHouse$Builder", "checkIndex", "(I)V"⟩, 19), (⟨"ShareHouse$Builder", "readElement", "(I)V"⟩, 19), (⟨"ShareHouse$Builder", "call", "(I)V"⟩, 19), (⟨"ShareHouse$Builder", "takeBit", "(I)V"⟩, 19), (⟨"ShareHouse$Builder", "buildSign", "(II)V"⟩, 19), (⟨"ShareHouse$Builder", "choose", "(I)V"⟩, 19), (⟨"ShareHouse$Builder", "buildOperator", "(II)V"⟩, 19), (⟨"ShareHouse$Builder", "buildShift", "(III)V"⟩, 19), (⟨"ShareHouse$Logic", "isKnown", "([II)Z"⟩, 7), (⟨"ShareHouse$Logic", "takeAway", "([II)I"⟩, 7), (⟨"ShareHouse$Builder", "buildBits", "(IIII)V"⟩, 19)]
theorem lw_r5 : ∀ q ∈ lw_privs_5, lw_okq q := List.forall_mem_cons.mpr ⟨lw_p64, List.forall_mem_cons.mpr ⟨lw_p65, List.forall_mem_cons.mpr ⟨lw_p66, List.forall_mem_cons.mpr ⟨lw_p67, List.forall_mem_cons.mpr ⟨lw_p68, List.forall_mem_cons.mpr ⟨lw_p69, List.forall_mem_cons.mpr ⟨lw_p70, List.forall_mem_cons.mpr ⟨lw_p71, List.forall_mem_cons.mpr ⟨lw_p72, List.forall_mem_cons.mpr ⟨lw_p73, List.forall_mem_cons.mpr ⟨lw_p74, List.forall_mem_cons.mpr ⟨lw_p75, List.forall_mem_cons.mpr ⟨lw_p76, List.forall_mem_cons.mpr ⟨lw_p77, List.forall_mem_cons.mpr ⟨lw_p78, List.forall_mem_cons.mpr ⟨lw_p79, fun _ h => absurd h List.not_mem_nil⟩⟩⟩⟩⟩⟩⟩⟩⟩⟩⟩⟩⟩⟩⟩⟩
theorem lw_p80 : lw_okq (⟨"ShareHouse", "lookAtCircuit", "(I)I"⟩, 17) := ⟨⟨by decide +kernel, by decide +kernel⟩, List.mem_of_getElem? (i := 23) (by decide +kernel), List.mem_of_getElem? (i := 1255) (by decide +kernel), List.mem_of_getElem? (i := 1256) (by decide +kernel)⟩
theorem lw_p81 : lw_okq (⟨"ShareHouse", "hasOutput", "(I)Z"⟩, 17) := ⟨⟨by decide +kernel, by decide +kernel⟩, List.mem_of_getElem? (i := 23) (by decide +kernel), List.mem_of_getElem? (i := 1267) (by decide +kernel), List.mem_of_getElem? (i := 1268) (by decide +kernel)⟩
theorem lw_p82 : lw_okq (⟨"ShareHouse$Dealer", "drawBut", "(I)I"⟩, 9) := ⟨⟨by decide +kernel, by decide +kernel⟩, List.mem_of_getElem? (i := 465) (by decide +kernel), List.mem_of_getElem? (i := 1319) (by decide +kernel), List.mem_of_getElem? (i := 1320) (by decide +kernel)⟩
theorem lw_p83 : lw_okq (⟨"ShareHouse$Dealer", "draw", "()I"⟩, 9) := ⟨⟨by decide +kernel, by decide +kernel⟩, List.mem_of_getElem? (i := 465) (by decide +kernel), List.mem_of_getElem? (i := 1323) (by decide +kernel), List.mem_of_getElem? (i := 1324) (by decide +kernel)⟩
theorem lw_p84 : lw_okq (⟨"ShareHouse$Dealer", "sharesOfAnd", "(III)I"⟩, 9) := ⟨⟨by decide +kernel, by decide +kernel⟩, List.mem_of_getElem? (i := 465) (by decide +kernel), List.mem_of_getElem? (i := 1355) (by decide +kernel), List.mem_of_getElem? (i := 1356) (by decide +kernel)⟩
theorem lw_p85 : lw_okq (⟨"ShareHouse$Post", "send", "(I)I"⟩, 15) := ⟨⟨by decide +kernel, by decide +kernel⟩, List.mem_of_getElem? (i := 503) (by decide +kernel), List.mem_of_getElem? (i := 1365) (by decide +kernel), List.mem_of_getElem? (i := 1366) (by decide +kernel)⟩
theorem lw_p86 : lw_okq (⟨"ShareHouse", "isFlying", "(I)Z"⟩, 17) := ⟨⟨by decide +kernel, by decide +kernel⟩, List.mem_of_getElem? (i := 23) (by decide +kernel), List.mem_of_getElem? (i := 1373) (by decide +kernel), List.mem_of_getElem? (i := 1374) (by decide +kernel)⟩
theorem lw_p87 : lw_okq (⟨"ShareHouse$Post", "goOn", "(I)I"⟩, 15) := ⟨⟨by decide +kernel, by decide +kernel⟩, List.mem_of_getElem? (i := 503) (by decide +kernel), List.mem_of_getElem? (i := 1432) (by decide +kernel), List.mem_of_getElem? (i := 1433) (by decide +kernel)⟩
theorem lw_p88 : lw_okq (⟨"ShareHouse", "isAtWork", "(I)Z"⟩, 17) := ⟨⟨by decide +kernel, by decide +kernel⟩, List.mem_of_getElem? (i := 23) (by decide +kernel), List.mem_of_getElem? (i := 1449) (by decide +kernel), List.mem_of_getElem? (i := 1450) (by decide +kernel)⟩
theorem lw_p89 : lw_okq (⟨"ShareHouse$Post", "arrivedBit", "(II)I"⟩, 15) := ⟨⟨by decide +kernel, by decide +kernel⟩, List.mem_of_getElem? (i := 503) (by decide +kernel), List.mem_of_getElem? (i := 1476) (by decide +kernel), List.mem_of_getElem? (i := 1477) (by decide +kernel)⟩
theorem lw_p90 : lw_okq (⟨"ShareHouseModel", "word", "(II)V"⟩, 146) := ⟨⟨by decide +kernel, by decide +kernel⟩, List.mem_of_getElem? (i := 1505) (by decide +kernel), List.mem_of_getElem? (i := 1960) (by decide +kernel), List.mem_of_getElem? (i := 1961) (by decide +kernel)⟩
theorem lw_p91 : lw_okq (⟨"ShareHouseModel", "forget", "()V"⟩, 146) := ⟨⟨by decide +kernel, by decide +kernel⟩, List.mem_of_getElem? (i := 1505) (by decide +kernel), List.mem_of_getElem? (i := 1972) (by decide +kernel), List.mem_of_getElem? (i := 1973) (by decide +kernel)⟩
theorem lw_p92 : lw_okq (⟨"ShareHouseModel", "program", "()V"⟩, 146) := ⟨⟨by decide +kernel, by decide +kernel⟩, List.mem_of_getElem? (i := 1505) (by decide +kernel), List.mem_of_getElem? (i := 1976) (by decide +kernel), List.mem_of_getElem? (i := 1977) (by decide +kernel)⟩
theorem lw_p93 : lw_okq (⟨"ShareHouseModel", "gap", "()V"⟩, 146) := ⟨⟨by decide +kernel, by decide +kernel⟩, List.mem_of_getElem? (i := 1505) (by decide +kernel), List.mem_of_getElem? (i := 1980) (by decide +kernel), List.mem_of_getElem? (i := 1981) (by decide +kernel)⟩
theorem lw_p94 : lw_okq (⟨"ShareHouseModel", "look0", "(I)I"⟩, 146) := ⟨⟨by decide +kernel, by decide +kernel⟩, List.mem_of_getElem? (i := 1505) (by decide +kernel), List.mem_of_getElem? (i := 1984) (by decide +kernel), List.mem_of_getElem? (i := 1985) (by decide +kernel)⟩
theorem lw_p95 : lw_okq (⟨"ShareHouseModel", "fail", "(II)V"⟩, 146) := ⟨⟨by decide +kernel, by decide +kernel⟩, List.mem_of_getElem? (i := 1505) (by decide +kernel), List.mem_of_getElem? (i := 1988) (by decide +kernel), List.mem_of_getElem? (i := 1989) (by decide +kernel)⟩
def lw_privs_6 : List (MethodName × Nat) := [(⟨"ShareHouse", "lookAtCircuit", "(I)I"⟩, 17), (⟨"ShareHouse", "hasOutput", "(I)Z"⟩, 17), (⟨"ShareHouse$Dealer", "drawBut", "(I)I"⟩, 9), (⟨"ShareHouse$Dealer", "draw", "()I"⟩, 9), (⟨"ShareHouse$Dealer", "sharesOfAnd", "(III)I"⟩, 9), (⟨"ShareHouse$Post", "send", "(I)I"⟩, 15), (⟨"ShareHouse", "isFlying", "(I)Z"⟩, 17), (⟨"ShareHouse$Post", "goOn", "(I)I"⟩, 15), (⟨"ShareHouse", "isAtWork", "(I)Z"⟩, 17), (⟨"ShareHouse$Post", "arrivedBit", "(II)I"⟩, 15), (⟨"ShareHouseModel", "word", "(II)V"⟩, 146), (⟨"ShareHouseModel", "forget", "()V"⟩, 146), (⟨"ShareHouseModel", "program", "()V"⟩, 146), (⟨"ShareHouseModel", "gap", "()V"⟩, 146), (⟨"ShareHouseModel", "look0", "(I)I"⟩, 146), (⟨"ShareHouseModel", "fail", "(II)V"⟩, 146)]
theorem lw_r6 : ∀ q ∈ lw_privs_6, lw_okq q := List.forall_mem_cons.mpr ⟨lw_p80, List.forall_mem_cons.mpr ⟨lw_p81, List.forall_mem_cons.mpr ⟨lw_p82, List.forall_mem_cons.mpr ⟨lw_p83, List.forall_mem_cons.mpr ⟨lw_p84, List.forall_mem_cons.mpr ⟨lw_p85, List.forall_mem_cons.mpr ⟨lw_p86, List.forall_mem_cons.mpr ⟨lw_p87, List.forall_mem_cons.mpr ⟨lw_p88, List.forall_mem_cons.mpr ⟨lw_p89, List.forall_mem_cons.mpr ⟨lw_p90, List.forall_mem_cons.mpr ⟨lw_p91, List.forall_mem_cons.mpr ⟨lw_p92, List.forall_mem_cons.mpr ⟨lw_p93, List.forall_mem_cons.mpr ⟨lw_p94, List.forall_mem_cons.mpr ⟨lw_p95, fun _ h => absurd h List.not_mem_nil⟩⟩⟩⟩⟩⟩⟩⟩⟩⟩⟩⟩⟩⟩⟩⟩
theorem lw_p96 : lw_okq (⟨"ShareHouseModel", "isSign", "(I)Z"⟩, 146) := ⟨⟨by decide +kernel, by decide +kernel⟩, List.mem_of_getElem? (i := 1505) (by decide +kernel), List.mem_of_getElem? (i := 1992) (by decide +kernel), List.mem_of_getElem? (i := 1993) (by decide +kernel)⟩
theorem lw_p97 : lw_okq (⟨"ShareHouseModel", "isPair", "()Z"⟩, 146) := ⟨⟨by decide +kernel, by decide +kernel⟩, List.mem_of_getElem? (i := 1505) (by decide +kernel), List.mem_of_getElem? (i := 1996) (by decide +kernel), List.mem_of_getElem? (i := 1997) (by decide +kernel)⟩
theorem lw_p98 : lw_okq (⟨"ShareHouseModel", "closeBlock", "()V"⟩, 146) := ⟨⟨by decide +kernel, by decide +kernel⟩, List.mem_of_getElem? (i := 1505) (by decide +kernel), List.mem_of_getElem? (i := 2000) (by decide +kernel), List.mem_of_getElem? (i := 2001) (by decide +kernel)⟩
theorem lw_p99 : lw_okq (⟨"ShareHouseModel", "put", "(IIII)I"⟩, 146) := ⟨⟨by decide +kernel, by decide +kernel⟩, List.mem_of_getElem? (i := 1505) (by decide +kernel), List.mem_of_getElem? (i := 2004) (by decide +kernel), List.mem_of_getElem? (i := 2005) (by decide +kernel)⟩
theorem lw_p100 : lw_okq (⟨"ShareHouseModel", "isWord", "(Ljava/lang/String;)Z"⟩, 146) := ⟨⟨by decide +kernel, by decide +kernel⟩, List.mem_of_getElem? (i := 1505) (by decide +kernel), List.mem_of_getElem? (i := 2009) (by decide +kernel), List.mem_of_getElem? (i := 2010) (by decide +kernel)⟩
theorem lw_p101 : lw_okq (⟨"ShareHouseModel", "wordEnd", "()I"⟩, 146) := ⟨⟨by decide +kernel, by decide +kernel⟩, List.mem_of_getElem? (i := 1505) (by decide +kernel), List.mem_of_getElem? (i := 2013) (by decide +kernel), List.mem_of_getElem? (i := 2014) (by decide +kernel)⟩
theorem lw_p102 : lw_okq (⟨"ShareHouseModel", "deeper", "(I)V"⟩, 146) := ⟨⟨by decide +kernel, by decide +kernel⟩, List.mem_of_getElem? (i := 1505) (by decide +kernel), List.mem_of_getElem? (i := 2026) (by decide +kernel), List.mem_of_getElem? (i := 2027) (by decide +kernel)⟩
theorem lw_p103 : lw_okq (⟨"ShareHouseModel", "ifStatement", "(I)V"⟩, 146) := ⟨⟨by decide +kernel, by decide +kernel⟩, List.mem_of_getElem? (i := 1505) (by decide +kernel), List.mem_of_getElem? (i := 2030) (by decide +kernel), List.mem_of_getElem? (i := 2031) (by decide +kernel)⟩
theorem lw_p104 : lw_okq (⟨"ShareHouseModel", "sign", "(I)V"⟩, 146) := ⟨⟨by decide +kernel, by decide +kernel⟩, List.mem_of_getElem? (i := 1505) (by decide +kernel), List.mem_of_getElem? (i := 2034) (by decide +kernel), List.mem_of_getElem? (i := 2035) (by decide +kernel)⟩
theorem lw_p105 : lw_okq (⟨"ShareHouseModel", "expression", "()V"⟩, 146) := ⟨⟨by decide +kernel, by decide +kernel⟩, List.mem_of_getElem? (i := 1505) (by decide +kernel), List.mem_of_getElem? (i := 2038) (by decide +kernel), List.mem_of_getElem? (i := 2039) (by decide +kernel)⟩
theorem lw_p106 : lw_okq (⟨"ShareHouseModel", "takeOperand", "()Z"⟩, 146) := ⟨⟨by decide +kernel, by decide +kernel⟩, List.mem_of_getElem? (i := 1505) (by decide +kernel), List.mem_of_getElem? (i := 2042) (by decide +kernel), List.mem_of_getElem? (i := 2043) (by decide +kernel)⟩
theorem lw_p107 : lw_okq (⟨"ShareHouseModel", "push", "(III)V"⟩, 146) := ⟨⟨by decide +kernel, by decide +kernel⟩, List.mem_of_getElem? (i := 1505) (by decide +kernel), List.mem_of_getElem? (i := 2046) (by decide +kernel), List.mem_of_getElem? (i := 2047) (by decide +kernel)⟩
theorem lw_p108 : lw_okq (⟨"ShareHouseModel", "number", "(JJ)V"⟩, 146) := ⟨⟨by decide +kernel, by decide +kernel⟩, List.mem_of_getElem? (i := 1505) (by decide +kernel), List.mem_of_getElem? (i := 2051) (by decide +kernel), List.mem_of_getElem? (i := 2052) (by decide +kernel)⟩
theorem lw_p109 : lw_okq (⟨"ShareHouseModel", "name", "()I"⟩, 146) := ⟨⟨by decide +kernel, by decide +kernel⟩, List.mem_of_getElem? (i := 1505) (by decide +kernel), List.mem_of_getElem? (i := 2061) (by decide +kernel), List.mem_of_getElem? (i := 2062) (by decide +kernel)⟩
theorem lw_p110 : lw_okq (⟨"ShareHouseModel", "isKept", "()Z"⟩, 146) := ⟨⟨by decide +kernel, by decide +kernel⟩, List.mem_of_getElem? (i := 1505) (by decide +kernel), List.mem_of_getElem? (i := 2065) (by decide +kernel), List.mem_of_getElem? (i := 2066) (by decide +kernel)⟩
theorem lw_p111 : lw_okq (⟨"ShareHouseModel", "signsOver", "(I)V"⟩, 146) := ⟨⟨by decide +kernel, by decide +kernel⟩, List.mem_of_getElem? (i := 1505) (by decide +kernel), List.mem_of_getElem? (i := 2076) (by decide +kernel), List.mem_of_getElem? (i := 2077) (by decide +kernel)⟩
def lw_privs_7 : List (MethodName × Nat) := [(⟨"ShareHouseModel", "isSign", "(I)Z"⟩, 146), (⟨"ShareHouseModel", "isPair", "()Z"⟩, 146), (⟨"ShareHouseModel", "closeBlock", "()V"⟩, 146), (⟨"ShareHouseModel", "put", "(IIII)I"⟩, 146), (⟨"ShareHouseModel", "isWord", "(Ljava/lang/String;)Z"⟩, 146), (⟨"ShareHouseModel", "wordEnd", "()I"⟩, 146), (⟨"ShareHouseModel", "deeper", "(I)V"⟩, 146), (⟨"ShareHouseModel", "ifStatement", "(I)V"⟩, 146), (⟨"ShareHouseModel", "sign", "(I)V"⟩, 146), (⟨"ShareHouseModel", "expression", "()V"⟩, 146), (⟨"ShareHouseModel", "takeOperand", "()Z"⟩, 146), (⟨"ShareHouseModel", "push", "(III)V"⟩, 146), (⟨"ShareHouseModel", "number", "(JJ)V"⟩, 146), (⟨"ShareHouseModel", "name", "()I"⟩, 146), (⟨"ShareHouseModel", "isKept", "()Z"⟩, 146), (⟨"ShareHouseModel", "signsOver", "(I)V"⟩, 146)]
theorem lw_r7 : ∀ q ∈ lw_privs_7, lw_okq q := List.forall_mem_cons.mpr ⟨lw_p96, List.forall_mem_cons.mpr ⟨lw_p97, List.forall_mem_cons.mpr ⟨lw_p98, List.forall_mem_cons.mpr ⟨lw_p99, List.forall_mem_cons.mpr ⟨lw_p100, List.forall_mem_cons.mpr ⟨lw_p101, List.forall_mem_cons.mpr ⟨lw_p102, List.forall_mem_cons.mpr ⟨lw_p103, List.forall_mem_cons.mpr ⟨lw_p104, List.forall_mem_cons.mpr ⟨lw_p105, List.forall_mem_cons.mpr ⟨lw_p106, List.forall_mem_cons.mpr ⟨lw_p107, List.forall_mem_cons.mpr ⟨lw_p108, List.forall_mem_cons.mpr ⟨lw_p109, List.forall_mem_cons.mpr ⟨lw_p110, List.forall_mem_cons.mpr ⟨lw_p111, fun _ h => absurd h List.not_mem_nil⟩⟩⟩⟩⟩⟩⟩⟩⟩⟩⟩⟩⟩⟩⟩⟩
theorem lw_p112 : lw_okq (⟨"ShareHouseModel", "operator", "()I"⟩, 146) := ⟨⟨by decide +kernel, by decide +kernel⟩, List.mem_of_getElem? (i := 1505) (by decide +kernel), List.mem_of_getElem? (i := 2080) (by decide +kernel), List.mem_of_getElem? (i := 2081) (by decide +kernel)⟩
theorem lw_p113 : lw_okq (⟨"ShareHouseModel", "isFresh", "()Z"⟩, 146) := ⟨⟨by decide +kernel, by decide +kernel⟩, List.mem_of_getElem? (i := 1505) (by decide +kernel), List.mem_of_getElem? (i := 2084) (by decide +kernel), List.mem_of_getElem? (i := 2085) (by decide +kernel)⟩
theorem lw_p114 : lw_okq (⟨"ShareHouseModel", "reduce", "(II)V"⟩, 146) := ⟨⟨by decide +kernel, by decide +kernel⟩, List.mem_of_getElem? (i := 1505) (by decide +kernel), List.mem_of_getElem? (i := 2091) (by decide +kernel), List.mem_of_getElem? (i := 2092) (by decide +kernel)⟩
theorem lw_p115 : lw_okq (⟨"ShareHouseModel", "closes", "(I)Z"⟩, 146) := ⟨⟨by decide +kernel, by decide +kernel⟩, List.mem_of_getElem? (i := 1505) (by decide +kernel), List.mem_of_getElem? (i := 2095) (by decide +kernel), List.mem_of_getElem? (i := 2096) (by decide +kernel)⟩
theorem lw_p116 : lw_okq (⟨"ShareHouseModel", "reduceAll", "(I)V"⟩, 146) := ⟨⟨by decide +kernel, by decide +kernel⟩, List.mem_of_getElem? (i := 1505) (by decide +kernel), List.mem_of_getElem? (i := 2099) (by decide +kernel), List.mem_of_getElem? (i := 2100) (by decide +kernel)⟩
theorem lw_p117 : lw_okq (⟨"ShareHouseModel", "openBlock", "(II)V"⟩, 146) := ⟨⟨by decide +kernel, by decide +kernel⟩, List.mem_of_getElem? (i := 1505) (by decide +kernel), List.mem_of_getElem? (i := 2103) (by decide +kernel), List.mem_of_getElem? (i := 2104) (by decide +kernel)⟩
theorem lw_p118 : lw_okq (⟨"ShareHouseModel", "endIf", "(I)V"⟩, 146) := ⟨⟨by decide +kernel, by decide +kernel⟩, List.mem_of_getElem? (i := 1505) (by decide +kernel), List.mem_of_getElem? (i := 2107) (by decide +kernel), List.mem_of_getElem? (i := 2108) (by decide +kernel)⟩
theorem lw_p119 : lw_okq (⟨"ShareHouseModel", "varStatement", "(I)V"⟩, 146) := ⟨⟨by decide +kernel, by decide +kernel⟩, List.mem_of_getElem? (i := 1505) (by decide +kernel), List.mem_of_getElem? (i := 2111) (by decide +kernel), List.mem_of_getElem? (i := 2112) (by decide +kernel)⟩
theorem lw_p120 : lw_okq (⟨"ShareHouseModel", "type", "()V"⟩, 146) := ⟨⟨by decide +kernel, by decide +kernel⟩, List.mem_of_getElem? (i := 1505) (by decide +kernel), List.mem_of_getElem? (i := 2115) (by decide +kernel), List.mem_of_getElem? (i := 2116) (by decide +kernel)⟩
theorem lw_p121 : lw_okq (⟨"ShareHouseModel", "sortWord", "()V"⟩, 146) := ⟨⟨by decide +kernel, by decide +kernel⟩, List.mem_of_getElem? (i := 1505) (by decide +kernel), List.mem_of_getElem? (i := 2119) (by decide +kernel), List.mem_of_getElem? (i := 2120) (by decide +kernel)⟩
theorem lw_p122 : lw_okq (⟨"ShareHouseModel", "forStatement", "(I)V"⟩, 146) := ⟨⟨by decide +kernel, by decide +kernel⟩, List.mem_of_getElem? (i := 1505) (by decide +kernel), List.mem_of_getElem? (i := 2126) (by decide +kernel), List.mem_of_getElem? (i := 2127) (by decide +kernel)⟩
theorem lw_p123 : lw_okq (⟨"ShareHouseModel", "keyword", "(Ljava/lang/String;)V"⟩, 146) := ⟨⟨by decide +kernel, by decide +kernel⟩, List.mem_of_getElem? (i := 1505) (by decide +kernel), List.mem_of_getElem? (i := 2130) (by decide +kernel), List.mem_of_getElem? (i := 2131) (by decide +kernel)⟩
theorem lw_p124 : lw_okq (⟨"ShareHouseModel", "inputItem", "(I)V"⟩, 146) := ⟨⟨by decide +kernel, by decide +kernel⟩, List.mem_of_getElem? (i := 1505) (by decide +kernel), List.mem_of_getElem? (i := 2134) (by decide +kernel), List.mem_of_getElem? (i := 2135) (by decide +kernel)⟩
theorem lw_p125 : lw_okq (⟨"ShareHouseModel", "defItem", "(I)V"⟩, 146) := ⟨⟨by decide +kernel, by decide +kernel⟩, List.mem_of_getElem? (i := 1505) (by decide +kernel), List.mem_of_getElem? (i := 2138) (by decide +kernel), List.mem_of_getElem? (i := 2139) (by decide +kernel)⟩
theorem lw_p126 : lw_okq (⟨"ShareHouseModel", "outputItem", "(I)V"⟩, 146) := ⟨⟨by decide +kernel, by decide +kernel⟩, List.mem_of_getElem? (i := 1505) (by decide +kernel), List.mem_of_getElem? (i := 2142) (by decide +kernel), List.mem_of_getElem? (i := 2143) (by decide +kernel)⟩
theorem lw_p127 : lw_okq (⟨"ShareHouseModel", "assignment", "(I)V"⟩, 146) := ⟨⟨by decide +kernel, by decide +kernel⟩, List.mem_of_getElem? (i := 1505) (by decide +kernel), List.mem_of_getElem? (i := 2146) (by decide +kernel), List.mem_of_getElem? (i := 2147) (by decide +kernel)⟩
def lw_privs_8 : List (MethodName × Nat) := [(⟨"ShareHouseModel", "operator", "()I"⟩, 146), (⟨"ShareHouseModel", "isFresh", "()Z"⟩, 146), (⟨"ShareHouseModel", "reduce", "(II)V"⟩, 146), (⟨"ShareHouseModel", "closes", "(I)Z"⟩, 146), (⟨"ShareHouseModel", "reduceAll", "(I)V"⟩, 146), (⟨"ShareHouseModel", "openBlock", "(II)V"⟩, 146), (⟨"ShareHouseModel", "endIf", "(I)V"⟩, 146), (⟨"ShareHouseModel", "varStatement", "(I)V"⟩, 146), (⟨"ShareHouseModel", "type", "()V"⟩, 146), (⟨"ShareHouseModel", "sortWord", "()V"⟩, 146), (⟨"ShareHouseModel", "forStatement", "(I)V"⟩, 146), (⟨"ShareHouseModel", "keyword", "(Ljava/lang/String;)V"⟩, 146), (⟨"ShareHouseModel", "inputItem", "(I)V"⟩, 146), (⟨"ShareHouseModel", "defItem", "(I)V"⟩, 146), (⟨"ShareHouseModel", "outputItem", "(I)V"⟩, 146), (⟨"ShareHouseModel", "assignment", "(I)V"⟩, 146)]
theorem lw_r8 : ∀ q ∈ lw_privs_8, lw_okq q := List.forall_mem_cons.mpr ⟨lw_p112, List.forall_mem_cons.mpr ⟨lw_p113, List.forall_mem_cons.mpr ⟨lw_p114, List.forall_mem_cons.mpr ⟨lw_p115, List.forall_mem_cons.mpr ⟨lw_p116, List.forall_mem_cons.mpr ⟨lw_p117, List.forall_mem_cons.mpr ⟨lw_p118, List.forall_mem_cons.mpr ⟨lw_p119, List.forall_mem_cons.mpr ⟨lw_p120, List.forall_mem_cons.mpr ⟨lw_p121, List.forall_mem_cons.mpr ⟨lw_p122, List.forall_mem_cons.mpr ⟨lw_p123, List.forall_mem_cons.mpr ⟨lw_p124, List.forall_mem_cons.mpr ⟨lw_p125, List.forall_mem_cons.mpr ⟨lw_p126, List.forall_mem_cons.mpr ⟨lw_p127, fun _ h => absurd h List.not_mem_nil⟩⟩⟩⟩⟩⟩⟩⟩⟩⟩⟩⟩⟩⟩⟩⟩
theorem lw_p128 : lw_okq (⟨"ShareHouseModel", "sorts", "()V"⟩, 146) := ⟨⟨by decide +kernel, by decide +kernel⟩, List.mem_of_getElem? (i := 1505) (by decide +kernel), List.mem_of_getElem? (i := 2150) (by decide +kernel), List.mem_of_getElem? (i := 2151) (by decide +kernel)⟩
theorem lw_p129 : lw_okq (⟨"ShareHouseModel", "operandSort", "(I)V"⟩, 146) := ⟨⟨by decide +kernel, by decide +kernel⟩, List.mem_of_getElem? (i := 1505) (by decide +kernel), List.mem_of_getElem? (i := 2154) (by decide +kernel), List.mem_of_getElem? (i := 2155) (by decide +kernel)⟩
theorem lw_p130 : lw_okq (⟨"ShareHouseModel", "pile", "(IIZ)V"⟩, 146) := ⟨⟨by decide +kernel, by decide +kernel⟩, List.mem_of_getElem? (i := 1505) (by decide +kernel), List.mem_of_getElem? (i := 2158) (by decide +kernel), List.mem_of_getElem? (i := 2159) (by decide +kernel)⟩
theorem lw_p131 : lw_okq (⟨"ShareHouseModel", "used", "(I)I"⟩, 146) := ⟨⟨by decide +kernel, by decide +kernel⟩, List.mem_of_getElem? (i := 1505) (by decide +kernel), List.mem_of_getElem? (i := 2162) (by decide +kernel), List.mem_of_getElem? (i := 2163) (by decide +kernel)⟩
theorem lw_p132 : lw_okq (⟨"ShareHouseModel", "visible", "(I)I"⟩, 146) := ⟨⟨by decide +kernel, by decide +kernel⟩, List.mem_of_getElem? (i := 1505) (by decide +kernel), List.mem_of_getElem? (i := 2166) (by decide +kernel), List.mem_of_getElem? (i := 2167) (by decide +kernel)⟩
theorem lw_p133 : lw_okq (⟨"ShareHouseModel", "refer", "(II)V"⟩, 146) := ⟨⟨by decide +kernel, by decide +kernel⟩, List.mem_of_getElem? (i := 1505) (by decide +kernel), List.mem_of_getElem? (i := 2170) (by decide +kernel), List.mem_of_getElem? (i := 2171) (by decide +kernel)⟩
theorem lw_p134 : lw_okq (⟨"ShareHouseModel", "must", "(I)V"⟩, 146) := ⟨⟨by decide +kernel, by decide +kernel⟩, List.mem_of_getElem? (i := 1505) (by decide +kernel), List.mem_of_getElem? (i := 2174) (by decide +kernel), List.mem_of_getElem? (i := 2175) (by decide +kernel)⟩
theorem lw_p135 : lw_okq (⟨"ShareHouseModel", "bitSort", "(I)V"⟩, 146) := ⟨⟨by decide +kernel, by decide +kernel⟩, List.mem_of_getElem? (i := 1505) (by decide +kernel), List.mem_of_getElem? (i := 2178) (by decide +kernel), List.mem_of_getElem? (i := 2179) (by decide +kernel)⟩
theorem lw_p136 : lw_okq (⟨"ShareHouseModel", "mustPublic", "()V"⟩, 146) := ⟨⟨by decide +kernel, by decide +kernel⟩, List.mem_of_getElem? (i := 1505) (by decide +kernel), List.mem_of_getElem? (i := 2182) (by decide +kernel), List.mem_of_getElem? (i := 2183) (by decide +kernel)⟩
theorem lw_p137 : lw_okq (⟨"ShareHouseModel", "unarySort", "(I)V"⟩, 146) := ⟨⟨by decide +kernel, by decide +kernel⟩, List.mem_of_getElem? (i := 1505) (by decide +kernel), List.mem_of_getElem? (i := 2186) (by decide +kernel), List.mem_of_getElem? (i := 2187) (by decide +kernel)⟩
theorem lw_p138 : lw_okq (⟨"ShareHouseModel", "binarySort", "(I)V"⟩, 146) := ⟨⟨by decide +kernel, by decide +kernel⟩, List.mem_of_getElem? (i := 1505) (by decide +kernel), List.mem_of_getElem? (i := 2190) (by decide +kernel), List.mem_of_getElem? (i := 2191) (by decide +kernel)⟩
theorem lw_p139 : lw_okq (⟨"ShareHouseModel", "selectSort", "(I)V"⟩, 146) := ⟨⟨by decide +kernel, by decide +kernel⟩, List.mem_of_getElem? (i := 1505) (by decide +kernel), List.mem_of_getElem? (i := 2194) (by decide +kernel), List.mem_of_getElem? (i := 2195) (by decide +kernel)⟩
theorem lw_p140 : lw_okq (⟨"ShareHouseModel", "statementSort", "(I)V"⟩, 146) := ⟨⟨by decide +kernel, by decide +kernel⟩, List.mem_of_getElem? (i := 1505) (by decide +kernel), List.mem_of_getElem? (i := 2198) (by decide +kernel), List.mem_of_getElem? (i := 2199) (by decide +kernel)⟩
theorem lw_p141 : lw_okq (⟨"ShareHouseModel", "comes", "(I)V"⟩, 146) := ⟨⟨by decide +kernel, by decide +kernel⟩, List.mem_of_getElem? (i := 1505) (by decide +kernel), List.mem_of_getElem? (i := 2202) (by decide +kernel), List.mem_of_getElem? (i := 2203) (by decide +kernel)⟩
theorem lw_p142 : lw_okq (⟨"ShareHouseModel", "paramSort", "(I)V"⟩, 146) := ⟨⟨by decide +kernel, by decide +kernel⟩, List.mem_of_getElem? (i := 1505) (by decide +kernel), List.mem_of_getElem? (i := 2206) (by decide +kernel), List.mem_of_getElem? (i := 2207) (by decide +kernel)⟩
theorem lw_p143 : lw_okq (⟨"ShareHouseModel", "symbol", "(IIIII)I"⟩, 146) := ⟨⟨by decide +kernel, by decide +kernel⟩, List.mem_of_getElem? (i := 1505) (by decide +kernel), List.mem_of_getElem? (i := 2210) (by decide +kernel), List.mem_of_getElem? (i := 2211) (by decide +kernel)⟩
def lw_privs_9 : List (MethodName × Nat) := [(⟨"ShareHouseModel", "sorts", "()V"⟩, 146), (⟨"ShareHouseModel", "operandSort", "(I)V"⟩, 146), (⟨"ShareHouseModel", "pile", "(IIZ)V"⟩, 146), (⟨"ShareHouseModel", "used", "(I)I"⟩, 146), (⟨"ShareHouseModel", "visible", "(I)I"⟩, 146), (⟨"ShareHouseModel", "refer", "(II)V"⟩, 146), (⟨"ShareHouseModel", "must", "(I)V"⟩, 146), (⟨"ShareHouseModel", "bitSort", "(I)V"⟩, 146), (⟨"ShareHouseModel", "mustPublic", "()V"⟩, 146), (⟨"ShareHouseModel", "unarySort", "(I)V"⟩, 146), (⟨"ShareHouseModel", "binarySort", "(I)V"⟩, 146), (⟨"ShareHouseModel", "selectSort", "(I)V"⟩, 146), (⟨"ShareHouseModel", "statementSort", "(I)V"⟩, 146), (⟨"ShareHouseModel", "comes", "(I)V"⟩, 146), (⟨"ShareHouseModel", "paramSort", "(I)V"⟩, 146), (⟨"ShareHouseModel", "symbol", "(IIIII)I"⟩, 146)]
theorem lw_r9 : ∀ q ∈ lw_privs_9, lw_okq q := List.forall_mem_cons.mpr ⟨lw_p128, List.forall_mem_cons.mpr ⟨lw_p129, List.forall_mem_cons.mpr ⟨lw_p130, List.forall_mem_cons.mpr ⟨lw_p131, List.forall_mem_cons.mpr ⟨lw_p132, List.forall_mem_cons.mpr ⟨lw_p133, List.forall_mem_cons.mpr ⟨lw_p134, List.forall_mem_cons.mpr ⟨lw_p135, List.forall_mem_cons.mpr ⟨lw_p136, List.forall_mem_cons.mpr ⟨lw_p137, List.forall_mem_cons.mpr ⟨lw_p138, List.forall_mem_cons.mpr ⟨lw_p139, List.forall_mem_cons.mpr ⟨lw_p140, List.forall_mem_cons.mpr ⟨lw_p141, List.forall_mem_cons.mpr ⟨lw_p142, List.forall_mem_cons.mpr ⟨lw_p143, fun _ h => absurd h List.not_mem_nil⟩⟩⟩⟩⟩⟩⟩⟩⟩⟩⟩⟩⟩⟩⟩⟩
theorem lw_p144 : lw_okq (⟨"ShareHouseModel", "assigned", "(I)V"⟩, 146) := ⟨⟨by decide +kernel, by decide +kernel⟩, List.mem_of_getElem? (i := 1505) (by decide +kernel), List.mem_of_getElem? (i := 2215) (by decide +kernel), List.mem_of_getElem? (i := 2216) (by decide +kernel)⟩
theorem lw_p145 : lw_okq (⟨"ShareHouseModel", "elementSort", "(I)V"⟩, 146) := ⟨⟨by decide +kernel, by decide +kernel⟩, List.mem_of_getElem? (i := 1505) (by decide +kernel), List.mem_of_getElem? (i := 2219) (by decide +kernel), List.mem_of_getElem? (i := 2220) (by decide +kernel)⟩
theorem lw_p146 : lw_okq (⟨"ShareHouseModel", "build", "()V"⟩, 146) := ⟨⟨by decide +kernel, by decide +kernel⟩, List.mem_of_getElem? (i := 1505) (by decide +kernel), List.mem_of_getElem? (i := 2223) (by decide +kernel), List.mem_of_getElem? (i := 2224) (by decide +kernel)⟩
theorem lw_p147 : lw_okq (⟨"ShareHouseModel", "inputsOfAll", "()V"⟩, 146) := ⟨⟨by decide +kernel, by decide +kernel⟩, List.mem_of_getElem? (i := 1505) (by decide +kernel), List.mem_of_getElem? (i := 2227) (by decide +kernel), List.mem_of_getElem? (i := 2228) (by decide +kernel)⟩
theorem lw_p148 : lw_okq (⟨"ShareHouseModel", "widthOf", "(I)I"⟩, 146) := ⟨⟨by decide +kernel, by decide +kernel⟩, List.mem_of_getElem? (i := 1505) (by decide +kernel), List.mem_of_getElem? (i := 2231) (by decide +kernel), List.mem_of_getElem? (i := 2232) (by decide +kernel)⟩
theorem lw_p149 : lw_okq (⟨"ShareHouseModel", "operand", "(I)I"⟩, 146) := ⟨⟨by decide +kernel, by decide +kernel⟩, List.mem_of_getElem? (i := 1505) (by decide +kernel), List.mem_of_getElem? (i := 2235) (by decide +kernel), List.mem_of_getElem? (i := 2236) (by decide +kernel)⟩
theorem lw_p150 : lw_okq (⟨"ShareHouseModel", "step", "()V"⟩, 146) := ⟨⟨by decide +kernel, by decide +kernel⟩, List.mem_of_getElem? (i := 1505) (by decide +kernel), List.mem_of_getElem? (i := 2239) (by decide +kernel), List.mem_of_getElem? (i := 2240) (by decide +kernel)⟩
theorem lw_p151 : lw_okq (⟨"ShareHouseModel", "statementPlace", "()I"⟩, 146) := ⟨⟨by decide +kernel, by decide +kernel⟩, List.mem_of_getElem? (i := 1505) (by decide +kernel), List.mem_of_getElem? (i := 2244) (by decide +kernel), List.mem_of_getElem? (i := 2245) (by decide +kernel)⟩
theorem lw_p152 : lw_okq (⟨"ShareHouseModel", "constantZ", "(JI)V"⟩, 146) := ⟨⟨by decide +kernel, by decide +kernel⟩, List.mem_of_getElem? (i := 1505) (by decide +kernel), List.mem_of_getElem? (i := 2248) (by decide +kernel), List.mem_of_getElem? (i := 2249) (by decide +kernel)⟩
theorem lw_p153 : lw_okq (⟨"ShareHouseModel", "pushZ", "(I)V"⟩, 146) := ⟨⟨by decide +kernel, by decide +kernel⟩, List.mem_of_getElem? (i := 1505) (by decide +kernel), List.mem_of_getElem? (i := 2252) (by decide +kernel), List.mem_of_getElem? (i := 2253) (by decide +kernel)⟩
theorem lw_p154 : lw_okq (⟨"ShareHouseModel", "named", "(I)V"⟩, 146) := ⟨⟨by decide +kernel, by decide +kernel⟩, List.mem_of_getElem? (i := 1505) (by decide +kernel), List.mem_of_getElem? (i := 2256) (by decide +kernel), List.mem_of_getElem? (i := 2257) (by decide +kernel)⟩
theorem lw_p155 : lw_okq (⟨"ShareHouseModel", "indexed", "(I)V"⟩, 146) := ⟨⟨by decide +kernel, by decide +kernel⟩, List.mem_of_getElem? (i := 1505) (by decide +kernel), List.mem_of_getElem? (i := 2260) (by decide +kernel), List.mem_of_getElem? (i := 2261) (by decide +kernel)⟩
theorem lw_p156 : lw_okq (⟨"ShareHouseModel", "worthOf", "(I)J"⟩, 146) := ⟨⟨by decide +kernel, by decide +kernel⟩, List.mem_of_getElem? (i := 1505) (by decide +kernel), List.mem_of_getElem? (i := 2264) (by decide +kernel), List.mem_of_getElem? (i := 2265) (by decide +kernel)⟩
theorem lw_p157 : lw_okq (⟨"ShareHouseModel", "elementBit", "(III)I"⟩, 146) := ⟨⟨by decide +kernel, by decide +kernel⟩, List.mem_of_getElem? (i := 1505) (by decide +kernel), List.mem_of_getElem? (i := 2268) (by decide +kernel), List.mem_of_getElem? (i := 2269) (by decide +kernel)⟩
theorem lw_p158 : lw_okq (⟨"ShareHouseModel", "popX", "(I)V"⟩, 146) := ⟨⟨by decide +kernel, by decide +kernel⟩, List.mem_of_getElem? (i := 1505) (by decide +kernel), List.mem_of_getElem? (i := 2272) (by decide +kernel), List.mem_of_getElem? (i := 2273) (by decide +kernel)⟩
theorem lw_p159 : lw_okq (⟨"ShareHouseModel", "isIndex", "(I)I"⟩, 146) := ⟨⟨by decide +kernel, by decide +kernel⟩, List.mem_of_getElem? (i := 1505) (by decide +kernel), List.mem_of_getElem? (i := 2276) (by decide +kernel), List.mem_of_getElem? (i := 2277) (by decide +kernel)⟩
def lw_privs_10 : List (MethodName × Nat) := [(⟨"ShareHouseModel", "assigned", "(I)V"⟩, 146), (⟨"ShareHouseModel", "elementSort", "(I)V"⟩, 146), (⟨"ShareHouseModel", "build", "()V"⟩, 146), (⟨"ShareHouseModel", "inputsOfAll", "()V"⟩, 146), (⟨"ShareHouseModel", "widthOf", "(I)I"⟩, 146), (⟨"ShareHouseModel", "operand", "(I)I"⟩, 146), (⟨"ShareHouseModel", "step", "()V"⟩, 146), (⟨"ShareHouseModel", "statementPlace", "()I"⟩, 146), (⟨"ShareHouseModel", "constantZ", "(JI)V"⟩, 146), (⟨"ShareHouseModel", "pushZ", "(I)V"⟩, 146), (⟨"ShareHouseModel", "named", "(I)V"⟩, 146), (⟨"ShareHouseModel", "indexed", "(I)V"⟩, 146), (⟨"ShareHouseModel", "worthOf", "(I)J"⟩, 146), (⟨"ShareHouseModel", "elementBit", "(III)I"⟩, 146), (⟨"ShareHouseModel", "popX", "(I)V"⟩, 146), (⟨"ShareHouseModel", "isIndex", "(I)I"⟩, 146)]
theorem lw_r10 : ∀ q ∈ lw_privs_10, lw_okq q := List.forall_mem_cons.mpr ⟨lw_p144, List.forall_mem_cons.mpr ⟨lw_p145, List.forall_mem_cons.mpr ⟨lw_p146, List.forall_mem_cons.mpr ⟨lw_p147, List.forall_mem_cons.mpr ⟨lw_p148, List.forall_mem_cons.mpr ⟨lw_p149, List.forall_mem_cons.mpr ⟨lw_p150, List.forall_mem_cons.mpr ⟨lw_p151, List.forall_mem_cons.mpr ⟨lw_p152, List.forall_mem_cons.mpr ⟨lw_p153, List.forall_mem_cons.mpr ⟨lw_p154, List.forall_mem_cons.mpr ⟨lw_p155, List.forall_mem_cons.mpr ⟨lw_p156, List.forall_mem_cons.mpr ⟨lw_p157, List.forall_mem_cons.mpr ⟨lw_p158, List.forall_mem_cons.mpr ⟨lw_p159, fun _ h => absurd h List.not_mem_nil⟩⟩⟩⟩⟩⟩⟩⟩⟩⟩⟩⟩⟩⟩⟩⟩
theorem lw_p160 : lw_okq (⟨"ShareHouseModel", "equal", "(I)I"⟩, 146) := ⟨⟨by decide +kernel, by decide +kernel⟩, List.mem_of_getElem? (i := 1505) (by decide +kernel), List.mem_of_getElem? (i := 2280) (by decide +kernel), List.mem_of_getElem? (i := 2281) (by decide +kernel)⟩
theorem lw_p161 : lw_okq (⟨"ShareHouseModel", "xor", "(II)I"⟩, 146) := ⟨⟨by decide +kernel, by decide +kernel⟩, List.mem_of_getElem? (i := 1505) (by decide +kernel), List.mem_of_getElem? (i := 2284) (by decide +kernel), List.mem_of_getElem? (i := 2285) (by decide +kernel)⟩
theorem lw_p162 : lw_okq (⟨"ShareHouseModel", "levelOf", "(I)I"⟩, 146) := ⟨⟨by decide +kernel, by decide +kernel⟩, List.mem_of_getElem? (i := 1505) (by decide +kernel), List.mem_of_getElem? (i := 2288) (by decide +kernel), List.mem_of_getElem? (i := 2289) (by decide +kernel)⟩
theorem lw_p163 : lw_okq (⟨"ShareHouseModel", "newGate", "(IIII)I"⟩, 146) := ⟨⟨by decide +kernel, by decide +kernel⟩, List.mem_of_getElem? (i := 1505) (by decide +kernel), List.mem_of_getElem? (i := 2292) (by decide +kernel), List.mem_of_getElem? (i := 2293) (by decide +kernel)⟩
theorem lw_p164 : lw_okq (⟨"ShareHouseModel", "and", "(II)I"⟩, 146) := ⟨⟨by decide +kernel, by decide +kernel⟩, List.mem_of_getElem? (i := 1505) (by decide +kernel), List.mem_of_getElem? (i := 2296) (by decide +kernel), List.mem_of_getElem? (i := 2297) (by decide +kernel)⟩
theorem lw_p165 : lw_okq (⟨"ShareHouseModel", "bodyOf", "(I)I"⟩, 146) := ⟨⟨by decide +kernel, by decide +kernel⟩, List.mem_of_getElem? (i := 1505) (by decide +kernel), List.mem_of_getElem? (i := 2300) (by decide +kernel), List.mem_of_getElem? (i := 2301) (by decide +kernel)⟩
theorem lw_p166 : lw_okq (⟨"ShareHouseModel", "unary", "(I)V"⟩, 146) := ⟨⟨by decide +kernel, by decide +kernel⟩, List.mem_of_getElem? (i := 1505) (by decide +kernel), List.mem_of_getElem? (i := 2304) (by decide +kernel), List.mem_of_getElem? (i := 2305) (by decide +kernel)⟩
theorem lw_p167 : lw_okq (⟨"ShareHouseModel", "sum", "(II)V"⟩, 146) := ⟨⟨by decide +kernel, by decide +kernel⟩, List.mem_of_getElem? (i := 1505) (by decide +kernel), List.mem_of_getElem? (i := 2308) (by decide +kernel), List.mem_of_getElem? (i := 2309) (by decide +kernel)⟩
theorem lw_p168 : lw_okq (⟨"ShareHouseModel", "binary", "(I)V"⟩, 146) := ⟨⟨by decide +kernel, by decide +kernel⟩, List.mem_of_getElem? (i := 1505) (by decide +kernel), List.mem_of_getElem? (i := 2312) (by decide +kernel), List.mem_of_getElem? (i := 2313) (by decide +kernel)⟩
theorem lw_p169 : lw_okq (⟨"ShareHouseModel", "popY", "(I)V"⟩, 146) := ⟨⟨by decide +kernel, by decide +kernel⟩, List.mem_of_getElem? (i := 1505) (by decide +kernel), List.mem_of_getElem? (i := 2316) (by decide +kernel), List.mem_of_getElem? (i := 2317) (by decide +kernel)⟩
theorem lw_p170 : lw_okq (⟨"ShareHouseModel", "less", "()I"⟩, 146) := ⟨⟨by decide +kernel, by decide +kernel⟩, List.mem_of_getElem? (i := 1505) (by decide +kernel), List.mem_of_getElem? (i := 2320) (by decide +kernel), List.mem_of_getElem? (i := 2321) (by decide +kernel)⟩
theorem lw_p171 : lw_okq (⟨"ShareHouseModel", "swap", "()V"⟩, 146) := ⟨⟨by decide +kernel, by decide +kernel⟩, List.mem_of_getElem? (i := 1505) (by decide +kernel), List.mem_of_getElem? (i := 2324) (by decide +kernel), List.mem_of_getElem? (i := 2325) (by decide +kernel)⟩
theorem lw_p172 : lw_okq (⟨"ShareHouseModel", "multiply", "()V"⟩, 146) := ⟨⟨by decide +kernel, by decide +kernel⟩, List.mem_of_getElem? (i := 1505) (by decide +kernel), List.mem_of_getElem? (i := 2328) (by decide +kernel), List.mem_of_getElem? (i := 2329) (by decide +kernel)⟩
theorem lw_p173 : lw_okq (⟨"ShareHouseModel", "divide", "()V"⟩, 146) := ⟨⟨by decide +kernel, by decide +kernel⟩, List.mem_of_getElem? (i := 1505) (by decide +kernel), List.mem_of_getElem? (i := 2332) (by decide +kernel), List.mem_of_getElem? (i := 2333) (by decide +kernel)⟩
theorem lw_p174 : lw_okq (⟨"ShareHouseModel", "mux", "(III)I"⟩, 146) := ⟨⟨by decide +kernel, by decide +kernel⟩, List.mem_of_getElem? (i := 1505) (by decide +kernel), List.mem_of_getElem? (i := 2336) (by decide +kernel), List.mem_of_getElem? (i := 2337) (by decide +kernel)⟩
theorem lw_p175 : lw_okq (⟨"ShareHouseModel", "statement", "(I)I"⟩, 146) := ⟨⟨by decide +kernel, by decide +kernel⟩, List.mem_of_getElem? (i := 1505) (by decide +kernel), List.mem_of_getElem? (i := 2340) (by decide +kernel), List.mem_of_getElem? (i := 2341) (by decide +kernel)⟩
def lw_privs_11 : List (MethodName × Nat) := [(⟨"ShareHouseModel", "equal", "(I)I"⟩, 146), (⟨"ShareHouseModel", "xor", "(II)I"⟩, 146), (⟨"ShareHouseModel", "levelOf", "(I)I"⟩, 146), (⟨"ShareHouseModel", "newGate", "(IIII)I"⟩, 146), (⟨"ShareHouseModel", "and", "(II)I"⟩, 146), (⟨"ShareHouseModel", "bodyOf", "(I)I"⟩, 146), (⟨"ShareHouseModel", "unary", "(I)V"⟩, 146), (⟨"ShareHouseModel", "sum", "(II)V"⟩, 146), (⟨"ShareHouseModel", "binary", "(I)V"⟩, 146), (⟨"ShareHouseModel", "popY", "(I)V"⟩, 146), (⟨"ShareHouseModel", "less", "()I"⟩, 146), (⟨"ShareHouseModel", "swap", "()V"⟩, 146), (⟨"ShareHouseModel", "multiply", "()V"⟩, 146), (⟨"ShareHouseModel", "divide", "()V"⟩, 146), (⟨"ShareHouseModel", "mux", "(III)I"⟩, 146), (⟨"ShareHouseModel", "statement", "(I)I"⟩, 146)]
theorem lw_r11 : ∀ q ∈ lw_privs_11, lw_okq q := List.forall_mem_cons.mpr ⟨lw_p160, List.forall_mem_cons.mpr ⟨lw_p161, List.forall_mem_cons.mpr ⟨lw_p162, List.forall_mem_cons.mpr ⟨lw_p163, List.forall_mem_cons.mpr ⟨lw_p164, List.forall_mem_cons.mpr ⟨lw_p165, List.forall_mem_cons.mpr ⟨lw_p166, List.forall_mem_cons.mpr ⟨lw_p167, List.forall_mem_cons.mpr ⟨lw_p168, List.forall_mem_cons.mpr ⟨lw_p169, List.forall_mem_cons.mpr ⟨lw_p170, List.forall_mem_cons.mpr ⟨lw_p171, List.forall_mem_cons.mpr ⟨lw_p172, List.forall_mem_cons.mpr ⟨lw_p173, List.forall_mem_cons.mpr ⟨lw_p174, List.forall_mem_cons.mpr ⟨lw_p175, fun _ h => absurd h List.not_mem_nil⟩⟩⟩⟩⟩⟩⟩⟩⟩⟩⟩⟩⟩⟩⟩⟩
theorem lw_p176 : lw_okq (⟨"ShareHouseModel", "variable", "(I)V"⟩, 146) := ⟨⟨by decide +kernel, by decide +kernel⟩, List.mem_of_getElem? (i := 1505) (by decide +kernel), List.mem_of_getElem? (i := 2344) (by decide +kernel), List.mem_of_getElem? (i := 2345) (by decide +kernel)⟩
theorem lw_p177 : lw_okq (⟨"ShareHouseModel", "setElement", "(I)V"⟩, 146) := ⟨⟨by decide +kernel, by decide +kernel⟩, List.mem_of_getElem? (i := 1505) (by decide +kernel), List.mem_of_getElem? (i := 2348) (by decide +kernel), List.mem_of_getElem? (i := 2349) (by decide +kernel)⟩
theorem lw_p178 : lw_okq (⟨"ShareHouseModel", "keepVars", "([II)V"⟩, 146) := ⟨⟨by decide +kernel, by decide +kernel⟩, List.mem_of_getElem? (i := 1505) (by decide +kernel), List.mem_of_getElem? (i := 2352) (by decide +kernel), List.mem_of_getElem? (i := 2353) (by decide +kernel)⟩
theorem lw_p179 : lw_okq (⟨"ShareHouseModel", "bringVars", "([II)V"⟩, 146) := ⟨⟨by decide +kernel, by decide +kernel⟩, List.mem_of_getElem? (i := 1505) (by decide +kernel), List.mem_of_getElem? (i := 2356) (by decide +kernel), List.mem_of_getElem? (i := 2357) (by decide +kernel)⟩
theorem lw_p180 : lw_okq (⟨"ShareHouseModel", "endOfIf", "()V"⟩, 146) := ⟨⟨by decide +kernel, by decide +kernel⟩, List.mem_of_getElem? (i := 1505) (by decide +kernel), List.mem_of_getElem? (i := 2360) (by decide +kernel), List.mem_of_getElem? (i := 2361) (by decide +kernel)⟩
theorem lw_p181 : lw_okq (⟨"ShareHouseModel", "levels", "()V"⟩, 146) := ⟨⟨by decide +kernel, by decide +kernel⟩, List.mem_of_getElem? (i := 1505) (by decide +kernel), List.mem_of_getElem? (i := 2364) (by decide +kernel), List.mem_of_getElem? (i := 2365) (by decide +kernel)⟩
theorem lw_p182 : lw_okq (⟨"ShareHouseModel", "done", "()I"⟩, 146) := ⟨⟨by decide +kernel, by decide +kernel⟩, List.mem_of_getElem? (i := 1505) (by decide +kernel), List.mem_of_getElem? (i := 2372) (by decide +kernel), List.mem_of_getElem? (i := 2373) (by decide +kernel)⟩
theorem lw_p183 : lw_okq (⟨"ShareHouseModel", "shareAll", "()V"⟩, 146) := ⟨⟨by decide +kernel, by decide +kernel⟩, List.mem_of_getElem? (i := 1505) (by decide +kernel), List.mem_of_getElem? (i := 2405) (by decide +kernel), List.mem_of_getElem? (i := 2406) (by decide +kernel)⟩
theorem lw_p184 : lw_okq (⟨"ShareHouseModel", "draw", "()I"⟩, 146) := ⟨⟨by decide +kernel, by decide +kernel⟩, List.mem_of_getElem? (i := 1505) (by decide +kernel), List.mem_of_getElem? (i := 2409) (by decide +kernel), List.mem_of_getElem? (i := 2410) (by decide +kernel)⟩
theorem lw_p185 : lw_okq (⟨"ShareHouseModel", "shareOf", "(I)I"⟩, 146) := ⟨⟨by decide +kernel, by decide +kernel⟩, List.mem_of_getElem? (i := 1505) (by decide +kernel), List.mem_of_getElem? (i := 2418) (by decide +kernel), List.mem_of_getElem? (i := 2419) (by decide +kernel)⟩
theorem lw_p186 : lw_okq (⟨"ShareHouseModel", "sendRound", "(I)V"⟩, 146) := ⟨⟨by decide +kernel, by decide +kernel⟩, List.mem_of_getElem? (i := 1505) (by decide +kernel), List.mem_of_getElem? (i := 2422) (by decide +kernel), List.mem_of_getElem? (i := 2423) (by decide +kernel)⟩
theorem lw_p187 : lw_okq (⟨"ShareHouseModel", "lengthOf", "(II)I"⟩, 146) := ⟨⟨by decide +kernel, by decide +kernel⟩, List.mem_of_getElem? (i := 1505) (by decide +kernel), List.mem_of_getElem? (i := 2430) (by decide +kernel), List.mem_of_getElem? (i := 2431) (by decide +kernel)⟩
theorem lw_p188 : lw_okq (⟨"ShareHouseModel", "sentBit", "(IIII)I"⟩, 146) := ⟨⟨by decide +kernel, by decide +kernel⟩, List.mem_of_getElem? (i := 1505) (by decide +kernel), List.mem_of_getElem? (i := 2434) (by decide +kernel), List.mem_of_getElem? (i := 2435) (by decide +kernel)⟩
theorem lw_p189 : lw_okq (⟨"ShareHouseModel", "takeMessage", "(I)I"⟩, 146) := ⟨⟨by decide +kernel, by decide +kernel⟩, List.mem_of_getElem? (i := 1505) (by decide +kernel), List.mem_of_getElem? (i := 2442) (by decide +kernel), List.mem_of_getElem? (i := 2443) (by decide +kernel)⟩
theorem lw_p190 : lw_okq (⟨"ShareHouseModel", "viewBits", "(I)I"⟩, 146) := ⟨⟨by decide +kernel, by decide +kernel⟩, List.mem_of_getElem? (i := 1505) (by decide +kernel), List.mem_of_getElem? (i := 2454) (by decide +kernel), List.mem_of_getElem? (i := 2455) (by decide +kernel)⟩
theorem lw_p191 : lw_okq (⟨"ShareHouseModel", "mean", "()V"⟩, 146) := ⟨⟨by decide +kernel, by decide +kernel⟩, List.mem_of_getElem? (i := 1505) (by decide +kernel), List.mem_of_getElem? (i := 2478) (by decide +kernel), List.mem_of_getElem? (i := 2479) (by decide +kernel)⟩
def lw_privs_12 : List (MethodName × Nat) := [(⟨"ShareHouseModel", "variable", "(I)V"⟩, 146), (⟨"ShareHouseModel", "setElement", "(I)V"⟩, 146), (⟨"ShareHouseModel", "keepVars", "([II)V"⟩, 146), (⟨"ShareHouseModel", "bringVars", "([II)V"⟩, 146), (⟨"ShareHouseModel", "endOfIf", "()V"⟩, 146), (⟨"ShareHouseModel", "levels", "()V"⟩, 146), (⟨"ShareHouseModel", "done", "()I"⟩, 146), (⟨"ShareHouseModel", "shareAll", "()V"⟩, 146), (⟨"ShareHouseModel", "draw", "()I"⟩, 146), (⟨"ShareHouseModel", "shareOf", "(I)I"⟩, 146), (⟨"ShareHouseModel", "sendRound", "(I)V"⟩, 146), (⟨"ShareHouseModel", "lengthOf", "(II)I"⟩, 146), (⟨"ShareHouseModel", "sentBit", "(IIII)I"⟩, 146), (⟨"ShareHouseModel", "takeMessage", "(I)I"⟩, 146), (⟨"ShareHouseModel", "viewBits", "(I)I"⟩, 146), (⟨"ShareHouseModel", "mean", "()V"⟩, 146)]
theorem lw_r12 : ∀ q ∈ lw_privs_12, lw_okq q := List.forall_mem_cons.mpr ⟨lw_p176, List.forall_mem_cons.mpr ⟨lw_p177, List.forall_mem_cons.mpr ⟨lw_p178, List.forall_mem_cons.mpr ⟨lw_p179, List.forall_mem_cons.mpr ⟨lw_p180, List.forall_mem_cons.mpr ⟨lw_p181, List.forall_mem_cons.mpr ⟨lw_p182, List.forall_mem_cons.mpr ⟨lw_p183, List.forall_mem_cons.mpr ⟨lw_p184, List.forall_mem_cons.mpr ⟨lw_p185, List.forall_mem_cons.mpr ⟨lw_p186, List.forall_mem_cons.mpr ⟨lw_p187, List.forall_mem_cons.mpr ⟨lw_p188, List.forall_mem_cons.mpr ⟨lw_p189, List.forall_mem_cons.mpr ⟨lw_p190, List.forall_mem_cons.mpr ⟨lw_p191, fun _ h => absurd h List.not_mem_nil⟩⟩⟩⟩⟩⟩⟩⟩⟩⟩⟩⟩⟩⟩⟩⟩
theorem lw_p192 : lw_okq (⟨"ShareHouseModel", "meanOperand", "(I)I"⟩, 146) := ⟨⟨by decide +kernel, by decide +kernel⟩, List.mem_of_getElem? (i := 1505) (by decide +kernel), List.mem_of_getElem? (i := 2482) (by decide +kernel), List.mem_of_getElem? (i := 2483) (by decide +kernel)⟩
theorem lw_p193 : lw_okq (⟨"ShareHouseModel", "pushWord", "(J)V"⟩, 146) := ⟨⟨by decide +kernel, by decide +kernel⟩, List.mem_of_getElem? (i := 1505) (by decide +kernel), List.mem_of_getElem? (i := 2486) (by decide +kernel), List.mem_of_getElem? (i := 2487) (by decide +kernel)⟩
theorem lw_p194 : lw_okq (⟨"ShareHouseModel", "inputWord", "(I)J"⟩, 146) := ⟨⟨by decide +kernel, by decide +kernel⟩, List.mem_of_getElem? (i := 1505) (by decide +kernel), List.mem_of_getElem? (i := 2490) (by decide +kernel), List.mem_of_getElem? (i := 2491) (by decide +kernel)⟩
theorem lw_p195 : lw_okq (⟨"ShareHouseModel", "meanBinary", "(IJJ)J"⟩, 146) := ⟨⟨by decide +kernel, by decide +kernel⟩, List.mem_of_getElem? (i := 1505) (by decide +kernel), List.mem_of_getElem? (i := 2494) (by decide +kernel), List.mem_of_getElem? (i := 2495) (by decide +kernel)⟩
theorem lw_p196 : lw_okq (⟨"ShareHouseModel", "signed", "(J)J"⟩, 146) := ⟨⟨by decide +kernel, by decide +kernel⟩, List.mem_of_getElem? (i := 1505) (by decide +kernel), List.mem_of_getElem? (i := 2498) (by decide +kernel), List.mem_of_getElem? (i := 2499) (by decide +kernel)⟩
theorem lw_p197 : lw_okq (⟨"ShareHouseModel", "meanStatement", "(I)I"⟩, 146) := ⟨⟨by decide +kernel, by decide +kernel⟩, List.mem_of_getElem? (i := 1505) (by decide +kernel), List.mem_of_getElem? (i := 2502) (by decide +kernel), List.mem_of_getElem? (i := 2503) (by decide +kernel)⟩
def lw_privs_13 : List (MethodName × Nat) := [(⟨"ShareHouseModel", "meanOperand", "(I)I"⟩, 146), (⟨"ShareHouseModel", "pushWord", "(J)V"⟩, 146), (⟨"ShareHouseModel", "inputWord", "(I)J"⟩, 146), (⟨"ShareHouseModel", "meanBinary", "(IJJ)J"⟩, 146), (⟨"ShareHouseModel", "signed", "(J)J"⟩, 146), (⟨"ShareHouseModel", "meanStatement", "(I)I"⟩, 146)]
theorem lw_r13 : ∀ q ∈ lw_privs_13, lw_okq q := List.forall_mem_cons.mpr ⟨lw_p192, List.forall_mem_cons.mpr ⟨lw_p193, List.forall_mem_cons.mpr ⟨lw_p194, List.forall_mem_cons.mpr ⟨lw_p195, List.forall_mem_cons.mpr ⟨lw_p196, List.forall_mem_cons.mpr ⟨lw_p197, fun _ h => absurd h List.not_mem_nil⟩⟩⟩⟩⟩⟩
def lw_privs : List (MethodName × Nat) := lw_privs_1 ++ (lw_privs_2 ++ (lw_privs_3 ++ (lw_privs_4 ++ (lw_privs_5 ++ (lw_privs_6 ++ (lw_privs_7 ++ (lw_privs_8 ++ (lw_privs_9 ++ (lw_privs_10 ++ (lw_privs_11 ++ (lw_privs_12 ++ (lw_privs_13))))))))))))
def lw_tbl : List Cond := k2_sels lw_privs ++ tables_1
theorem lw_privs_ok : ∀ q ∈ lw_privs, lw_okq q := by
  show ∀ q ∈ lw_privs_1 ++ (lw_privs_2 ++ (lw_privs_3 ++ (lw_privs_4 ++ (lw_privs_5 ++ (lw_privs_6 ++ (lw_privs_7 ++ (lw_privs_8 ++ (lw_privs_9 ++ (lw_privs_10 ++ (lw_privs_11 ++ (lw_privs_12 ++ (lw_privs_13)))))))))))), lw_okq q
  exact List.forall_mem_append.mpr ⟨lw_r1, List.forall_mem_append.mpr ⟨lw_r2, List.forall_mem_append.mpr ⟨lw_r3, List.forall_mem_append.mpr ⟨lw_r4, List.forall_mem_append.mpr ⟨lw_r5, List.forall_mem_append.mpr ⟨lw_r6, List.forall_mem_append.mpr ⟨lw_r7, List.forall_mem_append.mpr ⟨lw_r8, List.forall_mem_append.mpr ⟨lw_r9, List.forall_mem_append.mpr ⟨lw_r10, List.forall_mem_append.mpr ⟨lw_r11, List.forall_mem_append.mpr ⟨lw_r12, lw_r13⟩⟩⟩⟩⟩⟩⟩⟩⟩⟩⟩⟩
end
section
abbrev ip_E : Type := (FieldType × vp_A) ⊕ (Nat × List Value)
abbrev ip_H : Type := List ip_E
abbrev ip_M : Type := MethodName × ByteArray × Nat × Option FieldType
abbrev ip_G : Type := List Cond × List vw_C × va_G × (FieldType → ClassId) × Nat × (Nat → Nat) × (State → Prop)
def ip_T (G : ip_G) : List Cond := G.1
def ip_C (G : ip_G) : List vw_C := G.2.1
def ip_D (G : ip_G) : va_G := G.2.2.1
def ip_A (G : ip_G) : FieldType → ClassId := G.2.2.2.1
def ip_B (G : ip_G) : Nat := G.2.2.2.2.1
def ip_O (G : ip_G) : Nat → Nat := G.2.2.2.2.2.1
def ip_X (G : ip_G) : State → Prop := G.2.2.2.2.2.2
/-- a reference n of the picture: below 32 one of the old cells, else the cell n - 32 behind the base -/
def ip_a (G : ip_G) (n : Nat) : Nat := if n < 32 then ip_O G n else ip_B G + (n - 32)
def ip_v (G : ip_G) (v : Value) : Value := match v with
  | .ref n => .ref (ip_a G n)
  | w => w
def ip_cv (G : ip_G) (e : ip_E) : va_E := match e with
  | .inl a => .inl (ip_A G a.1, a.2)
  | .inr o => .inr (o.1, o.2.map (ip_v G))
def ip_ws (G : ip_G) : Nat → ip_H → va_W
  | _, [] => []
  | b, e :: h => (b, ip_cv G e) :: ip_ws G (b + 1) h
def ip_z (e : ip_E) : Nat := match e with
  | .inl a => a.2.1
  | .inr o => o.2.length
def ip_t (h : ip_H) : Nat := (h.map ip_z).sum
def ip_h (h : ip_H) (n : Nat) : Option ip_E := if n < 32 then none else h[n - 32]?
def ip_hs (h : ip_H) (n : Nat) (e : ip_E) : ip_H := h.set (n - 32) e
theorem ip_v_cat (G : ip_G) (v : Value) : (ip_v G v).category = v.category := by cases v <;> rfl
theorem ip_cats (G : ip_G) (st : List Value) : ((st.map (ip_v G)).map fun v => v.category) = st.map fun v => v.category := by
  rw [List.map_map]
  exact List.map_congr_left (fun v _ => ip_v_cat G v)
theorem ip_ws_get (G : ip_G) : ∀ (h : ip_H) (b k : Nat), (ip_ws G b h)[k]? = (h[k]?).map (fun e => (b + k, ip_cv G e))
  | [], _, _ => rfl
  | e :: h, b, 0 => rfl
  | e :: h, b, k + 1 => by
    show (ip_ws G (b + 1) h)[k]? = _
    rw [ip_ws_get G h (b + 1) k]
    show _ = (h[k]?).map _
    rw [show b + 1 + k = b + (k + 1) by omega]
theorem ip_ws_set (G : ip_G) (e : ip_E) : ∀ (h : ip_H) (b k : Nat), ip_ws G b (h.set k e) = (ip_ws G b h).set k (b + k, ip_cv G e)
  | [], _, _ => rfl
  | x :: h, b, 0 => rfl
  | x :: h, b, k + 1 => by
    show (b, ip_cv G x) :: ip_ws G (b + 1) (h.set k e) = (b, ip_cv G x) :: (ip_ws G (b + 1) h).set k _
    rw [ip_ws_set G e h (b + 1) k, show b + 1 + k = b + (k + 1) by omega]
theorem ip_ws_push (G : ip_G) (e : ip_E) : ∀ (h : ip_H) (b : Nat), ip_ws G b (h ++ [e]) = ip_ws G b h ++ [(b + h.length, ip_cv G e)]
  | [], _ => rfl
  | x :: h, b => by
    show (b, ip_cv G x) :: ip_ws G (b + 1) (h ++ [e]) = (b, ip_cv G x) :: (ip_ws G (b + 1) h ++ [(b + (h.length + 1), ip_cv G e)])
    rw [ip_ws_push G e h (b + 1), show b + 1 + h.length = b + (h.length + 1) by omega]
theorem ip_ws_at (G : ip_G) {h : ip_H} {n : Nat} {e : ip_E} (hh : ip_h h n = some e) : (ip_ws G (ip_B G) h)[n - 32]? = some (ip_a G n, ip_cv G e) := by
  unfold ip_h at hh
  split at hh
  · cases hh
  · next hn =>
    rw [ip_ws_get, hh]
    show some (ip_B G + (n - 32), _) = some (ip_a G n, _)
    unfold ip_a
    rw [if_neg hn]
theorem ip_ws_D (G : ip_G) (h : ip_H) (b : Nat) : va_D (fun q => b ≤ q) (ip_ws G b h) := by
  refine ⟨fun i j p q hi hj e => ?_, fun k q hk => ?_⟩
  · rw [ip_ws_get] at hi hj
    obtain ⟨x, -, rfl⟩ := Option.map_eq_some_iff.mp hi
    obtain ⟨y, -, rfl⟩ := Option.map_eq_some_iff.mp hj
    exact Nat.add_left_cancel e
  · rw [ip_ws_get] at hk
    obtain ⟨x, -, rfl⟩ := Option.map_eq_some_iff.mp hk
    exact Nat.le_add_right b k
theorem ip_hs_len (h : ip_H) (n : Nat) (e : ip_E) : (ip_hs h n e).length = h.length := List.length_set
theorem ip_t_set : ∀ (h : ip_H) (k : Nat) (e x : ip_E), h[k]? = some x → ip_z e = ip_z x → ip_t (h.set k e) = ip_t h
  | [], _, _, _, h, _ => by simp at h
  | y :: h, 0, e, x, hx, hz => by
    have hx : y = x := Option.some.inj hx
    subst hx
    show ip_z e + _ = ip_z y + _
    rw [hz]
  | y :: h, k + 1, e, x, hx, hz => by
    show ip_z y + ip_t (h.set k e) = ip_z y + ip_t h
    rw [ip_t_set h k e x hx hz]
theorem ip_hs_t {h : ip_H} {n : Nat} {e x : ip_E} (hx : ip_h h n = some x) (hz : ip_z e = ip_z x) : ip_t (ip_hs h n e) = ip_t h := by
  unfold ip_h at hx
  split at hx
  · cases hx
  · exact ip_t_set h _ e x hx hz
theorem ip_t_push (h : ip_H) (e : ip_E) : ip_t (h ++ [e]) = ip_t h + ip_z e := by
  unfold ip_t
  rw [List.map_append, List.sum_append]
  simp
def ip_ty (G : ip_G) : List (ClassId × FieldType) := [(ip_A G .int, .int), (ip_A G .byte, .byte), (ip_A G .boolean, .boolean), (ip_A G .long, .long)]
def ip_U (G : ip_G) (U : State) : Prop := ip_B G ≤ U.heap.size ∧ va_K (ip_D G) (ip_C G) (ip_ty G) U ∧ ip_X G U
def ip_mv (G : ip_G) : Prop := ∀ U U' : State, U.vm.Alike U'.vm → (∀ q : Nat, q < ip_B G → U'.heap[q]? = U.heap[q]?) → ip_X G U → ip_X G U'
def ip_Cx (G : ip_G) (M : ip_M) (p : Program) (s : State) (m : MethodId) (args : Array Value) (meth : Method) (c : Code) : Prop :=
  p.tables.exec = Jvm.exec ∧ c.code = M.2.1 ∧ meth.sig.returnType = M.2.2.2 ∧ c.maxLocals = M.2.2.1 ∧ s.vm.findClass M.1.cls = some m.cls ∧ (∀ w ∈ ip_T G, w.before args s = true) ∧ meth.locks = false ∧ meth.name = M.1.name ∧ ip_U G s
def ip_St (G : ip_G) (h : ip_H) (H : Heap) : Prop := H.size = ip_B G + h.length ∧ va_P (ip_D G) (ip_C G) (ip_ws G (ip_B G) h) H
def ip_ri (v : Option Value) : Instr := match v with
  | none => .return_
  | some (.int _) => .ireturn
  | some (.long _) => .lreturn
  | some _ => .areturn
def ip_L (G : ip_G) (ls : Array Slot) (n : Nat) (L : List (Option Value)) : Prop := ls.size = n ∧ lv_wf ls ∧ ∀ (i : Nat) (v : Value), L[i]? = some (some v) → ls[i]? = some (.val (ip_v G v))
abbrev ip_S (G : ip_G) (s : State) (H : Heap) (locs : List Loc) : Prop := va_S (fun q => ip_B G ≤ q) s.heap H locs
def ip_Rn (l : Launch) (G : ip_G) (M : ip_M) (d pc : Nat) (L : List (Option Value)) (st : List Value) (h : ip_H) (r : Option Value × ip_H) : Prop :=
  (h.length ≤ r.2.length ∧ ip_t h ≤ ip_t r.2) ∧
  ∀ (p : Program) (e : Env) (R : Room) (s : State) (m : MethodId) (args : Array Value) (below : List Frame) (meth : Method) (c : Code) (Q : State → Prop) (H : Heap) (locs : List Loc) (cells slots : Nat) (ls : Array Slot),
    ip_Cx G M p s m args meth c → d ≤ R.frames → 41 * d ≤ R.locals → cells + r.2.length ≤ R.cells + h.length → slots + ip_t r.2 ≤ R.slots + ip_t h →
    ip_L G ls M.2.2.1 L → ip_St G h H → ip_S G s H locs →
    (∀ (pc' : Nat) (ls' : Array Slot) (H' : Heap) (locs' : List Loc), decode M.2.1 pc' = .ok (ip_ri r.1, 1) → ip_St G r.2 H' → ip_S G s H' locs' →
      W p l e R s m args below meth c H' locs' (cells + (r.2.length - h.length)) (slots + (ip_t r.2 - ip_t h)) Q (F0 m pc' ls' (r.1.toList.map (ip_v G)))) →
    W p l e R s m args below meth c H locs cells slots Q (F0 m pc ls (st.map (ip_v G)))
/-! the words of the picture's local variables -/
def ip_lv (G : ip_G) : Nat → List (Option Value) → List (Nat × Value)
  | _, [] => []
  | i, none :: L => ip_lv G (i + 1) L
  | i, some v :: L => (i, ip_v G v) :: ip_lv G (i + 1) L
theorem ip_lv_mem (G : ip_G) : ∀ (L : List (Option Value)) (b : Nat) (q : Nat × Value), q ∈ ip_lv G b L → ∃ (i : Nat) (v : Value), L[i]? = some (some v) ∧ q = (b + i, ip_v G v)
  | [], _, q, h => by simp [ip_lv] at h
  | none :: L, b, q, h => by
    obtain ⟨i, v, h1, h2⟩ := ip_lv_mem G L (b + 1) q h
    exact ⟨i + 1, v, h1, by rw [h2, show b + 1 + i = b + (i + 1) by omega]⟩
  | some w :: L, b, q, h => by
    rcases List.mem_cons.mp h with h | h
    · exact ⟨0, w, rfl, h⟩
    · obtain ⟨i, v, h1, h2⟩ := ip_lv_mem G L (b + 1) q h
      exact ⟨i + 1, v, h1, by rw [h2, show b + 1 + i = b + (i + 1) by omega]⟩
theorem ip_lv_in (G : ip_G) : ∀ (L : List (Option Value)) (b i : Nat) (v : Value), L[i]? = some (some v) → (b + i, ip_v G v) ∈ ip_lv G b L
  | [], _, i, v, h => by simp at h
  | none :: L, b, 0, v, h => by simp at h
  | none :: L, b, i + 1, v, h => by
    have := ip_lv_in G L (b + 1) i v h
    rw [show b + 1 + i = b + (i + 1) by omega] at this
    exact this
  | some w :: L, b, 0, v, h => by
    have : w = v := by simpa using h
    subst this
    exact List.mem_cons_self
  | some w :: L, b, i + 1, v, h => by
    have := ip_lv_in G L (b + 1) i v h
    rw [show b + 1 + i = b + (i + 1) by omega] at this
    exact List.mem_cons_of_mem _ this
theorem ip_L.has {G : ip_G} {ls : Array Slot} {n : Nat} {L : List (Option Value)} (h : ip_L G ls n L) : lv_has ls n (ip_lv G 0 L) := by
  refine ⟨h.1, h.2.1, fun q hq => ?_⟩
  obtain ⟨i, v, h1, rfl⟩ := ip_lv_mem G L 0 q hq
  rw [Nat.zero_add]
  exact h.2.2 i v h1
def ip_cl (L : List (Option Value)) (i : Nat) : List (Option Value) := match i with
  | 0 => L
  | j + 1 => match L[j]? with
    | some (some v) => if v.category = 2 then L.set j none else L
    | _ => L
def ip_s1 (L : List (Option Value)) (i : Nat) (v : Value) : List (Option Value) := (ip_cl L i).set i (some v)
def ip_s2 (L : List (Option Value)) (i : Nat) (v : Value) : List (Option Value) := ((ip_cl L i).set i (some v)).set (i + 1) none
theorem ip_cl_get {L : List (Option Value)} {i j : Nat} {v : Value} (h : (ip_cl L i)[j]? = some (some v)) : L[j]? = some (some v) ∧ ¬ (j + 1 = i ∧ v.category = 2) := by
  cases i with
  | zero => exact ⟨h, fun q => by omega⟩
  | succ i =>
    unfold ip_cl at h
    cases hL : L[i]? with
    | none =>
      simp only [hL] at h
      refine ⟨h, fun q => ?_⟩
      obtain ⟨q1, q2⟩ := q
      have : j = i := by omega
      subst this
      rw [hL] at h
      cases h
    | some o =>
      cases o with
      | none =>
        simp only [hL] at h
        refine ⟨h, fun q => ?_⟩
        obtain ⟨q1, q2⟩ := q
        have : j = i := by omega
        subst this
        rw [hL] at h
        cases h
      | some w =>
        simp only [hL] at h
        by_cases hw : w.category = 2
        · rw [if_pos hw] at h
          by_cases hj : j = i
          · subst hj
            rw [List.getElem?_set] at h
            simp at h
          · rw [List.getElem?_set_ne (Ne.symm hj)] at h
            exact ⟨h, fun q => hj (by omega)⟩
        · rw [if_neg hw] at h
          refine ⟨h, fun q => ?_⟩
          obtain ⟨q1, q2⟩ := q
          have : j = i := by omega
          subst this
          rw [hL] at h
          have : w = v := by simpa using h
          subst this
          exact hw q2
theorem ip_L_s1 {G : ip_G} {ls' : Array Slot} {n i : Nat} {L : List (Option Value)} {v w : Value} (hw : w = ip_v G v)
    (h : lv_has ls' n ((i, w) :: (ip_lv G 0 L).filter (fun q => !(q.1 == i) && !(q.1 + 1 == i && q.2.category == 2)))) : ip_L G ls' n (ip_s1 L i v) := by
  refine ⟨h.1, h.2.1, fun j x hj => ?_⟩
  unfold ip_s1 at hj
  by_cases hji : j = i
  · subst hji
    rw [List.getElem?_set] at hj
    have hx : v = x := by
      split at hj
      · split at hj
        · simpa using hj
        · cases hj
      · next hne => exact absurd rfl hne
    subst hx
    rw [← hw]
    exact h.2.2 (j, w) List.mem_cons_self
  · rw [List.getElem?_set_ne (Ne.symm hji)] at hj
    obtain ⟨h1, h2⟩ := ip_cl_get hj
    have hm := ip_lv_in G L 0 j x h1
    rw [Nat.zero_add] at hm
    refine h.2.2 (j, ip_v G x) (List.mem_cons_of_mem _ (List.mem_filter.mpr ⟨hm, ?_⟩))
    simp only [ip_v_cat, Bool.and_eq_true, Bool.not_eq_true', beq_eq_false_iff_ne, ne_eq, Bool.and_eq_false_iff]
    refine ⟨hji, ?_⟩
    by_cases q1 : j + 1 = i
    · exact Or.inr (fun q2 => h2 ⟨q1, q2⟩)
    · exact Or.inl q1
theorem ip_L_s2 {G : ip_G} {ls' : Array Slot} {n i : Nat} {L : List (Option Value)} {v w : Value} (hw : w = ip_v G v)
    (h : lv_has ls' n ((i, w) :: (ip_lv G 0 L).filter (fun q => !(q.1 == i) && (!(q.1 == i + 1) && !(q.1 + 1 == i && q.2.category == 2))))) : ip_L G ls' n (ip_s2 L i v) := by
  refine ⟨h.1, h.2.1, fun j x hj => ?_⟩
  unfold ip_s2 at hj
  by_cases hj1 : j = i + 1
  · subst hj1
    rw [List.getElem?_set] at hj
    simp at hj
  · rw [List.getElem?_set_ne (Ne.symm hj1)] at hj
    by_cases hji : j = i
    · subst hji
      rw [List.getElem?_set] at hj
      have hx : v = x := by
        split at hj
        · split at hj
          · simpa using hj
          · cases hj
        · next hne => exact absurd rfl hne
      subst hx
      rw [← hw]
      exact h.2.2 (j, w) List.mem_cons_self
    · rw [List.getElem?_set_ne (Ne.symm hji)] at hj
      obtain ⟨h1, h2⟩ := ip_cl_get hj
      have hm := ip_lv_in G L 0 j x h1
      rw [Nat.zero_add] at hm
      refine h.2.2 (j, ip_v G x) (List.mem_cons_of_mem _ (List.mem_filter.mpr ⟨hm, ?_⟩))
      simp only [ip_v_cat, Bool.and_eq_true, Bool.not_eq_true', beq_eq_false_iff_ne, ne_eq, Bool.and_eq_false_iff]
      refine ⟨hji, hj1, ?_⟩
      by_cases q1 : j + 1 = i
      · exact Or.inr (fun q2 => h2 ⟨q1, q2⟩)
      · exact Or.inl q1
end
section
section IPP
variable {l : Launch} {G : ip_G} {M : ip_M} {d pc : Nat} {L : List (Option Value)} {st : List Value} {h : ip_H} {r : Option Value × ip_H}
theorem ip_pure {pc' : Nat} {L' : List (Option Value)} {st' : List Value}
    (hs : ∀ (p : Program) (e : Env) (R : Room) (s : State) (m : MethodId) (args : Array Value) (below : List Frame) (meth : Method) (c : Code) (Q : State → Prop) (H : Heap) (locs : List Loc) (cells slots : Nat) (ls : Array Slot),
      ip_Cx G M p s m args meth c → d ≤ R.frames → 41 * d ≤ R.locals → ip_L G ls M.2.2.1 L → (∀ ls' : Array Slot, ip_L G ls' M.2.2.1 L' → W p l e R s m args below meth c H locs cells slots Q (F0 m pc' ls' (st'.map (ip_v G)))) → W p l e R s m args below meth c H locs cells slots Q (F0 m pc ls (st.map (ip_v G))))
    (k : ip_Rn l G M d pc' L' st' h r) : ip_Rn l G M d pc L st h r :=
  ⟨k.1, fun p e R s m args below meth c Q H locs cells slots ls C hd hl hc hsl hL hSt hS kk =>
    hs p e R s m args below meth c Q H locs cells slots ls C hd hl hL (fun ls' hL' => k.2 p e R s m args below meth c Q H locs cells slots ls' C hd hl hc hsl hL' hSt hS kk)⟩
theorem ip_iconst {n : Int} {v : Int32} (hd : decode M.2.1 pc = .ok (.iconst n, 1)) (hv : Int32.ofInt n = v) (k : ip_Rn l G M d (pc + 1) L (.int v :: st) h r) : ip_Rn l G M d pc L st h r :=
  ip_pure (fun _ _ _ _ _ _ _ _ _ _ _ _ _ _ _ C _ _ hL kk => lv_iconst C.1 C.2.1 hd hv (kk _ hL)) k
theorem ip_bipush {n : Int} {v : Int32} (hd : decode M.2.1 pc = .ok (.bipush n, 2)) (hv : (Int8.ofInt n).toInt32 = v) (k : ip_Rn l G M d (pc + 2) L (.int v :: st) h r) : ip_Rn l G M d pc L st h r :=
  ip_pure (fun _ _ _ _ _ _ _ _ _ _ _ _ _ _ _ C _ _ hL kk => lv_bipush C.1 C.2.1 hd hv (kk _ hL)) k
theorem ip_sipush {n : Int} {v : Int32} (hd : decode M.2.1 pc = .ok (.sipush n, 3)) (hv : (Int16.ofInt n).toInt32 = v) (k : ip_Rn l G M d (pc + 3) L (.int v :: st) h r) : ip_Rn l G M d pc L st h r :=
  ip_pure (fun _ _ _ _ _ _ _ _ _ _ _ _ _ _ _ C _ _ hL kk => lv_sipush C.1 C.2.1 hd hv (kk _ hL)) k
theorem ip_lconst {n : Fin 2} {v : Int64} (hd : decode M.2.1 pc = .ok (.lconst n, 1)) (hv : Int64.ofNat (n : Nat) = v) (k : ip_Rn l G M d (pc + 1) L (.long v :: st) h r) : ip_Rn l G M d pc L st h r :=
  ip_pure (fun _ _ _ _ _ _ _ _ _ _ _ _ _ _ _ C _ _ hL kk => lv_lconst C.1 C.2.1 hd hv (kk _ hL)) k
theorem ip_ldc {i : Nat} {v : Int32} (hd : decode M.2.1 pc = .ok (.ldc i, 2)) (hw : Cond.constant M.1.cls i v ∈ ip_T G) (k : ip_Rn l G M d (pc + 2) L (.int v :: st) h r) : ip_Rn l G M d pc L st h r :=
  ip_pure (fun _ _ _ _ _ _ _ _ _ _ _ _ _ _ _ C _ _ hL kk => lv_ldc C.1 C.2.1 C.2.2.2.2.1 (C.2.2.2.2.2.1 _ hw) hd (kk _ hL)) k
theorem ip_ldcw {i : Nat} {v : Int32} (hd : decode M.2.1 pc = .ok (.ldc_w i, 3)) (hw : Cond.constant M.1.cls i v ∈ ip_T G) (k : ip_Rn l G M d (pc + 3) L (.int v :: st) h r) : ip_Rn l G M d pc L st h r :=
  ip_pure (fun _ _ _ _ _ _ _ _ _ _ _ _ _ _ _ C _ _ hL kk => lv_ldcw C.1 C.2.1 C.2.2.2.2.1 (C.2.2.2.2.2.1 _ hw) hd (kk _ hL)) k
theorem ip_ldc2 {i : Nat} {v : Int64} (hd : decode M.2.1 pc = .ok (.ldc2_w i, 3)) (hw : Cond.constantLong M.1.cls i v ∈ ip_T G) (k : ip_Rn l G M d (pc + 3) L (.long v :: st) h r) : ip_Rn l G M d pc L st h r :=
  ip_pure (fun _ _ _ _ _ _ _ _ _ _ _ _ _ _ _ C _ _ hL kk => lv_ldc2 C.1 C.2.1 C.2.2.2.2.1 (C.2.2.2.2.2.1 _ hw) hd (kk _ hL)) k
theorem ip_iload {i : Nat} {x : Int32} (hd : decode M.2.1 pc = .ok (.iload i, 2)) (hv : L[i]? = some (some (.int x))) (k : ip_Rn l G M d (pc + 2) L (.int x :: st) h r) : ip_Rn l G M d pc L st h r :=
  ip_pure (fun _ _ _ _ _ _ _ _ _ _ _ _ _ _ _ C _ _ hL kk => lv_iload C.1 C.2.1 hd (hL.2.2 _ _ hv) (kk _ hL)) k
theorem ip_iload_n {i : Fin 4} {x : Int32} (hd : decode M.2.1 pc = .ok (.iload_n i, 1)) (hv : L[i.val]? = some (some (.int x))) (k : ip_Rn l G M d (pc + 1) L (.int x :: st) h r) : ip_Rn l G M d pc L st h r :=
  ip_pure (fun _ _ _ _ _ _ _ _ _ _ _ _ _ _ _ C _ _ hL kk => lv_iload_n C.1 C.2.1 hd rfl (hL.2.2 _ _ hv) (kk _ hL)) k
theorem ip_lload {i : Nat} {x : Int64} (hd : decode M.2.1 pc = .ok (.lload i, 2)) (hv : L[i]? = some (some (.long x))) (k : ip_Rn l G M d (pc + 2) L (.long x :: st) h r) : ip_Rn l G M d pc L st h r :=
  ip_pure (fun _ _ _ _ _ _ _ _ _ _ _ _ _ _ _ C _ _ hL kk => lv_lload C.1 C.2.1 hd (hL.2.2 _ _ hv) (kk _ hL)) k
theorem ip_lload_n {i : Fin 4} {x : Int64} (hd : decode M.2.1 pc = .ok (.lload_n i, 1)) (hv : L[i.val]? = some (some (.long x))) (k : ip_Rn l G M d (pc + 1) L (.long x :: st) h r) : ip_Rn l G M d pc L st h r :=
  ip_pure (fun _ _ _ _ _ _ _ _ _ _ _ _ _ _ _ C _ _ hL kk => lv_lload_n C.1 C.2.1 hd rfl (hL.2.2 _ _ hv) (kk _ hL)) k
theorem ip_aload {i : Nat} {x : Nat} (hd : decode M.2.1 pc = .ok (.aload i, 2)) (hv : L[i]? = some (some (.ref x))) (k : ip_Rn l G M d (pc + 2) L (.ref x :: st) h r) : ip_Rn l G M d pc L st h r :=
  ip_pure (fun _ _ _ _ _ _ _ _ _ _ _ _ _ _ _ C _ _ hL kk => lv_aload C.1 C.2.1 hd (hL.2.2 _ _ hv) (kk _ hL)) k
theorem ip_aload_n {i : Fin 4} {x : Nat} (hd : decode M.2.1 pc = .ok (.aload_n i, 1)) (hv : L[i.val]? = some (some (.ref x))) (k : ip_Rn l G M d (pc + 1) L (.ref x :: st) h r) : ip_Rn l G M d pc L st h r :=
  ip_pure (fun _ _ _ _ _ _ _ _ _ _ _ _ _ _ _ C _ _ hL kk => lv_aload_n C.1 C.2.1 hd rfl (hL.2.2 _ _ hv) (kk _ hL)) k
theorem ip_istore {i : Nat} {x : Int32} (hd : decode M.2.1 pc = .ok (.istore i, 2)) (hi : i < M.2.2.1) (k : ip_Rn l G M d (pc + 2) (ip_s1 L i (.int x)) st h r) : ip_Rn l G M d pc L (.int x :: st) h r :=
  ip_pure (fun _ _ _ _ _ _ _ _ _ _ _ _ _ _ _ C _ _ hL kk => lv_istore C.1 C.2.1 hd hL.has hi rfl (fun ls' h' => kk ls' (ip_L_s1 rfl h'))) k
theorem ip_istore_n {i : Fin 4} {x : Int32} (hd : decode M.2.1 pc = .ok (.istore_n i, 1)) (hi : i.val < M.2.2.1) (k : ip_Rn l G M d (pc + 1) (ip_s1 L i.val (.int x)) st h r) : ip_Rn l G M d pc L (.int x :: st) h r :=
  ip_pure (fun _ _ _ _ _ _ _ _ _ _ _ _ _ _ _ C _ _ hL kk => lv_istore_n C.1 C.2.1 hd rfl hL.has hi rfl (fun ls' h' => kk ls' (ip_L_s1 rfl h'))) k
theorem ip_lstore {i : Nat} {x : Int64} (hd : decode M.2.1 pc = .ok (.lstore i, 2)) (hi : i + 1 < M.2.2.1) (k : ip_Rn l G M d (pc + 2) (ip_s2 L i (.long x)) st h r) : ip_Rn l G M d pc L (.long x :: st) h r :=
  ip_pure (fun _ _ _ _ _ _ _ _ _ _ _ _ _ _ _ C _ _ hL kk => lv_lstore C.1 C.2.1 hd hL.has hi rfl (fun ls' h' => kk ls' (ip_L_s2 rfl h'))) k
theorem ip_lstore_n {i : Fin 4} {x : Int64} (hd : decode M.2.1 pc = .ok (.lstore_n i, 1)) (hi : i.val + 1 < M.2.2.1) (k : ip_Rn l G M d (pc + 1) (ip_s2 L i.val (.long x)) st h r) : ip_Rn l G M d pc L (.long x :: st) h r :=
  ip_pure (fun _ _ _ _ _ _ _ _ _ _ _ _ _ _ _ C _ _ hL kk => lv_lstore_n C.1 C.2.1 hd rfl hL.has hi rfl (fun ls' h' => kk ls' (ip_L_s2 rfl h'))) k
theorem ip_astore {i : Nat} {x : Nat} (hd : decode M.2.1 pc = .ok (.astore i, 2)) (hi : i < M.2.2.1) (k : ip_Rn l G M d (pc + 2) (ip_s1 L i (.ref x)) st h r) : ip_Rn l G M d pc L (.ref x :: st) h r :=
  ip_pure (fun _ _ _ _ _ _ _ _ _ _ _ _ _ _ _ C _ _ hL kk => lv_astore C.1 C.2.1 hd hL.has hi rfl (fun ls' h' => kk ls' (ip_L_s1 rfl h'))) k
theorem ip_astore_n {i : Fin 4} {x : Nat} (hd : decode M.2.1 pc = .ok (.astore_n i, 1)) (hi : i.val < M.2.2.1) (k : ip_Rn l G M d (pc + 1) (ip_s1 L i.val (.ref x)) st h r) : ip_Rn l G M d pc L (.ref x :: st) h r :=
  ip_pure (fun _ _ _ _ _ _ _ _ _ _ _ _ _ _ _ C _ _ hL kk => lv_astore_n C.1 C.2.1 hd rfl hL.has hi rfl (fun ls' h' => kk ls' (ip_L_s1 rfl h'))) k
theorem ip_iinc {i : Nat} {n : Int} {x : Int32} (hd : decode M.2.1 pc = .ok (.iinc i n, 3)) (hv : L[i]? = some (some (.int x))) (hi : i < M.2.2.1) (k : ip_Rn l G M d (pc + 3) (ip_s1 L i (.int (x + Int32.ofInt n))) st h r) : ip_Rn l G M d pc L st h r :=
  ip_pure (fun _ _ _ _ _ _ _ _ _ _ _ _ _ _ _ C _ _ hL kk => by
    obtain ⟨q, hq⟩ := List.getElem?_of_mem (ip_lv_in G L 0 i _ hv)
    rw [Nat.zero_add] at hq
    exact lv_iinc C.1 C.2.1 hd hL.has hq rfl hi rfl (fun ls' h' => kk ls' (ip_L_s1 rfl h'))) k
theorem ip_iadd {x y : Int32} (hd : decode M.2.1 pc = .ok (.iadd, 1)) (k : ip_Rn l G M d (pc + 1) L (.int (x + y) :: st) h r) : ip_Rn l G M d pc L (.int y :: .int x :: st) h r :=
  ip_pure (fun _ _ _ _ _ _ _ _ _ _ _ _ _ _ _ C _ _ hL kk => lv_iadd C.1 C.2.1 hd (kk _ hL)) k
theorem ip_isub {x y : Int32} (hd : decode M.2.1 pc = .ok (.isub, 1)) (k : ip_Rn l G M d (pc + 1) L (.int (x - y) :: st) h r) : ip_Rn l G M d pc L (.int y :: .int x :: st) h r :=
  ip_pure (fun _ _ _ _ _ _ _ _ _ _ _ _ _ _ _ C _ _ hL kk => lv_isub C.1 C.2.1 hd (kk _ hL)) k
theorem ip_imul {x y : Int32} (hd : decode M.2.1 pc = .ok (.imul, 1)) (k : ip_Rn l G M d (pc + 1) L (.int (x * y) :: st) h r) : ip_Rn l G M d pc L (.int y :: .int x :: st) h r :=
  ip_pure (fun _ _ _ _ _ _ _ _ _ _ _ _ _ _ _ C _ _ hL kk => lv_imul C.1 C.2.1 hd (kk _ hL)) k
theorem ip_iand {x y : Int32} (hd : decode M.2.1 pc = .ok (.iand, 1)) (k : ip_Rn l G M d (pc + 1) L (.int (x &&& y) :: st) h r) : ip_Rn l G M d pc L (.int y :: .int x :: st) h r :=
  ip_pure (fun _ _ _ _ _ _ _ _ _ _ _ _ _ _ _ C _ _ hL kk => lv_iand C.1 C.2.1 hd (kk _ hL)) k
theorem ip_ior {x y : Int32} (hd : decode M.2.1 pc = .ok (.ior, 1)) (k : ip_Rn l G M d (pc + 1) L (.int (x ||| y) :: st) h r) : ip_Rn l G M d pc L (.int y :: .int x :: st) h r :=
  ip_pure (fun _ _ _ _ _ _ _ _ _ _ _ _ _ _ _ C _ _ hL kk => lv_ior C.1 C.2.1 hd (kk _ hL)) k
theorem ip_ixor {x y : Int32} (hd : decode M.2.1 pc = .ok (.ixor, 1)) (k : ip_Rn l G M d (pc + 1) L (.int (x ^^^ y) :: st) h r) : ip_Rn l G M d pc L (.int y :: .int x :: st) h r :=
  ip_pure (fun _ _ _ _ _ _ _ _ _ _ _ _ _ _ _ C _ _ hL kk => lv_ixor C.1 C.2.1 hd (kk _ hL)) k
theorem ip_idiv {x y : Int32} (hd : decode M.2.1 pc = .ok (.idiv, 1)) (hne : ¬ y = 0) (k : ip_Rn l G M d (pc + 1) L (.int (x / y) :: st) h r) : ip_Rn l G M d pc L (.int y :: .int x :: st) h r :=
  ip_pure (fun _ _ _ _ _ _ _ _ _ _ _ _ _ _ _ C _ _ hL kk => lv_idiv C.1 C.2.1 hd hne (kk _ hL)) k
theorem ip_irem {x y : Int32} (hd : decode M.2.1 pc = .ok (.irem, 1)) (hne : ¬ y = 0) (k : ip_Rn l G M d (pc + 1) L (.int (x - x / y * y) :: st) h r) : ip_Rn l G M d pc L (.int y :: .int x :: st) h r :=
  ip_pure (fun _ _ _ _ _ _ _ _ _ _ _ _ _ _ _ C _ _ hL kk => lv_irem C.1 C.2.1 hd hne (kk _ hL)) k
theorem ip_ineg {x : Int32} (hd : decode M.2.1 pc = .ok (.ineg, 1)) (k : ip_Rn l G M d (pc + 1) L (.int (-x) :: st) h r) : ip_Rn l G M d pc L (.int x :: st) h r :=
  ip_pure (fun _ _ _ _ _ _ _ _ _ _ _ _ _ _ _ C _ _ hL kk => lv_ineg C.1 C.2.1 hd (kk _ hL)) k
theorem ip_ishl {x y : Int32} (hd : decode M.2.1 pc = .ok (.ishl, 1)) (k : ip_Rn l G M d (pc + 1) L (.int (x <<< (y &&& 31)) :: st) h r) : ip_Rn l G M d pc L (.int y :: .int x :: st) h r :=
  ip_pure (fun _ _ _ _ _ _ _ _ _ _ _ _ _ _ _ C _ _ hL kk => lv_ishl C.1 C.2.1 hd (kk _ hL)) k
theorem ip_ishr {x y : Int32} (hd : decode M.2.1 pc = .ok (.ishr, 1)) (k : ip_Rn l G M d (pc + 1) L (.int (x >>> (y &&& 31)) :: st) h r) : ip_Rn l G M d pc L (.int y :: .int x :: st) h r :=
  ip_pure (fun _ _ _ _ _ _ _ _ _ _ _ _ _ _ _ C _ _ hL kk => lv_ishr C.1 C.2.1 hd (kk _ hL)) k
theorem ip_iushr {x y v : Int32} (hd : decode M.2.1 pc = .ok (.iushr, 1)) (hv : (x.toUInt32 >>> (y.toUInt32 &&& Int32.toUInt32 31)).toInt32 = v) (k : ip_Rn l G M d (pc + 1) L (.int v :: st) h r) : ip_Rn l G M d pc L (.int y :: .int x :: st) h r :=
  ip_pure (fun _ _ _ _ _ _ _ _ _ _ _ _ _ _ _ C _ _ hL kk => lv_iushr C.1 C.2.1 hd hv (kk _ hL)) k
theorem ip_ladd {x y : Int64} (hd : decode M.2.1 pc = .ok (.ladd, 1)) (k : ip_Rn l G M d (pc + 1) L (.long (x + y) :: st) h r) : ip_Rn l G M d pc L (.long y :: .long x :: st) h r :=
  ip_pure (fun _ _ _ _ _ _ _ _ _ _ _ _ _ _ _ C _ _ hL kk => lv_ladd C.1 C.2.1 hd (kk _ hL)) k
theorem ip_lsub {x y : Int64} (hd : decode M.2.1 pc = .ok (.lsub, 1)) (k : ip_Rn l G M d (pc + 1) L (.long (x - y) :: st) h r) : ip_Rn l G M d pc L (.long y :: .long x :: st) h r :=
  ip_pure (fun _ _ _ _ _ _ _ _ _ _ _ _ _ _ _ C _ _ hL kk => lv_lsub C.1 C.2.1 hd (kk _ hL)) k
theorem ip_lmul {x y : Int64} (hd : decode M.2.1 pc = .ok (.lmul, 1)) (k : ip_Rn l G M d (pc + 1) L (.long (x * y) :: st) h r) : ip_Rn l G M d pc L (.long y :: .long x :: st) h r :=
  ip_pure (fun _ _ _ _ _ _ _ _ _ _ _ _ _ _ _ C _ _ hL kk => lv_lmul C.1 C.2.1 hd (kk _ hL)) k
theorem ip_land {x y : Int64} (hd : decode M.2.1 pc = .ok (.land, 1)) (k : ip_Rn l G M d (pc + 1) L (.long (x &&& y) :: st) h r) : ip_Rn l G M d pc L (.long y :: .long x :: st) h r :=
  ip_pure (fun _ _ _ _ _ _ _ _ _ _ _ _ _ _ _ C _ _ hL kk => lv_land C.1 C.2.1 hd (kk _ hL)) k
theorem ip_lor {x y : Int64} (hd : decode M.2.1 pc = .ok (.lor, 1)) (k : ip_Rn l G M d (pc + 1) L (.long (x ||| y) :: st) h r) : ip_Rn l G M d pc L (.long y :: .long x :: st) h r :=
  ip_pure (fun _ _ _ _ _ _ _ _ _ _ _ _ _ _ _ C _ _ hL kk => lv_lor C.1 C.2.1 hd (kk _ hL)) k
theorem ip_lxor {x y : Int64} (hd : decode M.2.1 pc = .ok (.lxor, 1)) (k : ip_Rn l G M d (pc + 1) L (.long (x ^^^ y) :: st) h r) : ip_Rn l G M d pc L (.long y :: .long x :: st) h r :=
  ip_pure (fun _ _ _ _ _ _ _ _ _ _ _ _ _ _ _ C _ _ hL kk => lv_lxor C.1 C.2.1 hd (kk _ hL)) k
theorem ip_ldiv {x y : Int64} (hd : decode M.2.1 pc = .ok (.ldiv, 1)) (hne : ¬ y = 0) (k : ip_Rn l G M d (pc + 1) L (.long (x / y) :: st) h r) : ip_Rn l G M d pc L (.long y :: .long x :: st) h r :=
  ip_pure (fun _ _ _ _ _ _ _ _ _ _ _ _ _ _ _ C _ _ hL kk => lv_ldiv C.1 C.2.1 hd hne (kk _ hL)) k
theorem ip_lrem {x y : Int64} (hd : decode M.2.1 pc = .ok (.lrem, 1)) (hne : ¬ y = 0) (k : ip_Rn l G M d (pc + 1) L (.long (x - x / y * y) :: st) h r) : ip_Rn l G M d pc L (.long y :: .long x :: st) h r :=
  ip_pure (fun _ _ _ _ _ _ _ _ _ _ _ _ _ _ _ C _ _ hL kk => lv_lrem C.1 C.2.1 hd hne (kk _ hL)) k
theorem ip_lneg {x : Int64} (hd : decode M.2.1 pc = .ok (.lneg, 1)) (k : ip_Rn l G M d (pc + 1) L (.long (-x) :: st) h r) : ip_Rn l G M d pc L (.long x :: st) h r :=
  ip_pure (fun _ _ _ _ _ _ _ _ _ _ _ _ _ _ _ C _ _ hL kk => lv_lneg C.1 C.2.1 hd (kk _ hL)) k
theorem ip_lshl {x : Int64} {y : Int32} (hd : decode M.2.1 pc = .ok (.lshl, 1)) (k : ip_Rn l G M d (pc + 1) L (.long (x <<< (y.toInt64 &&& 63)) :: st) h r) : ip_Rn l G M d pc L (.int y :: .long x :: st) h r :=
  ip_pure (fun _ _ _ _ _ _ _ _ _ _ _ _ _ _ _ C _ _ hL kk => lv_lshl C.1 C.2.1 hd rfl (kk _ hL)) k
theorem ip_lshr {x : Int64} {y : Int32} (hd : decode M.2.1 pc = .ok (.lshr, 1)) (k : ip_Rn l G M d (pc + 1) L (.long (x >>> (y.toInt64 &&& 63)) :: st) h r) : ip_Rn l G M d pc L (.int y :: .long x :: st) h r :=
  ip_pure (fun _ _ _ _ _ _ _ _ _ _ _ _ _ _ _ C _ _ hL kk => lv_lshr C.1 C.2.1 hd rfl (kk _ hL)) k
theorem ip_lushr {x : Int64} {y : Int32} (hd : decode M.2.1 pc = .ok (.lushr, 1)) (k : ip_Rn l G M d (pc + 1) L (.long (x.toUInt64 >>> (y.toInt64.toUInt64 &&& Int64.toUInt64 63)).toInt64 :: st) h r) : ip_Rn l G M d pc L (.int y :: .long x :: st) h r :=
  ip_pure (fun _ _ _ _ _ _ _ _ _ _ _ _ _ _ _ C _ _ hL kk => lv_lushr C.1 C.2.1 hd rfl (kk _ hL)) k
theorem ip_lcmp {x y : Int64} (hd : decode M.2.1 pc = .ok (.lcmp, 1)) (k : ip_Rn l G M d (pc + 1) L (.int (lg_cmp x y) :: st) h r) : ip_Rn l G M d pc L (.long y :: .long x :: st) h r :=
  ip_pure (fun _ _ _ _ _ _ _ _ _ _ _ _ _ _ _ C _ _ hL kk => W.lcmp C.1 C.2.1 hd (kk _ hL)) k
theorem ip_i2l {x : Int32} (hd : decode M.2.1 pc = .ok (.i2l, 1)) (k : ip_Rn l G M d (pc + 1) L (.long x.toInt64 :: st) h r) : ip_Rn l G M d pc L (.int x :: st) h r :=
  ip_pure (fun _ _ _ _ _ _ _ _ _ _ _ _ _ _ _ C _ _ hL kk => lv_i2l C.1 C.2.1 hd rfl (kk _ hL)) k
theorem ip_l2i {x : Int64} (hd : decode M.2.1 pc = .ok (.l2i, 1)) (k : ip_Rn l G M d (pc + 1) L (.int x.toInt32 :: st) h r) : ip_Rn l G M d pc L (.long x :: st) h r :=
  ip_pure (fun _ _ _ _ _ _ _ _ _ _ _ _ _ _ _ C _ _ hL kk => lv_l2i C.1 C.2.1 hd rfl (kk _ hL)) k
theorem ip_i2b {x : Int32} (hd : decode M.2.1 pc = .ok (.i2b, 1)) (k : ip_Rn l G M d (pc + 1) L (.int x.toInt8.toInt32 :: st) h r) : ip_Rn l G M d pc L (.int x :: st) h r :=
  ip_pure (fun _ _ _ _ _ _ _ _ _ _ _ _ _ _ _ C _ _ hL kk => lv_i2b C.1 C.2.1 hd rfl (kk _ hL)) k
theorem ip_i2c {x : Int32} (hd : decode M.2.1 pc = .ok (.i2c, 1)) (k : ip_Rn l G M d (pc + 1) L (.int (x.toUInt32 % 65536).toInt32 :: st) h r) : ip_Rn l G M d pc L (.int x :: st) h r :=
  ip_pure (fun _ _ _ _ _ _ _ _ _ _ _ _ _ _ _ C _ _ hL kk => lv_i2c C.1 C.2.1 hd rfl (kk _ hL)) k
theorem ip_dup {v : Value} (hd : decode M.2.1 pc = .ok (.dup, 1)) (hc : v.category = 1) (k : ip_Rn l G M d (pc + 1) L (v :: v :: st) h r) : ip_Rn l G M d pc L (v :: st) h r :=
  ip_pure (fun _ _ _ _ _ _ _ _ _ _ _ _ _ _ _ C _ _ hL kk => lv_dup C.1 C.2.1 hd ((ip_v_cat G v).trans hc) (kk _ hL)) k
theorem ip_pop {v : Value} (hd : decode M.2.1 pc = .ok (.pop, 1)) (hc : v.category = 1) (k : ip_Rn l G M d (pc + 1) L st h r) : ip_Rn l G M d pc L (v :: st) h r :=
  ip_pure (fun _ _ _ _ _ _ _ _ _ _ _ _ _ _ _ C _ _ hL kk => lv_pop C.1 C.2.1 hd ((ip_v_cat G v).trans hc) (kk _ hL)) k
theorem ip_dup_x1 {v w : Value} (hd : decode M.2.1 pc = .ok (.dup_x1, 1)) (hc : v.category = 1) (hc2 : w.category = 1) (k : ip_Rn l G M d (pc + 1) L (v :: w :: v :: st) h r) : ip_Rn l G M d pc L (v :: w :: st) h r :=
  ip_pure (fun _ _ _ _ _ _ _ _ _ _ _ _ _ _ _ C _ _ hL kk => lv_dup_x1 C.1 C.2.1 hd ((ip_v_cat G v).trans hc) ((ip_v_cat G w).trans hc2) (kk _ hL)) k
theorem ip_dup2_11 {v w : Value} (hd : decode M.2.1 pc = .ok (.dup2, 1)) (hc : v.category = 1) (hc2 : w.category = 1) (k : ip_Rn l G M d (pc + 1) L (v :: w :: v :: w :: st) h r) : ip_Rn l G M d pc L (v :: w :: st) h r :=
  ip_pure (fun _ _ _ _ _ _ _ _ _ _ _ _ _ _ _ C _ _ hL kk => lv_dup2_11 C.1 C.2.1 hd ((ip_v_cat G v).trans hc) ((ip_v_cat G w).trans hc2) (kk _ hL)) k
theorem ip_dup2_2 {v : Value} (hd : decode M.2.1 pc = .ok (.dup2, 1)) (hc : v.category = 2) (k : ip_Rn l G M d (pc + 1) L (v :: v :: st) h r) : ip_Rn l G M d pc L (v :: st) h r :=
  ip_pure (fun _ _ _ _ _ _ _ _ _ _ _ _ _ _ _ C _ _ hL kk => lv_dup2_2 C.1 C.2.1 hd ((ip_v_cat G v).trans hc) (kk _ hL)) k
theorem ip_goto {off : Int} {tgt : Nat} (hd : decode M.2.1 pc = .ok (.goto off, 3)) (ht : (pc : Int) + off = (tgt : Int)) (k : ip_Rn l G M d tgt L st h r) : ip_Rn l G M d pc L st h r :=
  ip_pure (fun _ _ _ _ _ _ _ _ _ _ _ _ _ _ _ C _ _ hL kk => lv_goto C.1 C.2.1 hd ht (kk _ hL)) k
end IPP
end
section
section IPB
variable {l : Launch} {G : ip_G} {M : ip_M} {d pc : Nat} {L : List (Option Value)} {st : List Value} {h : ip_H} {r : Option Value × ip_H}
theorem ip_if_eq_t {x : Int32} {off : Int} {tgt : Nat} (hd : decode M.2.1 pc = .ok (.ifCond .eq off, 3)) (ht : (pc : Int) + off = (tgt : Int)) (hc : x = 0) (k : ip_Rn l G M d tgt L st h r) : ip_Rn l G M d pc L (.int x :: st) h r :=
  ip_pure (fun _ _ _ _ _ _ _ _ _ _ _ _ _ _ _ C _ _ hL kk => lv_if_eq C.1 C.2.1 hd ht (fun _ => kk _ hL) (fun q => (q hc).elim)) k
theorem ip_if_eq_f {x : Int32} {off : Int} {tgt : Nat} (hd : decode M.2.1 pc = .ok (.ifCond .eq off, 3)) (ht : (pc : Int) + off = (tgt : Int)) (hc : ¬ x = 0) (k : ip_Rn l G M d (pc + 3) L st h r) : ip_Rn l G M d pc L (.int x :: st) h r :=
  ip_pure (fun _ _ _ _ _ _ _ _ _ _ _ _ _ _ _ C _ _ hL kk => lv_if_eq C.1 C.2.1 hd ht (fun q => (hc q).elim) (fun _ => kk _ hL)) k
theorem ip_icmp_eq_t {x y : Int32} {off : Int} {tgt : Nat} (hd : decode M.2.1 pc = .ok (.if_icmp .eq off, 3)) (ht : (pc : Int) + off = (tgt : Int)) (hc : x = y) (k : ip_Rn l G M d tgt L st h r) : ip_Rn l G M d pc L (.int y :: .int x :: st) h r :=
  ip_pure (fun _ _ _ _ _ _ _ _ _ _ _ _ _ _ _ C _ _ hL kk => lv_icmp_eq C.1 C.2.1 hd ht (fun _ => kk _ hL) (fun q => (q hc).elim)) k
theorem ip_icmp_eq_f {x y : Int32} {off : Int} {tgt : Nat} (hd : decode M.2.1 pc = .ok (.if_icmp .eq off, 3)) (ht : (pc : Int) + off = (tgt : Int)) (hc : ¬ x = y) (k : ip_Rn l G M d (pc + 3) L st h r) : ip_Rn l G M d pc L (.int y :: .int x :: st) h r :=
  ip_pure (fun _ _ _ _ _ _ _ _ _ _ _ _ _ _ _ C _ _ hL kk => lv_icmp_eq C.1 C.2.1 hd ht (fun q => (hc q).elim) (fun _ => kk _ hL)) k
theorem ip_if_ne_t {x : Int32} {off : Int} {tgt : Nat} (hd : decode M.2.1 pc = .ok (.ifCond .ne off, 3)) (ht : (pc : Int) + off = (tgt : Int)) (hc : ¬ x = 0) (k : ip_Rn l G M d tgt L st h r) : ip_Rn l G M d pc L (.int x :: st) h r :=
  ip_pure (fun _ _ _ _ _ _ _ _ _ _ _ _ _ _ _ C _ _ hL kk => lv_if_ne C.1 C.2.1 hd ht (fun _ => kk _ hL) (fun q => (hc q).elim)) k
theorem ip_if_ne_f {x : Int32} {off : Int} {tgt : Nat} (hd : decode M.2.1 pc = .ok (.ifCond .ne off, 3)) (ht : (pc : Int) + off = (tgt : Int)) (hc : x = 0) (k : ip_Rn l G M d (pc + 3) L st h r) : ip_Rn l G M d pc L (.int x :: st) h r :=
  ip_pure (fun _ _ _ _ _ _ _ _ _ _ _ _ _ _ _ C _ _ hL kk => lv_if_ne C.1 C.2.1 hd ht (fun q => (q hc).elim) (fun _ => kk _ hL)) k
theorem ip_icmp_ne_t {x y : Int32} {off : Int} {tgt : Nat} (hd : decode M.2.1 pc = .ok (.if_icmp .ne off, 3)) (ht : (pc : Int) + off = (tgt : Int)) (hc : ¬ x = y) (k : ip_Rn l G M d tgt L st h r) : ip_Rn l G M d pc L (.int y :: .int x :: st) h r :=
  ip_pure (fun _ _ _ _ _ _ _ _ _ _ _ _ _ _ _ C _ _ hL kk => lv_icmp_ne C.1 C.2.1 hd ht (fun _ => kk _ hL) (fun q => (hc q).elim)) k
theorem ip_icmp_ne_f {x y : Int32} {off : Int} {tgt : Nat} (hd : decode M.2.1 pc = .ok (.if_icmp .ne off, 3)) (ht : (pc : Int) + off = (tgt : Int)) (hc : x = y) (k : ip_Rn l G M d (pc + 3) L st h r) : ip_Rn l G M d pc L (.int y :: .int x :: st) h r :=
  ip_pure (fun _ _ _ _ _ _ _ _ _ _ _ _ _ _ _ C _ _ hL kk => lv_icmp_ne C.1 C.2.1 hd ht (fun q => (q hc).elim) (fun _ => kk _ hL)) k
theorem ip_if_lt_t {x : Int32} {off : Int} {tgt : Nat} (hd : decode M.2.1 pc = .ok (.ifCond .lt off, 3)) (ht : (pc : Int) + off = (tgt : Int)) (hc : x < 0) (k : ip_Rn l G M d tgt L st h r) : ip_Rn l G M d pc L (.int x :: st) h r :=
  ip_pure (fun _ _ _ _ _ _ _ _ _ _ _ _ _ _ _ C _ _ hL kk => lv_if_lt C.1 C.2.1 hd ht (fun _ => kk _ hL) (fun q => (q hc).elim)) k
theorem ip_if_lt_f {x : Int32} {off : Int} {tgt : Nat} (hd : decode M.2.1 pc = .ok (.ifCond .lt off, 3)) (ht : (pc : Int) + off = (tgt : Int)) (hc : ¬ x < 0) (k : ip_Rn l G M d (pc + 3) L st h r) : ip_Rn l G M d pc L (.int x :: st) h r :=
  ip_pure (fun _ _ _ _ _ _ _ _ _ _ _ _ _ _ _ C _ _ hL kk => lv_if_lt C.1 C.2.1 hd ht (fun q => (hc q).elim) (fun _ => kk _ hL)) k
theorem ip_icmp_lt_t {x y : Int32} {off : Int} {tgt : Nat} (hd : decode M.2.1 pc = .ok (.if_icmp .lt off, 3)) (ht : (pc : Int) + off = (tgt : Int)) (hc : x < y) (k : ip_Rn l G M d tgt L st h r) : ip_Rn l G M d pc L (.int y :: .int x :: st) h r :=
  ip_pure (fun _ _ _ _ _ _ _ _ _ _ _ _ _ _ _ C _ _ hL kk => lv_icmp_lt C.1 C.2.1 hd ht (fun _ => kk _ hL) (fun q => (q hc).elim)) k
theorem ip_icmp_lt_f {x y : Int32} {off : Int} {tgt : Nat} (hd : decode M.2.1 pc = .ok (.if_icmp .lt off, 3)) (ht : (pc : Int) + off = (tgt : Int)) (hc : ¬ x < y) (k : ip_Rn l G M d (pc + 3) L st h r) : ip_Rn l G M d pc L (.int y :: .int x :: st) h r :=
  ip_pure (fun _ _ _ _ _ _ _ _ _ _ _ _ _ _ _ C _ _ hL kk => lv_icmp_lt C.1 C.2.1 hd ht (fun q => (hc q).elim) (fun _ => kk _ hL)) k
theorem ip_if_ge_t {x : Int32} {off : Int} {tgt : Nat} (hd : decode M.2.1 pc = .ok (.ifCond .ge off, 3)) (ht : (pc : Int) + off = (tgt : Int)) (hc : 0 ≤ x) (k : ip_Rn l G M d tgt L st h r) : ip_Rn l G M d pc L (.int x :: st) h r :=
  ip_pure (fun _ _ _ _ _ _ _ _ _ _ _ _ _ _ _ C _ _ hL kk => lv_if_ge C.1 C.2.1 hd ht (fun _ => kk _ hL) (fun q => (q hc).elim)) k
theorem ip_if_ge_f {x : Int32} {off : Int} {tgt : Nat} (hd : decode M.2.1 pc = .ok (.ifCond .ge off, 3)) (ht : (pc : Int) + off = (tgt : Int)) (hc : ¬ 0 ≤ x) (k : ip_Rn l G M d (pc + 3) L st h r) : ip_Rn l G M d pc L (.int x :: st) h r :=
  ip_pure (fun _ _ _ _ _ _ _ _ _ _ _ _ _ _ _ C _ _ hL kk => lv_if_ge C.1 C.2.1 hd ht (fun q => (hc q).elim) (fun _ => kk _ hL)) k
theorem ip_icmp_ge_t {x y : Int32} {off : Int} {tgt : Nat} (hd : decode M.2.1 pc = .ok (.if_icmp .ge off, 3)) (ht : (pc : Int) + off = (tgt : Int)) (hc : y ≤ x) (k : ip_Rn l G M d tgt L st h r) : ip_Rn l G M d pc L (.int y :: .int x :: st) h r :=
  ip_pure (fun _ _ _ _ _ _ _ _ _ _ _ _ _ _ _ C _ _ hL kk => lv_icmp_ge C.1 C.2.1 hd ht (fun _ => kk _ hL) (fun q => (q hc).elim)) k
theorem ip_icmp_ge_f {x y : Int32} {off : Int} {tgt : Nat} (hd : decode M.2.1 pc = .ok (.if_icmp .ge off, 3)) (ht : (pc : Int) + off = (tgt : Int)) (hc : ¬ y ≤ x) (k : ip_Rn l G M d (pc + 3) L st h r) : ip_Rn l G M d pc L (.int y :: .int x :: st) h r :=
  ip_pure (fun _ _ _ _ _ _ _ _ _ _ _ _ _ _ _ C _ _ hL kk => lv_icmp_ge C.1 C.2.1 hd ht (fun q => (hc q).elim) (fun _ => kk _ hL)) k
theorem ip_if_gt_t {x : Int32} {off : Int} {tgt : Nat} (hd : decode M.2.1 pc = .ok (.ifCond .gt off, 3)) (ht : (pc : Int) + off = (tgt : Int)) (hc : 0 < x) (k : ip_Rn l G M d tgt L st h r) : ip_Rn l G M d pc L (.int x :: st) h r :=
  ip_pure (fun _ _ _ _ _ _ _ _ _ _ _ _ _ _ _ C _ _ hL kk => lv_if_gt C.1 C.2.1 hd ht (fun _ => kk _ hL) (fun q => (q hc).elim)) k
theorem ip_if_gt_f {x : Int32} {off : Int} {tgt : Nat} (hd : decode M.2.1 pc = .ok (.ifCond .gt off, 3)) (ht : (pc : Int) + off = (tgt : Int)) (hc : ¬ 0 < x) (k : ip_Rn l G M d (pc + 3) L st h r) : ip_Rn l G M d pc L (.int x :: st) h r :=
  ip_pure (fun _ _ _ _ _ _ _ _ _ _ _ _ _ _ _ C _ _ hL kk => lv_if_gt C.1 C.2.1 hd ht (fun q => (hc q).elim) (fun _ => kk _ hL)) k
theorem ip_icmp_gt_t {x y : Int32} {off : Int} {tgt : Nat} (hd : decode M.2.1 pc = .ok (.if_icmp .gt off, 3)) (ht : (pc : Int) + off = (tgt : Int)) (hc : y < x) (k : ip_Rn l G M d tgt L st h r) : ip_Rn l G M d pc L (.int y :: .int x :: st) h r :=
  ip_pure (fun _ _ _ _ _ _ _ _ _ _ _ _ _ _ _ C _ _ hL kk => lv_icmp_gt C.1 C.2.1 hd ht (fun _ => kk _ hL) (fun q => (q hc).elim)) k
theorem ip_icmp_gt_f {x y : Int32} {off : Int} {tgt : Nat} (hd : decode M.2.1 pc = .ok (.if_icmp .gt off, 3)) (ht : (pc : Int) + off = (tgt : Int)) (hc : ¬ y < x) (k : ip_Rn l G M d (pc + 3) L st h r) : ip_Rn l G M d pc L (.int y :: .int x :: st) h r :=
  ip_pure (fun _ _ _ _ _ _ _ _ _ _ _ _ _ _ _ C _ _ hL kk => lv_icmp_gt C.1 C.2.1 hd ht (fun q => (hc q).elim) (fun _ => kk _ hL)) k
theorem ip_if_le_t {x : Int32} {off : Int} {tgt : Nat} (hd : decode M.2.1 pc = .ok (.ifCond .le off, 3)) (ht : (pc : Int) + off = (tgt : Int)) (hc : x ≤ 0) (k : ip_Rn l G M d tgt L st h r) : ip_Rn l G M d pc L (.int x :: st) h r :=
  ip_pure (fun _ _ _ _ _ _ _ _ _ _ _ _ _ _ _ C _ _ hL kk => lv_if_le C.1 C.2.1 hd ht (fun _ => kk _ hL) (fun q => (q hc).elim)) k
theorem ip_if_le_f {x : Int32} {off : Int} {tgt : Nat} (hd : decode M.2.1 pc = .ok (.ifCond .le off, 3)) (ht : (pc : Int) + off = (tgt : Int)) (hc : ¬ x ≤ 0) (k : ip_Rn l G M d (pc + 3) L st h r) : ip_Rn l G M d pc L (.int x :: st) h r :=
  ip_pure (fun _ _ _ _ _ _ _ _ _ _ _ _ _ _ _ C _ _ hL kk => lv_if_le C.1 C.2.1 hd ht (fun q => (hc q).elim) (fun _ => kk _ hL)) k
theorem ip_icmp_le_t {x y : Int32} {off : Int} {tgt : Nat} (hd : decode M.2.1 pc = .ok (.if_icmp .le off, 3)) (ht : (pc : Int) + off = (tgt : Int)) (hc : x ≤ y) (k : ip_Rn l G M d tgt L st h r) : ip_Rn l G M d pc L (.int y :: .int x :: st) h r :=
  ip_pure (fun _ _ _ _ _ _ _ _ _ _ _ _ _ _ _ C _ _ hL kk => lv_icmp_le C.1 C.2.1 hd ht (fun _ => kk _ hL) (fun q => (q hc).elim)) k
theorem ip_icmp_le_f {x y : Int32} {off : Int} {tgt : Nat} (hd : decode M.2.1 pc = .ok (.if_icmp .le off, 3)) (ht : (pc : Int) + off = (tgt : Int)) (hc : ¬ x ≤ y) (k : ip_Rn l G M d (pc + 3) L st h r) : ip_Rn l G M d pc L (.int y :: .int x :: st) h r :=
  ip_pure (fun _ _ _ _ _ _ _ _ _ _ _ _ _ _ _ C _ _ hL kk => lv_icmp_le C.1 C.2.1 hd ht (fun q => (hc q).elim) (fun _ => kk _ hL)) k
theorem ip_tabO {dflt lo hi : Int} {offs : Array Int} {len : Nat} {x : Int32} {tgt : Nat} (hd : decode M.2.1 pc = .ok (.tableswitch dflt lo hi offs, len)) (hx : x.toInt < lo ∨ hi < x.toInt) (ht : (pc : Int) + dflt = (tgt : Int)) (k : ip_Rn l G M d tgt L st h r) : ip_Rn l G M d pc L (.int x :: st) h r :=
  ip_pure (fun _ _ _ _ _ _ _ _ _ _ _ _ _ _ _ C _ _ hL kk => lv_tableOut C.1 C.2.1 hd hx ht (kk _ hL)) k
theorem ip_tabI {dflt lo hi : Int} {offs : Array Int} {len : Nat} {x : Int32} {off : Int} {tgt : Nat} (hd : decode M.2.1 pc = .ok (.tableswitch dflt lo hi offs, len)) (h1 : ¬ x.toInt < lo) (h2 : ¬ hi < x.toInt) (ho : offs[(x.toInt - lo).toNat]? = some off) (ht : (pc : Int) + off = (tgt : Int)) (k : ip_Rn l G M d tgt L st h r) : ip_Rn l G M d pc L (.int x :: st) h r :=
  ip_pure (fun _ _ _ _ _ _ _ _ _ _ _ _ _ _ _ C _ _ hL kk => lv_tableIn C.1 C.2.1 hd h1 h2 ho ht (kk _ hL)) k
theorem ip_lkp {dflt : Int} {ps : Array (Int × Int)} {len : Nat} {x : Int32} {off : Int} {tgt : Nat} (hd : decode M.2.1 pc = .ok (.lookupswitch dflt ps, len)) (hp : (ps.toList.zip (ps.toList.drop 1)).all (fun (a, next) => a.1 < next.1) = true) (ho : Op.lookupswitch.offset ps.toList dflt x.toInt = off) (ht : (pc : Int) + off = (tgt : Int)) (k : ip_Rn l G M d tgt L st h r) : ip_Rn l G M d pc L (.int x :: st) h r :=
  ip_pure (fun _ _ _ _ _ _ _ _ _ _ _ _ _ _ _ C _ _ hL kk => lv_lookup C.1 C.2.1 hd hp ho ht (kk _ hL)) k
end IPB
def ip_F (T : List Cond) (cl : List vw_C) (own : String) (idx ci k : Nat) (ty : FieldType) (fin : Bool) : Prop :=
  ∃ (C : String) (F : u_T) (N : Nat), cl[ci]? = some (C, F, N) ∧ (∀ w ∈ u_ws C F N, w ∈ T) ∧ k < N ∧ (F k).1 = C ∧ parseFieldDescriptor (F k).2.2.1 = some ty ∧ (F k).2.2.2 = fin ∧ (∃ ty0 : Nat → FieldType, ∀ j, j < N → parseFieldDescriptor (F j).2.2.1 = some (ty0 j)) ∧ (∀ a, a < N → ∀ b, b < N → a ≠ b → (F a).2.1 ≠ (F b).2.1) ∧
    (Cond.fieldLink own idx C (F k).2.1 (F k).2.2.1 ∈ T ∨ ∃ host, Cond.fieldLinkNest own idx C (F k).2.1 (F k).2.2.1 host ∈ T)
def ip_Fp (T : List Cond) (cl : List vw_C) (own : String) (idx ci k : Nat) (ty : FieldType) : Prop :=
  ∃ (F : u_T) (N : Nat), cl[ci]? = some (own, F, N) ∧ (∀ w ∈ u_ws own F N, w ∈ T) ∧ k < N ∧ (F k).1 = own ∧ parseFieldDescriptor (F k).2.2.1 = some ty ∧ (F k).2.2.2 = true ∧ (∃ ty0 : Nat → FieldType, ∀ j, j < N → parseFieldDescriptor (F j).2.2.1 = some (ty0 j)) ∧ (∀ a, a < N → ∀ b, b < N → a ≠ b → (F a).2.1 ≠ (F b).2.1) ∧
    Cond.fieldLink own idx own (F k).2.1 (F k).2.2.1 ∈ T
def ip_N (T : List Cond) (cl : List vw_C) (own : String) (idx ci : Nat) (fs : List Value) : Prop :=
  ∃ (C : String) (F : u_T) (N : Nat), cl[ci]? = some (C, F, N) ∧ (∀ w ∈ u_ws C F N, w ∈ T) ∧ (∃ ty0 : Nat → FieldType, (∀ j, j < N → parseFieldDescriptor (F j).2.2.1 = some (ty0 j)) ∧ fs = (List.range N).map (fun j => defaultValue (ty0 j))) ∧ Cond.classLink own idx C ∈ T ∧ Cond.instantiable C N ∈ T ∧ Cond.initialized C ∈ T
theorem ip_fits {G : ip_G} {ty : FieldType} {v : Value} (hf : fits ty v = true) : narrow ty (ip_v G v) = ip_v G v ∧ fits ty (ip_v G v) = true := by
  have h2 : fits ty (ip_v G v) = true := by
    cases v <;> first | exact hf | (cases ty <;> first | exact hf | rfl)
  refine ⟨?_, h2⟩
  cases v with
  | int x =>
    cases ty with
    | boolean =>
      have h3 : (x == 0 || x == 1) = true := hf
      rcases Bool.or_eq_true _ _ |>.mp h3 with q | q
      · rw [eq_of_beq q]; rfl
      · rw [eq_of_beq q]; rfl
    | byte =>
      have h3 : (decide (-128 ≤ x) && decide (x ≤ 127)) = true := hf
      simp only [Bool.and_eq_true, decide_eq_true_eq] at h3
      show Value.int x.toInt8.toInt32 = .int x
      congr 1
      have q1 : (-128 : Int) ≤ x.toInt := Int32.le_iff_toInt_le.mp h3.1
      have q2 : x.toInt ≤ 127 := Int32.le_iff_toInt_le.mp h3.2
      apply Int32.toInt_inj.mp
      rw [Int8.toInt_toInt32, Int32.toInt_toInt8]
      exact Int.bmod_eq_of_le (by omega) (by omega)
    | char =>
      have h3 : (decide (0 ≤ x) && decide (x ≤ 65535)) = true := hf
      simp only [Bool.and_eq_true, decide_eq_true_eq] at h3
      obtain ⟨n, hn, rfl⟩ := nI_of2 (M := 65535) (n := 65535) rfl (fun q => by
        have q1 : (0 : Int) ≤ x.toInt := Int32.le_iff_toInt_le.mp h3.1
        have q2 : x.toInt < 0 := Int32.lt_iff_toInt_lt.mp q
        omega) h3.2
      exact (pk_charN (by omega)).1
    | short =>
      have h3 : (decide (-32768 ≤ x) && decide (x ≤ 32767)) = true := hf
      simp only [Bool.and_eq_true, decide_eq_true_eq] at h3
      show Value.int x.toInt16.toInt32 = .int x
      congr 1
      have q1 : (-32768 : Int) ≤ x.toInt := Int32.le_iff_toInt_le.mp h3.1
      have q2 : x.toInt ≤ 32767 := Int32.le_iff_toInt_le.mp h3.2
      apply Int32.toInt_inj.mp
      rw [Int16.toInt_toInt32, Int32.toInt_toInt16]
      exact Int.bmod_eq_of_le (by omega) (by omega)
    | _ => rfl
  | _ => cases ty <;> rfl
section IPH
variable {l : Launch} {G : ip_G} {M : ip_M} {d pc : Nat} {L : List (Option Value)} {st : List Value} {h : ip_H} {r : Option Value × ip_H}
theorem ip_getf {idx ci k n : Nat} {fs : List Value} {ty : FieldType} {fin : Bool} {v : Value} (hd : decode M.2.1 pc = .ok (.getfield idx, 3)) (hF : ip_F (ip_T G) (ip_C G) M.1.cls idx ci k ty fin) (hh : ip_h h n = some (.inr (ci, fs))) (hv : fs[k]? = some v)
    (kk : ip_Rn l G M d (pc + 3) L (v :: st) h r) : ip_Rn l G M d pc L (.ref n :: st) h r := by
  obtain ⟨C, F, N, hc, hw, hk, hC, -, -, -, -, hl⟩ := hF
  refine ⟨kk.1, fun p e R s m args below meth c Q H locs cells slots ls Cx hdp hlo hce hsl hL hSt hS kt => ?_⟩
  have hnext := kk.2 p e R s m args below meth c Q H locs cells slots ls Cx hdp hlo hce hsl hL hSt hS kt
  have hws := ip_ws_at G hh
  have hv' : (fs.map (ip_v G))[k]? = some (ip_v G v) := by rw [List.getElem?_map, hv]; rfl
  obtain ⟨hx, hb, -, -, hown, hts, -, -, -, hK, -⟩ := Cx
  rcases hl with hl | ⟨host, hl⟩
  · exact va_get hx hb hts hw hown hK hSt.2 (n - 32) hws hc k hk (hts _ hl) (fun x q => by rw [hC] at q; exact q) hv' hd hnext
  · exact va_getN hx hb hts hw hown hK hSt.2 (n - 32) hws hc k hk (hts _ hl) (fun x q => by rw [hC] at q; exact q) hv' hd hnext
theorem ip_store {s : State} {n k : Nat} {e0 e : ip_E} {H H1 : Heap} {locs : List Loc} (hSt : ip_St G h H) (hS : ip_S G s H locs) (hh : ip_h h n = some e0) (hat : va_at (ip_D G) (ip_C G) (ip_a G n, ip_cv G e) H1) (hz : H1.size = H.size) (oq : ∀ q : Nat, q ≠ ip_a G n → H1[q]? = H[q]?) :
    ip_St G (ip_hs h n e) H1 ∧ ip_S G s H1 (locs ++ [⟨ip_a G n, k⟩]) := by
  have hD := ip_ws_D G h (ip_B G)
  have hws := ip_ws_at G hh
  have ha : ip_a G n = ip_B G + (n - 32) := by
    unfold ip_h at hh
    split at hh
    · cases hh
    · next hn => unfold ip_a; rw [if_neg hn]
  have h1 := hSt.2.set hD hws hat oq
  refine ⟨⟨by rw [hz, hSt.1, ip_hs_len], ?_⟩, hS.put hz oq (by rw [ha]; exact Nat.le_add_right _ _)⟩
  unfold ip_hs
  rw [ip_ws_set, ← ha]
  exact h1
theorem ip_putf {idx ci k n : Nat} {fs : List Value} {ty : FieldType} {v : Value} (hd : decode M.2.1 pc = .ok (.putfield idx, 3)) (hF : ip_F (ip_T G) (ip_C G) M.1.cls idx ci k ty false) (hh : ip_h h n = some (.inr (ci, fs))) (hfl : k < fs.length) (hfit : fits ty v = true)
    (kk : ip_Rn l G M d (pc + 3) L st (ip_hs h n (.inr (ci, fs.set k v))) r) : ip_Rn l G M d pc L (v :: .ref n :: st) h r := by
  obtain ⟨C, F, N, hc, hw, hk, hC, hpar, hfin, ⟨ty0, hty⟩, hnm, hl⟩ := hF
  have hz : ip_z (.inr (ci, fs.set k v)) = ip_z (.inr (ci, fs)) := by show (fs.set k v).length = fs.length; exact List.length_set
  have et := ip_hs_t hh hz
  have k1 := kk.1
  rw [ip_hs_len, et] at k1
  refine ⟨k1, fun p e R s m args below meth c Q H locs cells slots ls Cx hdp hlo hce hsl hL hSt hS kt => ?_⟩
  have hws := ip_ws_at G hh
  have Cx0 := Cx
  obtain ⟨hx, hb, -, -, hown, hts, -, -, -, hK, -⟩ := Cx
  obtain ⟨hn2, hf2⟩ := ip_fits (G := G) hfit
  have hap := va_apart (own := M.1.cls) hts hw ty0 hty hnm hK hc
  obtain ⟨r', h1, cell, q1, q2, q3, q4⟩ := hSt.2 (n - 32) _ hws
  have hr : r' = (C, F, N) := Option.some.inj (h1.symm.trans hc)
  subst hr
  obtain ⟨hS1, hfc, kC, hkC, hkind⟩ := hK.1 ci _ hc
  obtain ⟨cf, kf, fi, f, hi, hsl1⟩ := hS1 k hk
  have hlay := hts _ (hw _ (u_in_lay hk))
  unfold u_lay at hlay
  rw [if_neg (by rw [hfin]; decide)] at hlay
  have hst := (u_facts hfc hkC (u_lays hts hw hk) hi).1
  have h6 := u_store hfc hkC hkind hlay hi hpar hn2 hf2
  have hi2 : s.fieldFound? C (F k).2.1 (F k).2.2.1 = some (cf, kf, fi, f) := by rw [← hC]; exact hi
  have fin : ∀ (H' : Heap), H'[ip_a G n]? = some (cell.setSlot f.slot (ip_v G v)) → H'.size = H.size → (∀ q, q ≠ ip_a G n → H'[q]? = H[q]?) → W p l e R s m args below meth c H' (locs ++ [⟨ip_a G n, f.slot⟩]) cells slots Q (F0 m (pc + 3) ls (st.map (ip_v G))) := by
    intro H' e1 e2 e3
    rw [hsl1] at e1
    have hat : va_at (ip_D G) (ip_C G) (ip_a G n, ip_cv G (.inr (ci, fs.set k v))) H' := by
      refine ⟨_, hc, t_OB.to (V := updV (vp_V (fs.map (ip_v G))) k (ip_v G v)) ⟨_, e1, q2, q3, t_set q4 hap hk (ip_v G v)⟩ (fun j _ => ?_)⟩
      show _ = vp_V ((fs.set k v).map (ip_v G)) j
      rw [List.map_set]
      exact vp_updV_set (by rw [List.length_map]; exact hfl) (ip_v G v) j
    obtain ⟨a1, a2⟩ := ip_store (k := f.slot) hSt hS hh hat e2 e3
    exact kk.2 p e R s m args below meth c Q H' _ cells slots ls Cx0 hdp hlo (by rw [ip_hs_len]; exact hce) (by rw [et]; exact hsl) hL a1 a2 (fun pc' ls' H'' locs' w1 w2 w3 => by rw [ip_hs_len, et]; exact kt pc' ls' H'' locs' w1 w2 w3)
  rcases hl with hl | ⟨host, hl⟩
  · exact W.putK hx hb (f := f) ⟨hown, hts _ hl, ⟨_, _, _, hi2⟩, hst⟩ (by rw [q2]; exact h6) q1 q3 (by rw [hsl1]; exact k2_hasslot (q4 k hk)) rfl rfl hd fin
  · exact va_WputK hx hb (f := f) hown (hts _ hl) hi2 hst (by rw [q2]; exact h6) q1 q3 (by rw [hsl1]; exact k2_hasslot (q4 k hk)) rfl rfl hd fin
theorem ip_putF {idx ci k n : Nat} {fs : List Value} {ty : FieldType} {v : Value} (hd : decode M.2.1 pc = .ok (.putfield idx, 3)) (hF : ip_Fp (ip_T G) (ip_C G) M.1.cls idx ci k ty) (hname : M.1.name = "<init>") (hh : ip_h h n = some (.inr (ci, fs))) (hfl : k < fs.length) (hfit : fits ty v = true)
    (kk : ip_Rn l G M d (pc + 3) L st (ip_hs h n (.inr (ci, fs.set k v))) r) : ip_Rn l G M d pc L (v :: .ref n :: st) h r := by
  obtain ⟨F, N, hc, hw, hk, hC, hpar, hfin, ⟨ty0, hty⟩, hnm, hl⟩ := hF
  have hz : ip_z (.inr (ci, fs.set k v)) = ip_z (.inr (ci, fs)) := by show (fs.set k v).length = fs.length; exact List.length_set
  have et := ip_hs_t hh hz
  have k1 := kk.1
  rw [ip_hs_len, et] at k1
  refine ⟨k1, fun p e R s m args below meth c Q H locs cells slots ls Cx hdp hlo hce hsl hL hSt hS kt => ?_⟩
  have hws := ip_ws_at G hh
  have Cx0 := Cx
  obtain ⟨hx, hb, -, -, hown, hts, -, hin2, -, hK, -⟩ := Cx
  obtain ⟨hn2, hf2⟩ := ip_fits (G := G) hfit
  have hap := va_apart (own := M.1.cls) hts hw ty0 hty hnm hK hc
  obtain ⟨r', h1, cell, q1, q2, q3, q4⟩ := hSt.2 (n - 32) _ hws
  have hr : r' = (M.1.cls, F, N) := Option.some.inj (h1.symm.trans hc)
  subst hr
  obtain ⟨hS1, hfc, kC, hkC, hkind⟩ := hK.1 ci _ hc
  obtain ⟨cf, kf, fi, f, hi, hsl1⟩ := hS1 k hk
  have hlay := hts _ (hw _ (u_in_lay hk))
  unfold u_lay at hlay
  rw [if_pos hfin] at hlay
  have hst := (u_facts hfc hkC (u_lays hts hw hk) hi).1
  have hcf : m.cls = cf := by
    obtain ⟨_, _, c', _, _, _, -, -, hf', -, -, -, hown2, -⟩ := Cond.laysFinal_spec hlay
    have e1 : c' = cf := by have := hi.symm.trans hf'; simp at this; exact this.1.symm
    rw [hC] at hown2
    rw [← e1]; exact Option.some.inj (hown.symm.trans hown2)
  have h6 := u_fits hfc hkC hkind (Or.inr hlay) hi hpar hn2 hf2
  have hi2 : s.fieldFound? M.1.cls (F k).2.1 (F k).2.2.1 = some (cf, kf, fi, f) := by rw [← hC]; exact hi
  have fin : ∀ (H' : Heap), H'[ip_a G n]? = some (cell.setSlot f.slot (ip_v G v)) → H'.size = H.size → (∀ q, q ≠ ip_a G n → H'[q]? = H[q]?) → W p l e R s m args below meth c H' (locs ++ [⟨ip_a G n, f.slot⟩]) cells slots Q (F0 m (pc + 3) ls (st.map (ip_v G))) := by
    intro H' e1 e2 e3
    rw [hsl1] at e1
    have hat : va_at (ip_D G) (ip_C G) (ip_a G n, ip_cv G (.inr (ci, fs.set k v))) H' := by
      refine ⟨_, hc, t_OB.to (V := updV (vp_V (fs.map (ip_v G))) k (ip_v G v)) ⟨_, e1, q2, q3, t_set q4 hap hk (ip_v G v)⟩ (fun j _ => ?_)⟩
      show _ = vp_V ((fs.set k v).map (ip_v G)) j
      rw [List.map_set]
      exact vp_updV_set (by rw [List.length_map]; exact hfl) (ip_v G v) j
    obtain ⟨a1, a2⟩ := ip_store (k := f.slot) hSt hS hh hat e2 e3
    exact kk.2 p e R s m args below meth c Q H' _ cells slots ls Cx0 hdp hlo (by rw [ip_hs_len]; exact hce) (by rw [et]; exact hsl) hL a1 a2 (fun pc' ls' H'' locs' w1 w2 w3 => by rw [ip_hs_len, et]; exact kt pc' ls' H'' locs' w1 w2 w3)
  exact W.putFinK hx hb hown (hts _ hl) hi2 hst hcf (hin2.trans hname) (by rw [q2]; exact h6) q1 q3 (by rw [hsl1]; exact k2_hasslot (q4 k hk)) rfl rfl hd fin
end IPH
end
section
section IPA
variable {l : Launch} {G : ip_G} {M : ip_M} {d pc : Nat} {L : List (Option Value)} {st : List Value} {h : ip_H} {r : Option Value × ip_H}
theorem ip_iald {n len : Nat} {f : Nat → Int32} {i : Int32} (hd : decode M.2.1 pc = .ok (.iaload, 1)) (hh : ip_h h n = some (.inl (.int, len, .inl f))) (hin : vp_in i len) (kk : ip_Rn l G M d (pc + 1) L (.int (f i.toNatClampNeg) :: st) h r) : ip_Rn l G M d pc L (.int i :: .ref n :: st) h r :=
  ⟨kk.1, fun p e R s m args below meth c Q H locs cells slots ls Cx hdp hlo hce hsl hL hSt hS kt =>
    va_iald (D := ip_D G) (cl := ip_C G) (tys := ip_ty G) Cx.1 Cx.2.1 Cx.2.2.2.2.2.2.2.2.2.1 hSt.2 (n - 32) 0 (ip_ws_at G hh) rfl hin hd (kk.2 p e R s m args below meth c Q H locs cells slots ls Cx hdp hlo hce hsl hL hSt hS kt)⟩
theorem ip_bald {n len : Nat} {f : Nat → Int32} {i : Int32} (hd : decode M.2.1 pc = .ok (.baload, 1)) (hh : ip_h h n = some (.inl (.byte, len, .inl f))) (hin : vp_in i len) (kk : ip_Rn l G M d (pc + 1) L (.int (f i.toNatClampNeg) :: st) h r) : ip_Rn l G M d pc L (.int i :: .ref n :: st) h r :=
  ⟨kk.1, fun p e R s m args below meth c Q H locs cells slots ls Cx hdp hlo hce hsl hL hSt hS kt =>
    va_bald (D := ip_D G) (cl := ip_C G) (tys := ip_ty G) Cx.1 Cx.2.1 Cx.2.2.2.2.2.2.2.2.2.1 hSt.2 (n - 32) 1 (ip_ws_at G hh) rfl hin hd (kk.2 p e R s m args below meth c Q H locs cells slots ls Cx hdp hlo hce hsl hL hSt hS kt)⟩
theorem ip_zald {n len : Nat} {f : Nat → Int32} {i : Int32} (hd : decode M.2.1 pc = .ok (.baload, 1)) (hh : ip_h h n = some (.inl (.boolean, len, .inl f))) (hin : vp_in i len) (kk : ip_Rn l G M d (pc + 1) L (.int (f i.toNatClampNeg) :: st) h r) : ip_Rn l G M d pc L (.int i :: .ref n :: st) h r :=
  ⟨kk.1, fun p e R s m args below meth c Q H locs cells slots ls Cx hdp hlo hce hsl hL hSt hS kt =>
    va_zald (D := ip_D G) (cl := ip_C G) (tys := ip_ty G) Cx.1 Cx.2.1 Cx.2.2.2.2.2.2.2.2.2.1 hSt.2 (n - 32) 2 (ip_ws_at G hh) rfl hin hd (kk.2 p e R s m args below meth c Q H locs cells slots ls Cx hdp hlo hce hsl hL hSt hS kt)⟩
theorem ip_lald {n len : Nat} {f : Nat → Int64} {i : Int32} (hd : decode M.2.1 pc = .ok (.laload, 1)) (hh : ip_h h n = some (.inl (.long, len, .inr (.inl f)))) (hin : vp_in i len) (kk : ip_Rn l G M d (pc + 1) L (.long (f i.toNatClampNeg) :: st) h r) : ip_Rn l G M d pc L (.int i :: .ref n :: st) h r :=
  ⟨kk.1, fun p e R s m args below meth c Q H locs cells slots ls Cx hdp hlo hce hsl hL hSt hS kt =>
    va_lald (D := ip_D G) (cl := ip_C G) (tys := ip_ty G) Cx.1 Cx.2.1 Cx.2.2.2.2.2.2.2.2.2.1 hSt.2 (n - 32) 3 (ip_ws_at G hh) rfl hin hd (kk.2 p e R s m args below meth c Q H locs cells slots ls Cx hdp hlo hce hsl hL hSt hS kt)⟩
def ip_tyN (ty : FieldType) : Nat := match ty with
  | .int => 0
  | .byte => 1
  | .boolean => 2
  | _ => 3
theorem ip_alen {n : Nat} {ty : FieldType} {x : vp_A} {v : Int32} (hd : decode M.2.1 pc = .ok (.arraylength, 1)) (hh : ip_h h n = some (.inl (ty, x))) (hty : (ip_ty G)[ip_tyN ty]? = some (ip_A G ty, ty)) (hv : Int32.ofNat x.1 = v) (kk : ip_Rn l G M d (pc + 1) L (.int v :: st) h r) : ip_Rn l G M d pc L (.ref n :: st) h r :=
  ⟨kk.1, fun p e R s m args below meth c Q H locs cells slots ls Cx hdp hlo hce hsl hL hSt hS kt =>
    va_alen (D := ip_D G) (cl := ip_C G) (tys := ip_ty G) Cx.1 Cx.2.1 Cx.2.2.2.2.2.2.2.2.2.1 hSt.2 (n - 32) (ip_tyN ty) (ip_ws_at G hh) hty hv hd (kk.2 p e R s m args below meth c Q H locs cells slots ls Cx hdp hlo hce hsl hL hSt hS kt)⟩
theorem ip_stI {s : State} {n len : Nat} {ty : FieldType} {f g : Nat → Int32} {H H1 : Heap} {locs : List Loc} {j : Nat} {w : Int32} (hSt : ip_St G h H) (hS : ip_S G s H locs) (hh : ip_h h n = some (.inl (ty, len, .inl f)))
    (e : H1[ip_a G n]? = some ((vp_cell (ip_A G ty) (len, .inl f)).setSlot j (.int w))) (z : H1.size = H.size) (oq : ∀ q, q ≠ ip_a G n → H1[q]? = H[q]?) : ip_St G (ip_hs h n (.inl (ty, len, .inl (upd f j w)))) H1 ∧ ip_S G s H1 (locs ++ [⟨ip_a G n, j⟩]) := by
  refine ip_store hSt hS hh ?_ z oq
  show H1[ip_a G n]? = some (vp_cell _ _)
  rw [e, vp_cell_i, vp_cell_i, arrV_store]
  congr 2
  funext q
  by_cases hq : q = j
  · subst hq
    simp [updV, upd]
  · simp [updV, upd, hq]
theorem ip_iast {n len : Nat} {f : Nat → Int32} {i x : Int32} (hd : decode M.2.1 pc = .ok (.iastore, 1)) (hh : ip_h h n = some (.inl (.int, len, .inl f))) (hin : vp_in i len)
    (kk : ip_Rn l G M d (pc + 1) L st (ip_hs h n (.inl (.int, len, .inl (upd f i.toNatClampNeg x)))) r) : ip_Rn l G M d pc L (.int x :: .int i :: .ref n :: st) h r := by
  have et := ip_hs_t (e := .inl (.int, len, .inl (upd f i.toNatClampNeg x))) hh rfl
  have k1 := kk.1
  rw [ip_hs_len, et] at k1
  refine ⟨k1, fun p e R s m args below meth c Q H locs cells slots ls Cx hdp hlo hce hsl hL hSt hS kt => ?_⟩
  have hws := ip_ws_at G hh
  refine W.iast Cx.1 Cx.2.1 (hSt.2 (n - 32) _ hws) ((Cx.2.2.2.2.2.2.2.2.2.1.2 0 _ rfl).1 len (fun j => .int (f j))) (fun q => by cases q) (by show ¬ (i < 0 ∨ (arrV _ _ _).slots.size ≤ _); rw [arrV_size]; exact hin) rfl rfl hd fun H1 e1 z oq => ?_
  obtain ⟨a1, a2⟩ := ip_stI hSt hS hh (g := f) e1 z oq
  exact kk.2 p e R s m args below meth c Q H1 _ cells slots ls Cx hdp hlo (by rw [ip_hs_len]; exact hce) (by rw [et]; exact hsl) hL a1 a2 (fun pc' ls' H'' locs' w1 w2 w3 => by rw [ip_hs_len, et]; exact kt pc' ls' H'' locs' w1 w2 w3)
theorem ip_bast {n len : Nat} {f : Nat → Int32} {i x : Int32} (hd : decode M.2.1 pc = .ok (.bastore, 1)) (hh : ip_h h n = some (.inl (.byte, len, .inl f))) (hin : vp_in i len)
    (kk : ip_Rn l G M d (pc + 1) L st (ip_hs h n (.inl (.byte, len, .inl (upd f i.toNatClampNeg x.toInt8.toInt32)))) r) : ip_Rn l G M d pc L (.int x :: .int i :: .ref n :: st) h r := by
  have et := ip_hs_t (e := .inl (.byte, len, .inl (upd f i.toNatClampNeg x.toInt8.toInt32))) hh rfl
  have k1 := kk.1
  rw [ip_hs_len, et] at k1
  refine ⟨k1, fun p e R s m args below meth c Q H locs cells slots ls Cx hdp hlo hce hsl hL hSt hS kt => ?_⟩
  have hws := ip_ws_at G hh
  refine W.bast Cx.1 Cx.2.1 (hSt.2 (n - 32) _ hws) ((Cx.2.2.2.2.2.2.2.2.2.1.2 1 _ rfl).1 len (fun j => .int (f j))) (fun q => by cases q) (by show ¬ (i < 0 ∨ (arrV _ _ _).slots.size ≤ _); rw [arrV_size]; exact hin) rfl rfl hd fun H1 e1 z oq => ?_
  obtain ⟨a1, a2⟩ := ip_stI hSt hS hh (g := f) e1 z oq
  exact kk.2 p e R s m args below meth c Q H1 _ cells slots ls Cx hdp hlo (by rw [ip_hs_len]; exact hce) (by rw [et]; exact hsl) hL a1 a2 (fun pc' ls' H'' locs' w1 w2 w3 => by rw [ip_hs_len, et]; exact kt pc' ls' H'' locs' w1 w2 w3)
theorem ip_zast {n len : Nat} {f : Nat → Int32} {i x : Int32} (hd : decode M.2.1 pc = .ok (.bastore, 1)) (hh : ip_h h n = some (.inl (.boolean, len, .inl f))) (hin : vp_in i len)
    (kk : ip_Rn l G M d (pc + 1) L st (ip_hs h n (.inl (.boolean, len, .inl (upd f i.toNatClampNeg (x &&& 1))))) r) : ip_Rn l G M d pc L (.int x :: .int i :: .ref n :: st) h r := by
  have et := ip_hs_t (e := .inl (.boolean, len, .inl (upd f i.toNatClampNeg (x &&& 1)))) hh rfl
  have k1 := kk.1
  rw [ip_hs_len, et] at k1
  refine ⟨k1, fun p e R s m args below meth c Q H locs cells slots ls Cx hdp hlo hce hsl hL hSt hS kt => ?_⟩
  have hws := ip_ws_at G hh
  refine W.zast Cx.1 Cx.2.1 (hSt.2 (n - 32) _ hws) ((Cx.2.2.2.2.2.2.2.2.2.1.2 2 _ rfl).1 len (fun j => .int (f j))) (fun q => by cases q) (by show ¬ (i < 0 ∨ (arrV _ _ _).slots.size ≤ _); rw [arrV_size]; exact hin) rfl rfl hd fun H1 e1 z oq => ?_
  obtain ⟨a1, a2⟩ := ip_stI hSt hS hh (g := f) e1 z oq
  exact kk.2 p e R s m args below meth c Q H1 _ cells slots ls Cx hdp hlo (by rw [ip_hs_len]; exact hce) (by rw [et]; exact hsl) hL a1 a2 (fun pc' ls' H'' locs' w1 w2 w3 => by rw [ip_hs_len, et]; exact kt pc' ls' H'' locs' w1 w2 w3)
theorem ip_last {n len : Nat} {f : Nat → Int64} {i : Int32} {x : Int64} (hd : decode M.2.1 pc = .ok (.lastore, 1)) (hh : ip_h h n = some (.inl (.long, len, .inr (.inl f)))) (hin : vp_in i len)
    (kk : ip_Rn l G M d (pc + 1) L st (ip_hs h n (.inl (.long, len, .inr (.inl (vp_updL f i.toNatClampNeg x))))) r) : ip_Rn l G M d pc L (.long x :: .int i :: .ref n :: st) h r := by
  have et := ip_hs_t (e := .inl (.long, len, .inr (.inl (vp_updL f i.toNatClampNeg x)))) hh rfl
  have k1 := kk.1
  rw [ip_hs_len, et] at k1
  refine ⟨k1, fun p e R s m args below meth c Q H locs cells slots ls Cx hdp hlo hce hsl hL hSt hS kt => ?_⟩
  have hws := ip_ws_at G hh
  refine W.last Cx.1 Cx.2.1 (hSt.2 (n - 32) _ hws) ((Cx.2.2.2.2.2.2.2.2.2.1.2 3 _ rfl).1 len (fun j => .long (f j))) (fun q => by cases q) (by show ¬ (i < 0 ∨ (arrV _ _ _).slots.size ≤ _); rw [arrV_size]; exact hin) rfl rfl hd fun H1 e1 z oq => ?_
  have hat : va_at (ip_D G) (ip_C G) (ip_a G n, ip_cv G (.inl (.long, len, .inr (.inl (vp_updL f i.toNatClampNeg x))))) H1 := by
    show H1[ip_a G n]? = some (vp_cell _ _)
    rw [e1]
    rw [vp_cell_l, vp_cell_l, arrV_store]
    congr 2
    funext q
    by_cases hq : q = i.toNatClampNeg
    · subst hq
      simp [updV, vp_updL]
    · simp [updV, vp_updL, hq]
  obtain ⟨a1, a2⟩ := ip_store (k := i.toNatClampNeg) hSt hS hh hat z oq
  exact kk.2 p e R s m args below meth c Q H1 _ cells slots ls Cx hdp hlo (by rw [ip_hs_len]; exact hce) (by rw [et]; exact hsl) hL a1 a2 (fun pc' ls' H'' locs' w1 w2 w3 => by rw [ip_hs_len, et]; exact kt pc' ls' H'' locs' w1 w2 w3)
/-- a new cell -/
theorem ip_grow {s : State} {e : ip_E} {H H1 : Heap} {locs : List Loc} (hSt : ip_St G h H) (hS : ip_S G s H locs) (hU : ip_B G ≤ s.heap.size) (hat : va_at (ip_D G) (ip_C G) (H.size, ip_cv G e) H1) (hz : H1.size = H.size + 1) (oq : ∀ q : Nat, q < H.size → H1[q]? = H[q]?) : ip_St G (h ++ [e]) H1 ∧ ip_S G s H1 locs := by
  refine ⟨⟨by rw [hz, hSt.1, List.length_append]; rfl, ?_⟩, ⟨Nat.le_trans hS.1 (by omega), fun q h1 h2 => (oq q (Nat.lt_of_lt_of_le h1 hS.1)).trans (hS.2.1 q h1 h2), hS.2.2⟩⟩
  rw [ip_ws_push, ← hSt.1]
  refine (hSt.2.kept (fun k x hx => oq x.1 ((hSt.2 k x hx).lt))).app (fun k x hx => ?_)
  have hk : k < 1 := (List.getElem?_eq_some_iff.mp hx).1
  rw [show k = 0 by omega] at hx
  cases hx
  exact hat
theorem ip_new {idx ci : Nat} {fs : List Value} (hd : decode M.2.1 pc = .ok (.new idx, 3)) (hN : ip_N (ip_T G) (ip_C G) M.1.cls idx ci fs)
    (kk : ip_Rn l G M d (pc + 3) L (.ref (32 + h.length) :: st) (h ++ [.inr (ci, fs)]) r) : ip_Rn l G M d pc L st h r := by
  obtain ⟨C, F, N, hc, hw, ⟨ty0, hty, hfs⟩, hcl, hins, hini⟩ := hN
  have hlen : fs.length = N := by rw [hfs]; simp
  have et := ip_t_push h (.inr (ci, fs))
  have ez : ip_z (.inr (ci, fs)) = N := hlen
  rw [ez] at et
  have k1 := kk.1
  rw [List.length_append, et] at k1
  have k1a : h.length + 1 ≤ r.2.length := k1.1
  refine ⟨⟨by omega, by omega⟩, fun p e R s m args below meth c Q H locs cells slots ls Cx hdp hlo hce hsl hL hSt hS kt => ?_⟩
  have Cx0 := Cx
  obtain ⟨hx, hb, -, -, hown, hts, -, -, hU, hK, -⟩ := Cx
  have hKn := hK.1 ci _ hc
  refine W.newcK hx hb hown (hts _ hcl) (hts _ hins) (hts _ hini) rfl hd (by omega) (by omega) hKn.2.1 rfl fun H1 kC hkC e1 z1 o1 => ?_
  have hat : va_at (ip_D G) (ip_C G) (H.size, ip_cv G (.inr (ci, fs))) H1 := by
    refine ⟨_, hc, (u_born ty0 hts hw hKn hkC e1 hty).to (fun j hj => ?_)⟩
    show defaultValue (ty0 j) = vp_V (fs.map (ip_v G)) j
    have : fs[j]? = some (defaultValue (ty0 j)) := by rw [hfs]; simp [hj]
    unfold vp_V
    rw [List.getD_eq_getElem?_getD, List.getElem?_map, this]
    cases ty0 j <;> rfl
  obtain ⟨a1, a2⟩ := ip_grow hSt hS hU hat z1 o1
  have := kk.2 p e R s m args below meth c Q H1 locs (cells + 1) (slots + N) ls Cx0 hdp hlo (by rw [List.length_append]; show cells + 1 + _ ≤ _ + (_ + 1); omega) (by rw [et]; omega) hL a1 a2 (fun pc' ls' H'' locs' w1 w2 w3 => by
    have q := kt pc' ls' H'' locs' w1 w2 w3
    rw [List.length_append, et]
    rw [show cells + 1 + (r.2.length - (h.length + [(.inr (ci, fs) : ip_E)].length)) = cells + (r.2.length - h.length) by show cells + 1 + (r.2.length - (h.length + 1)) = _; omega, show slots + N + (ip_t r.2 - (ip_t h + N)) = slots + (ip_t r.2 - ip_t h) by omega]
    exact q)
  have ea : ip_a G (32 + h.length) = H.size := by unfold ip_a; rw [if_neg (by omega), hSt.1]; omega
  rw [List.map_cons] at this
  rw [show ip_v G (.ref (32 + h.length)) = .ref H.size from by show Value.ref (ip_a G _) = _; rw [ea]] at this
  exact this
def ip_at (ty : FieldType) : ArrayType := match ty with
  | .int => .int
  | .byte => .byte
  | .boolean => .boolean
  | _ => .long
def ip_zr (ty : FieldType) (n : Nat) : vp_A := match ty with
  | .long => (n, .inr (.inl (fun _ => 0)))
  | _ => (n, .inl (fun _ => 0))
theorem ip_newa (ty : FieldType) (hty : (ip_ty G)[ip_tyN ty]? = some (ip_A G ty, ty)) (h4 : ty = .int ∨ ty = .byte ∨ ty = .boolean ∨ ty = .long) {n : Int32} {N : Nat} (hd : decode M.2.1 pc = .ok (.newarray (ip_at ty), 2)) (hw : Cond.arrayClass ty ∈ ip_T G) (hn : ¬ n < 0) (hN : n.toNatClampNeg = N) (hsz : N * 8 ≤ 536870912)
    (kk : ip_Rn l G M d (pc + 2) L (.ref (32 + h.length) :: st) (h ++ [.inl (ty, ip_zr ty N)]) r) : ip_Rn l G M d pc L (.int n :: st) h r := by
  have et := ip_t_push h (.inl (ty, ip_zr ty N))
  have ez : ip_z (.inl (ty, ip_zr ty N)) = N := by cases ty <;> rfl
  rw [ez] at et
  have k1 := kk.1
  rw [List.length_append, et] at k1
  have k1a : h.length + 1 ≤ r.2.length := k1.1
  refine ⟨⟨by omega, by omega⟩, fun p e R s m args below meth c Q H locs cells slots ls Cx hdp hlo hce hsl hL hSt hS kt => ?_⟩
  have Cx0 := Cx
  obtain ⟨hx, hb, -, -, hown, hts, -, -, hU, hK, -⟩ := Cx
  have etp : newarray.typeOf (ip_at ty) = ty := by rcases h4 with rfl | rfl | rfl | rfl <;> rfl
  have hcb : componentBytes ty ≤ 8 := by rcases h4 with rfl | rfl | rfl | rfl <;> decide
  have hmul : N * componentBytes ty ≤ N * 8 := Nat.mul_le_mul_left N hcb
  refine va_newaK hx hb (atype := ip_at ty) (by rw [etp]; exact hts _ hw) rfl hd rfl hn hN (by rw [etp]; omega) (by omega) (by omega) rfl fun H1 cA e1 z1 o1 hAr hNm => ?_
  have hcA : cA = ip_A G ty := by
    have h5 := (hK.2 (ip_tyN ty) _ hty).2
    rw [etp] at hNm
    rcases h4 with rfl | rfl | rfl | rfl <;> exact Option.some.inj (hNm.symm.trans h5)
  have hat : va_at (ip_D G) (ip_C G) (H.size, ip_cv G (.inl (ty, ip_zr ty N))) H1 := by
    show H1[H.size]? = some (vp_cell (ip_A G ty) (ip_zr ty N))
    rw [e1, hcA, etp]
    rcases h4 with rfl | rfl | rfl | rfl <;> rfl
  obtain ⟨a1, a2⟩ := ip_grow hSt hS hU hat z1 o1
  have := kk.2 p e R s m args below meth c Q H1 locs (cells + 1) (slots + N) ls Cx0 hdp hlo (by rw [List.length_append]; show cells + 1 + _ ≤ _ + (_ + 1); omega) (by rw [et]; omega) hL a1 a2 (fun pc' ls' H'' locs' w1 w2 w3 => by
    have q := kt pc' ls' H'' locs' w1 w2 w3
    rw [List.length_append, et]
    rw [show cells + 1 + (r.2.length - (h.length + [(.inl (ty, ip_zr ty N) : ip_E)].length)) = cells + (r.2.length - h.length) by show cells + 1 + (r.2.length - (h.length + 1)) = _; omega, show slots + N + (ip_t r.2 - (ip_t h + N)) = slots + (ip_t r.2 - ip_t h) by omega]
    exact q)
  have ea : ip_a G (32 + h.length) = H.size := by unfold ip_a; rw [if_neg (by omega), hSt.1]; omega
  rw [List.map_cons] at this
  rw [show ip_v G (.ref (32 + h.length)) = .ref H.size from by show Value.ref (ip_a G _) = _; rw [ea]] at this
  exact this
end IPA
end
section
/-! returns -/
def ip_rok (ret : Option FieldType) (v : Option Value) : Prop := match ret, v with
  | none, none => True
  | some .long, some (.long _) => True
  | some (.object _), some (.ref _) => True
  | some (.array _), some (.ref _) => True
  | some ty, some (.int x) => narrow ty (.int x) = .int x ∧ ty ≠ .long
  | _, _ => False
def ip_w (G : ip_G) (M : ip_M) : List Cond := Cond.code M.1 M.2.1 M.2.2.1 M.2.2.2 :: ip_T G
def ip_rm (d : Nat) (h : ip_H) (r : Option Value × ip_H) : Room := { frames := d, cells := r.2.length - h.length, slots := ip_t r.2 - ip_t h, locals := 41 * d }
def ip_Pc (G : ip_G) (As : List Value) (h : ip_H) : Array Value → State → Prop := va_Pc (As.map (ip_v G)) (fun U => ip_U G U ∧ ip_St G h U.heap)
def ip_Qc (G : ip_G) (r : Option Value × ip_H) : Array Value → State → Outcome → State → Prop := fun _ st o t => o = .returned (r.1.map (ip_v G)) ∧ ip_St G r.2 t.heap ∧ va_F (fun q => ip_B G ≤ q) st t
def ip_RnM (l : Launch) (G : ip_G) (M : ip_M) (d : Nat) (As : List Value) (h : ip_H) (r : Option Value × ip_H) : Prop :=
  (h.length ≤ r.2.length ∧ ip_t h ≤ ip_t r.2) ∧ Met l M.1 (ip_w G M) (ip_rm d h r) (ip_Pc G As h) (ip_Qc G r) (r.2.length - h.length) (ip_t r.2 - ip_t h) (fun q => ip_B G ≤ q)
/-- what the tables must say of a method that is called -/
def ip_okM (T : List Cond) (M : ip_M) : Prop := plainName M.1.cls = true ∧ (M.1.cls ≠ "java/lang/invoke/MethodHandle" ∧ M.1.cls ≠ "java/lang/invoke/VarHandle") ∧ M.2.2.1 ≤ 22 ∧ Cond.code M.1 M.2.1 M.2.2.1 M.2.2.2 ∈ T ∧ Cond.initialized M.1.cls ∈ T
def ip_okT (T : List Cond) : Prop := ∀ w ∈ T, (w.onTables && w.keeps) = true ∨ ∃ ty, w = .arrayClass ty
def ip_ent0 (As : List Value) : List (Option Value) := As.flatMap (fun v => if v.category = 2 then [some v, none] else [some v])
def ip_ent (As : List Value) (n : Nat) : List (Option Value) := ip_ent0 As ++ List.replicate (n - (ip_ent0 As).length) none
def ip_sl (G : ip_G) (o : Option Value) : Slot := match o with
  | some v => .val (ip_v G v)
  | none => .second
theorem ip_lg_sl (G : ip_G) : ∀ As : List Value, lg_sl (As.map (ip_v G)) = (ip_ent0 As).map (ip_sl G)
  | [] => rfl
  | v :: As => by
    have ih := ip_lg_sl G As
    show (if (ip_v G v).category = 2 then [Slot.val (ip_v G v), .second] else [.val (ip_v G v)]) ++ lg_sl (As.map (ip_v G)) = ((if v.category = 2 then [some v, none] else [some v]) ++ ip_ent0 As).map (ip_sl G)
    rw [ih, List.map_append, ip_v_cat]
    split <;> rfl
theorem ip_entry (G : ip_G) (As : List Value) (n : Nat) (hn : (ip_ent0 As).length ≤ n) : ip_L G ((lg_sl (As.map (ip_v G)) ++ List.replicate (n - (lg_sl (As.map (ip_v G))).length) Slot.unset).toArray) n (ip_ent As n) := by
  have hlen : (lg_sl (As.map (ip_v G))).length = (ip_ent0 As).length := by rw [ip_lg_sl, List.length_map]
  have h0 := lv_entry (As.map (ip_v G)) (n := n) (by rw [hlen]; exact hn)
  refine ⟨h0.1, h0.2.1, fun i v hi => ?_⟩
  rw [List.getElem?_toArray]
  unfold ip_ent at hi
  by_cases hl : i < (ip_ent0 As).length
  · rw [List.getElem?_append_left hl] at hi
    rw [List.getElem?_append_left (by rw [hlen]; exact hl), ip_lg_sl, List.getElem?_map, hi]
    rfl
  · rw [List.getElem?_append_right (by omega)] at hi
    have := List.eq_of_mem_replicate (List.mem_of_getElem? hi)
    cases this
theorem ip_ofRn {l : Launch} {G : ip_G} {M : ip_M} {d : Nat} {As : List Value} {h : ip_H} {r : Option Value × ip_H} (hM : ip_okM (ip_T G) M) (hr : ip_rok M.2.2.2 r.1) (hn : (ip_ent0 As).length ≤ M.2.2.1) (k : ip_Rn l G M d 0 (ip_ent As M.2.2.1) [] h r) : ip_RnM l G M d As h r := by
  refine ⟨k.1, Met.ofW (cc := M.2.1) (maxL := M.2.2.1) (ret := M.2.2.2) hM.1 rfl ?_⟩
  intro p e s m args below meth c s₁ B hml hv
  obtain ⟨rfl, hU, hSt⟩ := hv
  have hts : ∀ w ∈ ip_T G, w.before (As.map (ip_v G)).toArray s = true := fun w hw => atoms_spec (ws := ip_w G M) B.pre w (List.mem_cons_of_mem _ hw)
  have hlocks := B.notSynchronized
  have Cx : ip_Cx G M p s m (As.map (ip_v G)).toArray meth c := ⟨B.exec, B.bytes, B.returns, hml, findClass_of_methodNamed B.named, hts, B.notSynchronized, (name_of_methodNamed B.named B.method).1, hU⟩
  rw [lg_entry_eq]
  have hr0 : meth.sig.returnType = M.2.2.2 := B.returns
  refine k.2 p e (ip_rm d h r) s m _ below meth c _ s.heap [] 0 0 _ Cx (Nat.le_refl _) (Nat.le_refl _) (by show 0 + _ ≤ (r.2.length - h.length) + _; have := k.1.1; omega) (by show 0 + _ ≤ (ip_t r.2 - ip_t h) + _; have := k.1.2; omega) (ip_entry G As _ hn) hSt va_S.rf ?_
  intro pc' ls' H' locs' hdg hSt' hS'
  rw [Nat.zero_add, Nat.zero_add]
  have hq : ∀ t : State, t.heap = H' → s.WarmedH t.vm → ip_Qc G r (As.map (ip_v G)).toArray s (.returned (r.1.map (ip_v G))) t := fun t ht _ => ⟨rfl, by rw [ht]; exact hSt', hS'.F ht⟩
  obtain ⟨v, h'⟩ := r
  cases v with
  | none =>
    cases hret : M.2.2.2 with
    | none =>
      rw [hret] at hr0
      exact W.vret B.exec B.bytes hr0 hq hS'.2.2 hdg
    | some ty =>
      rw [hret] at hr
      cases ty <;> exact hr.elim
  | some v =>
    cases hret : M.2.2.2 with
    | none =>
      rw [hret] at hr
      exact hr.elim
    | some ty =>
      rw [hret] at hr hr0
      cases v with
      | int x =>
        have hx : narrow ty (.int x) = .int x ∧ ty ≠ .long := by
          cases ty <;> first | exact hr | exact hr.elim
        exact W.zret (v := x) B.exec B.bytes hr0 hx.1 hq hS'.2.2 hdg
      | long x =>
        have hx : ty = .long := by cases ty <;> first | rfl | exact hr.elim
        subst hx
        exact W.lret (v := x) B.exec B.bytes hr0 hq hS'.2.2 hdg
      | ref x =>
        have hx : (∃ n, ty = .object n) ∨ ∃ t, ty = .array t := by
          cases ty <;> first | exact Or.inl ⟨_, rfl⟩ | exact Or.inr ⟨_, rfl⟩ | exact hr.elim
        exact W.aret (v := .ref (ip_a G x)) B.exec B.bytes hr0 hx (Or.inr ⟨_, rfl⟩) hq hS'.2.2 hdg
      | null => cases ty <;> exact hr.elim
      | float x => cases ty <;> exact hr.elim
      | double x => cases ty <;> exact hr.elim
      | retAddr x => cases ty <;> exact hr.elim
section IPC
variable {l : Launch} {G : ip_G} {M : ip_M} {d pc : Nat} {L : List (Option Value)} {st : List Value} {h : ip_H} {r : Option Value × ip_H}
theorem ip_ret {v : Option Value} (hd : decode M.2.1 pc = .ok (ip_ri v, 1)) : ip_Rn l G M d pc L v.toList h (v, h) :=
  ⟨⟨Nat.le_refl _, Nat.le_refl _⟩, fun p e R s m args below meth c Q H locs cells slots ls Cx hdp hlo hce hsl hL hSt hS kt => by
    have := kt pc ls H locs hd hSt hS
    rw [Nat.sub_self, Nat.sub_self] at this
    exact this⟩
theorem ip_blind (G : ip_G) (hmv : ip_mv G) (As : List Value) (h : ip_H) : FrameBlind (ip_Pc G As h) := fun a U g mk q => by
  obtain ⟨q0, ⟨q1, q2, q3⟩, q4⟩ := q
  exact ⟨q0, ⟨q1, va_K.moved (u := U) (U := U.calling g mk a) (Vm.Alike.refl U.vm) q2, hmv U (U.calling g mk a) (Vm.Alike.refl U.vm) (fun _ _ => rfl) q3⟩, q4⟩
theorem ip_pre {s : State} {H : Heap} {locs : List Loc} {As : List Value} (hmv : ip_mv G) (hU : ip_U G s) (hSt : ip_St G h H) (hS : ip_S G s H locs) : ∀ U : State, U.heap = H → s.WarmedH U.vm → ip_Pc G As h (As.map (ip_v G)).toArray U := fun U hH hW =>
  ⟨rfl, ⟨by rw [hH, hSt.1]; exact Nat.le_add_right _ _, va_K.moved hW.alike hU.2.1, hmv s U hW.alike (fun q hq => by rw [hH]; exact hS.2.1 q (Nat.lt_of_lt_of_le hq hU.1) (Nat.not_le.mpr hq)) hU.2.2⟩, by rw [hH]; exact hSt⟩
theorem ip_goodw (hT : ip_okT (ip_T G)) {M' : ip_M} (hM : ip_okM (ip_T G) M') : GoodIn (ip_T G) (ip_w G M') := fun w hw => by
  rcases List.mem_cons.mp hw with rfl | hw
  · exact ⟨hM.2.2.2.1, hT _ hM.2.2.2.1⟩
  · exact ⟨hw, hT w hw⟩
theorem ip_after {p : Program} {e : Env} {R : Room} {s : State} {m : MethodId} {args : Array Value} {below : List Frame} {meth : Method} {c : Code} {H : Heap} {locs : List Loc} {cells slots mc ms : Nat} {Q : State → Prop} {ls : Array Slot} {st0 rest : List Value} {a : Array Value} {r1 : Option Value × ip_H}
    (hr : va_Run p l e R s m args below meth c H locs cells slots mc ms (F0 m pc ls st0) rest (ip_Qc G r1 a) (fun q => ip_B G ≤ q)) (hS : ip_S G s H locs)
    (kk : ∀ (H1 : Heap) (locs1 : List Loc), ip_St G r1.2 H1 → ip_S G s H1 locs1 → W p l e R s m args below meth c H1 locs1 (cells + mc) (slots + ms) Q (F0 m (pc + 3) ls ((r1.1.map (ip_v G)).toList ++ rest))) : W p l e R s m args below meth c H locs cells slots Q (F0 m pc ls st0) := by
  intro T hT X
  obtain ⟨v, st₀, t, T', L', h0, X', hL', e1, e2, ⟨hv, hSt1, hz, hk⟩, stp⟩ := hr T hT X
  cases hv
  rw [h0] at hz hk
  obtain ⟨t2, a1, b1⟩ := kk T'.heap (locs ++ L') (by rw [e1]; exact hSt1)
    ⟨Nat.le_trans hS.1 (by rw [e1]; exact hz), fun q h1 h2 => by rw [e1, hk q (Nat.lt_of_lt_of_le h1 hS.1) h2]; exact hS.2.1 q h1 h2, fun q hq => by
      rcases List.mem_append.mp hq with h | h
      · exact hS.2.2 q h
      · exact hL' q h⟩ T' rfl X'
  exact ⟨t2, stp t2 a1, b1⟩
/-- the numbers behind a call -/
theorem ip_nums {a b c x y z w u v : Nat} (h1 : a ≤ b) (h2 : b ≤ c) : x + (b - a) + (c - b) = x + (c - a) := by omega
theorem ip_callV {idx n ci N : Nat} {C : String} {F : u_T} {fs As : List Value} {M' : ip_M} {r1 : Option Value × ip_H} (hmv : ip_mv G) (hT : ip_okT (ip_T G)) (hM : ip_okM (ip_T G) M') (hd : decode M.2.1 pc = .ok (.invokevirtual idx, 3))
    (hln : Cond.methodLink M.1.cls idx M'.1 ∈ ip_T G ∧ Cond.instanceMethod M'.1 ∈ ip_T G ∧ Cond.selects M'.1.cls M'.1 M'.1 ∈ ip_T G) (hpar : (parseMethodDescriptor M'.1.desc).map (fun q => q.parameters.length) = some As.length)
    (hc : (ip_C G)[ci]? = some (C, F, N)) (hC : C = M'.1.cls) (hh : ip_h h n = some (.inr (ci, fs))) (hsm : (st.map fun v => v.category).sum ≤ 8) (hm : ip_RnM l G M' d (.ref n :: As) h r1)
    (kk : ip_Rn l G M (d + 1) (pc + 3) L (r1.1.toList ++ st) r1.2 r) : ip_Rn l G M (d + 1) pc L (As.reverse ++ .ref n :: st) h r := by
  refine ⟨⟨Nat.le_trans hm.1.1 kk.1.1, Nat.le_trans hm.1.2 kk.1.2⟩, fun p e R s m args below meth c Q H locs cells slots ls Cx hdp hlo hce hsl hL hSt hS kt => ?_⟩
  have Cx0 := Cx
  obtain ⟨hx, hb, -, hml, hown, hts, -, -, hU⟩ := Cx
  have m1 := hm.1
  have k1 := kk.1
  have hcb : CallB R s args M.1.cls idx M'.1 M'.2.1 M'.2.2.1 M'.2.2.2 (ip_w G M') (ip_rm d h r1) (r1.2.length - h.length) (ip_t r1.2 - ip_t h) As.length :=
    callB_of As.length hts (ip_goodw hT hM) rfl rfl rfl (hts _ hM.2.2.2.2) (hts _ hln.1) ⟨hM.2.1.1, hM.2.1.2, hpar⟩ ⟨hdp, by have := hM.2.2.1; show 8 + (M'.2.2.1 + 11) + 41 * d ≤ R.locals; omega⟩
  have hrun := va_runV (e := e) (below := below) (meth := meth) (As := As.map (ip_v G)) (rest := st.map (ip_v G)) (g := F0 m pc ls ((As.reverse ++ .ref n :: st).map (ip_v G))) ⟨hx, hb, hml, hown, hts⟩ hm.2 ⟨hcb, hts _ hln.2.1, hts _ hln.2.2⟩
    ⟨ip_blind G hmv _ _, by
      obtain ⟨cell, g1, g2, g3⟩ := va_recv hU.2.1 hSt.2 hc (ip_ws_at G hh)
      rw [← hC]
      exact ⟨cell, g1, g2, g3⟩, ip_pre (As := .ref n :: As) hmv hU hSt hS⟩ rfl (by rw [List.length_map]) hL.1 (by simp [ip_v]) (lv_room (m := m) (pc := pc) (ls := ls) (rest := []) (by rw [ip_cats]; exact hsm)) hd (locs := locs) (cells := cells) (slots := slots) ⟨by omega, by omega⟩
  refine ip_after hrun hS (fun H1 locs1 a1 a2 => ?_)
  have := kk.2 p e R s m args below meth c Q H1 locs1 (cells + (r1.2.length - h.length)) (slots + (ip_t r1.2 - ip_t h)) ls Cx0 hdp hlo (by omega) (by omega) hL a1 a2 (fun pc' ls' H'' locs' w1 w2 w3 => by
    have q := kt pc' ls' H'' locs' w1 w2 w3
    rw [show cells + (r1.2.length - h.length) + (r.2.length - r1.2.length) = cells + (r.2.length - h.length) by omega, show slots + (ip_t r1.2 - ip_t h) + (ip_t r.2 - ip_t r1.2) = slots + (ip_t r.2 - ip_t h) by omega]
    exact q)
  rw [List.map_append] at this
  cases hv : r1.1 with
  | none => rw [hv] at this; exact this
  | some v => rw [hv] at this; exact this
theorem ip_callI {idx n : Nat} {As : List Value} {M' : ip_M} {r1 : Option Value × ip_H} (hmv : ip_mv G) (hT : ip_okT (ip_T G)) (hM : ip_okM (ip_T G) M') (hd : decode M.2.1 pc = .ok (.invokespecial idx, 3))
    (hln : Cond.methodLink M.1.cls idx M'.1 ∈ ip_T G ∧ Cond.instanceMethod M'.1 ∈ ip_T G) (hname : M'.1.name = "<init>") (hret : M'.2.2.2 = none) (hpar : (parseMethodDescriptor M'.1.desc).map (fun q => q.parameters.length) = some As.length)
    (hsm : (st.map fun v => v.category).sum ≤ 8) (hm : ip_RnM l G M' d (.ref n :: As) h r1)
    (kk : ip_Rn l G M (d + 1) (pc + 3) L (r1.1.toList ++ st) r1.2 r) : ip_Rn l G M (d + 1) pc L (As.reverse ++ .ref n :: st) h r := by
  refine ⟨⟨Nat.le_trans hm.1.1 kk.1.1, Nat.le_trans hm.1.2 kk.1.2⟩, fun p e R s m args below meth c Q H locs cells slots ls Cx hdp hlo hce hsl hL hSt hS kt => ?_⟩
  have Cx0 := Cx
  obtain ⟨hx, hb, -, hml, hown, hts, -, -, hU⟩ := Cx
  have m1 := hm.1
  have k1 := kk.1
  have hcb : CallB R s args M.1.cls idx M'.1 M'.2.1 M'.2.2.1 none (ip_w G M') (ip_rm d h r1) (r1.2.length - h.length) (ip_t r1.2 - ip_t h) As.length :=
    callB_of As.length hts (ip_goodw hT hM) (ws' := ip_T G) (by unfold ip_w; rw [hret]) rfl rfl (hts _ hM.2.2.2.2) (hts _ hln.1) ⟨hM.2.1.1, hM.2.1.2, hpar⟩ ⟨hdp, by have := hM.2.2.1; show 8 + (M'.2.2.1 + 11) + 41 * d ≤ R.locals; omega⟩
  have hrun := va_runI (e := e) (below := below) (meth := meth) (b := ip_a G n) (As := As.map (ip_v G)) (rest := st.map (ip_v G)) (g := F0 m pc ls ((As.reverse ++ .ref n :: st).map (ip_v G))) ⟨hx, hb, hml, hown, hts⟩ hm.2 ⟨hcb, hname, hts _ hln.2⟩
    ⟨ip_blind G hmv _ _, ip_pre (As := .ref n :: As) hmv hU hSt hS⟩ rfl (by rw [List.length_map]) hL.1 (by simp [ip_v]) (lv_room (m := m) (pc := pc) (ls := ls) (rest := []) (by rw [ip_cats]; exact hsm)) hd (locs := locs) (cells := cells) (slots := slots) ⟨by omega, by omega⟩
  refine ip_after hrun hS (fun H1 locs1 a1 a2 => ?_)
  have := kk.2 p e R s m args below meth c Q H1 locs1 (cells + (r1.2.length - h.length)) (slots + (ip_t r1.2 - ip_t h)) ls Cx0 hdp hlo (by omega) (by omega) hL a1 a2 (fun pc' ls' H'' locs' w1 w2 w3 => by
    have q := kt pc' ls' H'' locs' w1 w2 w3
    rw [show cells + (r1.2.length - h.length) + (r.2.length - r1.2.length) = cells + (r.2.length - h.length) by omega, show slots + (ip_t r1.2 - ip_t h) + (ip_t r.2 - ip_t r1.2) = slots + (ip_t r.2 - ip_t h) by omega]
    exact q)
  rw [List.map_append] at this
  cases hv : r1.1 with
  | none => rw [hv] at this; exact this
  | some v => rw [hv] at this; exact this
theorem ip_callS {idx : Nat} {As : List Value} {M' : ip_M} {r1 : Option Value × ip_H} (hmv : ip_mv G) (hT : ip_okT (ip_T G)) (hM : ip_okM (ip_T G) M') (hd : decode M.2.1 pc = .ok (.invokestatic idx, 3))
    (hln : Cond.methodLink M.1.cls idx M'.1 ∈ ip_T G ∧ Cond.static M'.1 ∈ ip_T G) (hpar : (parseMethodDescriptor M'.1.desc).map (fun q => q.parameters.length) = some As.length)
    (hsm : (st.map fun v => v.category).sum ≤ 8) (hm : ip_RnM l G M' d As h r1)
    (kk : ip_Rn l G M (d + 1) (pc + 3) L (r1.1.toList ++ st) r1.2 r) : ip_Rn l G M (d + 1) pc L (As.reverse ++ st) h r := by
  refine ⟨⟨Nat.le_trans hm.1.1 kk.1.1, Nat.le_trans hm.1.2 kk.1.2⟩, fun p e R s m args below meth c Q H locs cells slots ls Cx hdp hlo hce hsl hL hSt hS kt => ?_⟩
  have Cx0 := Cx
  obtain ⟨hx, hb, -, hml, hown, hts, -, -, hU⟩ := Cx
  have m1 := hm.1
  have k1 := kk.1
  have hcb : CallB R s args M.1.cls idx M'.1 M'.2.1 M'.2.2.1 M'.2.2.2 (ip_w G M') (ip_rm d h r1) (r1.2.length - h.length) (ip_t r1.2 - ip_t h) As.length :=
    callB_of As.length hts (ip_goodw hT hM) rfl rfl rfl (hts _ hM.2.2.2.2) (hts _ hln.1) ⟨hM.2.1.1, hM.2.1.2, hpar⟩ ⟨hdp, by have := hM.2.2.1; show 8 + (M'.2.2.1 + 11) + 41 * d ≤ R.locals; omega⟩
  have hrun := va_runS (e := e) (below := below) (meth := meth) (As := As.map (ip_v G)) (rest := st.map (ip_v G)) (g := F0 m pc ls ((As.reverse ++ st).map (ip_v G))) ⟨hx, hb, hml, hown, hts⟩ hm.2 ⟨hcb, hts _ hln.2⟩
    ⟨ip_blind G hmv _ _, ip_pre (As := As) hmv hU hSt hS⟩ rfl (by rw [List.length_map]) hL.1 (by simp) (lv_room (m := m) (pc := pc) (ls := ls) (rest := []) (by rw [ip_cats]; exact hsm)) hd (locs := locs) (cells := cells) (slots := slots) ⟨by omega, by omega⟩
  refine ip_after hrun hS (fun H1 locs1 a1 a2 => ?_)
  have := kk.2 p e R s m args below meth c Q H1 locs1 (cells + (r1.2.length - h.length)) (slots + (ip_t r1.2 - ip_t h)) ls Cx0 hdp hlo (by omega) (by omega) hL a1 a2 (fun pc' ls' H'' locs' w1 w2 w3 => by
    have q := kt pc' ls' H'' locs' w1 w2 w3
    rw [show cells + (r1.2.length - h.length) + (r.2.length - r1.2.length) = cells + (r.2.length - h.length) by omega, show slots + (ip_t r1.2 - ip_t h) + (ip_t r.2 - ip_t r1.2) = slots + (ip_t r.2 - ip_t h) by omega]
    exact q)
  rw [List.map_append] at this
  cases hv : r1.1 with
  | none => rw [hv] at this; exact this
  | some v => rw [hv] at this; exact this
/-- a private static method of a nest mate -/
theorem ip_callSN {idx : Nat} {host : String} {As : List Value} {M' : ip_M} {r1 : Option Value × ip_H} (hmv : ip_mv G) (hT : ip_okT (ip_T G)) (hM : ip_okM (ip_T G) M') (hd : decode M.2.1 pc = .ok (.invokestatic idx, 3))
    (hln : Cond.methodLinkNest M.1.cls idx M'.1 host ∈ ip_T G ∧ Cond.static M'.1 ∈ ip_T G) (hpar : (parseMethodDescriptor M'.1.desc).map (fun q => q.parameters.length) = some As.length)
    (hsm : (st.map fun v => v.category).sum ≤ 8) (hm : ip_RnM l G M' d As h r1)
    (kk : ip_Rn l G M (d + 1) (pc + 3) L (r1.1.toList ++ st) r1.2 r) : ip_Rn l G M (d + 1) pc L (As.reverse ++ st) h r := by
  refine ⟨⟨Nat.le_trans hm.1.1 kk.1.1, Nat.le_trans hm.1.2 kk.1.2⟩, fun p e R s m args below meth c Q H locs cells slots ls Cx hdp hlo hce hsl hL hSt hS kt => ?_⟩
  have Cx0 := Cx
  obtain ⟨hx, hb, -, hml, hown, hts, -, -, hU⟩ := Cx
  have m1 := hm.1
  have k1 := kk.1
  have hcb : va_CN R s args M.1.cls idx M'.1 host M'.2.1 M'.2.2.1 M'.2.2.2 (ip_w G M') (ip_rm d h r1) (r1.2.length - h.length) (ip_t r1.2 - ip_t h) As.length :=
    va_cnB As.length hts (ip_goodw hT hM) rfl rfl rfl (va_Nw.of rfl (hts _ hln.1)) (hts _ hM.2.2.2.2) ⟨hM.2.1.1, hM.2.1.2, hpar⟩ ⟨hdp, by have := hM.2.2.1; show 8 + (M'.2.2.1 + 11) + 41 * d ≤ R.locals; omega⟩
  have hrun := va_runSN (e := e) (below := below) (meth := meth) (As := As.map (ip_v G)) (rest := st.map (ip_v G)) (g := F0 m pc ls ((As.reverse ++ st).map (ip_v G))) ⟨hx, hb, hml, hown, hts⟩ hm.2 ⟨hcb, hts _ hln.2, trivial⟩
    ⟨ip_blind G hmv _ _, ip_pre (As := As) hmv hU hSt hS⟩ rfl (by rw [List.length_map]) hL.1 (by simp) (lv_room (m := m) (pc := pc) (ls := ls) (rest := []) (by rw [ip_cats]; exact hsm)) hd (locs := locs) (cells := cells) (slots := slots) ⟨by omega, by omega⟩
  refine ip_after hrun hS (fun H1 locs1 a1 a2 => ?_)
  have := kk.2 p e R s m args below meth c Q H1 locs1 (cells + (r1.2.length - h.length)) (slots + (ip_t r1.2 - ip_t h)) ls Cx0 hdp hlo (by omega) (by omega) hL a1 a2 (fun pc' ls' H'' locs' w1 w2 w3 => by
    have q := kt pc' ls' H'' locs' w1 w2 w3
    rw [show cells + (r1.2.length - h.length) + (r.2.length - r1.2.length) = cells + (r.2.length - h.length) by omega, show slots + (ip_t r1.2 - ip_t h) + (ip_t r.2 - ip_t r1.2) = slots + (ip_t r.2 - ip_t h) by omega]
    exact q)
  rw [List.map_append] at this
  cases hv : r1.1 with
  | none => rw [hv] at this; exact this
  | some v => rw [hv] at this; exact this
end IPC
end
section
/-- what a method's instructions are and link to: decode rows, fields, made classes, numbers -/
def ip_len (pc : Nat) (i : Instr) : Nat := match i with
  | .bipush _ | .ldc _ | .iload _ | .lload _ | .aload _ | .istore _ | .lstore _ | .astore _ | .newarray _ => 2
  | .sipush _ | .ldc_w _ | .ldc2_w _ | .iinc _ _ | .goto _ | .ifCond _ _ | .if_icmp _ _ | .getfield _ | .putfield _ | .new _ | .invokevirtual _ | .invokespecial _ | .invokestatic _ | .getstatic _ | .ifnull _ | .ifnonnull _ => 3
  | .tableswitch _ _ _ offs => (4 - pc % 4) + 12 + 4 * offs.size
  | .lookupswitch _ ps => (4 - pc % 4) + 8 + 8 * ps.size
  | _ => 1
abbrev ip_V : Type := List (Nat × Instr) × List (Nat × Nat × Nat × FieldType × Bool) × List (Nat × Nat × List Value) × List (Nat × Int32) × List (Nat × Int64)
def ip_okV (T : List Cond) (cl : List vw_C) (M : ip_M) (V : ip_V) : Prop :=
  (∀ q ∈ V.1, decode M.2.1 q.1 = .ok (q.2, ip_len q.1 q.2)) ∧ (∀ q ∈ V.2.1, ip_F T cl M.1.cls q.1 q.2.1 q.2.2.1 q.2.2.2.1 q.2.2.2.2 ∧ (q.2.2.2.2 = true → ip_Fp T cl M.1.cls q.1 q.2.1 q.2.2.1 q.2.2.2.1 ∨ M.1.name ≠ "<init>")) ∧ (∀ q ∈ V.2.2.1, ip_N T cl M.1.cls q.1 q.2.1 q.2.2) ∧ (∀ q ∈ V.2.2.2.1, Cond.constant M.1.cls q.1 q.2 ∈ T) ∧ (∀ q ∈ V.2.2.2.2, Cond.constantLong M.1.cls q.1 q.2 ∈ T) ∧ (Cond.arrayClass .int ∈ T ∧ Cond.arrayClass .byte ∈ T ∧ Cond.arrayClass .boolean ∈ T ∧ Cond.arrayClass .long ∈ T)
abbrev ip_K : Type := Nat × List (Option Value) × List Value × ip_H
def ip_lk {α : Type} : Nat → List (Nat × α) → Option α
  | _, [] => none
  | k, q :: l => bif Nat.beq k q.1 then some q.2 else ip_lk k l
theorem ip_lk_mem {α : Type} {k : Nat} {a : α} : ∀ {l : List (Nat × α)}, ip_lk k l = some a → (k, a) ∈ l
  | [], h => by cases h
  | q :: l, h => by
    unfold ip_lk at h
    cases hb : Nat.beq k q.1 with
    | true =>
      rw [hb] at h
      have h1 : q.2 = a := Option.some.inj h
      have h2 : k = q.1 := Nat.eq_of_beq_eq_true hb
      rw [h2, ← h1]
      exact List.mem_cons_self
    | false =>
      rw [hb] at h
      exact List.mem_cons_of_mem _ (ip_lk_mem h)
def ip_cnd (c : ClassFile.Cond) (x : Int32) : Bool := match c with
  | .eq => decide (x = 0)
  | .ne => decide (¬ x = 0)
  | .lt => decide (x < 0)
  | .ge => decide (0 ≤ x)
  | .gt => decide (0 < x)
  | .le => decide (x ≤ 0)
def ip_cmp (c : ClassFile.Cond) (x y : Int32) : Bool := match c with
  | .eq => decide (x = y)
  | .ne => decide (¬ x = y)
  | .lt => decide (x < y)
  | .ge => decide (y ≤ x)
  | .gt => decide (y < x)
  | .le => decide (x ≤ y)
def ip_ls {α : Type} : List α → Nat → α → Option (List α)
  | [], _, _ => none
  | _ :: l, 0, e => some (e :: l)
  | x :: l, k + 1, e => match ip_ls l k e with
    | some l' => some (x :: l')
    | none => none
theorem ip_ls_eq {α : Type} : ∀ {l : List α} {k : Nat} {e : α} {l' : List α}, ip_ls l k e = some l' → l' = l.set k e ∧ k < l.length
  | [], _, _, _, h => by cases h
  | x :: l, 0, e, l', h => by
    cases h
    exact ⟨rfl, Nat.zero_lt_succ _⟩
  | x :: l, k + 1, e, l', h => by
    unfold ip_ls at h
    cases hq : ip_ls l k e with
    | none => rw [hq] at h; cases h
    | some m =>
      rw [hq] at h
      cases h
      obtain ⟨h1, h2⟩ := ip_ls_eq hq
      exact ⟨by rw [h1]; rfl, Nat.succ_lt_succ h2⟩
def ip_pu {α : Type} : List α → α → Option (List α)
  | [], e => some [e]
  | x :: l, e => match ip_pu l e with
    | some l' => some (x :: l')
    | none => none
theorem ip_pu_eq {α : Type} : ∀ {l : List α} {e : α} {l' : List α}, ip_pu l e = some l' → l' = l ++ [e]
  | [], e, l', h => by cases h; rfl
  | x :: l, e, l', h => by
    unfold ip_pu at h
    cases hq : ip_pu l e with
    | none => rw [hq] at h; cases h
    | some m =>
      rw [hq] at h
      cases h
      rw [ip_pu_eq hq]
      rfl
/-- the cell before a store of a number, forgotten if it is the first half of a long -/
def ip_s1s (L : List (Option Value)) (i : Nat) (v : Value) : Option (List (Option Value)) := match i with
  | 0 => ip_ls L 0 (some v)
  | j + 1 => match L[j]? with
    | some (some w) => bif Nat.beq w.category 2 then match ip_ls L j none with
        | some L' => ip_ls L' (j + 1) (some v)
        | none => none
      else ip_ls L (j + 1) (some v)
    | _ => ip_ls L (j + 1) (some v)
theorem ip_s1s_eq {L L' : List (Option Value)} {i : Nat} {v : Value} (h : ip_s1s L i v = some L') : L' = ip_s1 L i v := by
  cases i with
  | zero => exact (ip_ls_eq h).1
  | succ j =>
    unfold ip_s1s at h
    unfold ip_s1 ip_cl
    cases hL : L[j]? with
    | none => simp only [hL] at h ⊢; exact (ip_ls_eq h).1
    | some o =>
      cases o with
      | none => simp only [hL] at h ⊢; exact (ip_ls_eq h).1
      | some w =>
        simp only [hL] at h ⊢
        cases hb : Nat.beq w.category 2 with
        | true =>
          rw [hb] at h
          simp only [cond_true] at h
          have hc : w.category = 2 := Nat.eq_of_beq_eq_true hb
          show _ = (if w.category = 2 then L.set j none else L).set (j + 1) (some v)
          rw [if_pos hc]
          cases hq : ip_ls L j none with
          | none => rw [hq] at h; cases h
          | some m =>
            rw [hq] at h
            rw [← (ip_ls_eq hq).1]
            exact (ip_ls_eq h).1
        | false =>
          rw [hb] at h
          simp only [cond_false] at h
          have hc : ¬ w.category = 2 := fun q => by rw [q] at hb; cases hb
          show _ = (if w.category = 2 then L.set j none else L).set (j + 1) (some v)
          rw [if_neg hc]
          exact (ip_ls_eq h).1
def ip_s2s (L : List (Option Value)) (i : Nat) (v : Value) : Option (List (Option Value)) := match ip_s1s L i v with
  | some L' => ip_ls L' (i + 1) none
  | none => none
theorem ip_s2s_eq {L L' : List (Option Value)} {i : Nat} {v : Value} (h : ip_s2s L i v = some L') : L' = ip_s2 L i v := by
  unfold ip_s2s at h
  cases hq : ip_s1s L i v with
  | none => rw [hq] at h; cases h
  | some m =>
    rw [hq] at h
    have h1 := (ip_ls_eq h).1
    rw [h1, ip_s1s_eq hq]
    rfl
def ip_in (i : Int32) (n : Nat) : Bool := !(decide (i < 0)) && Nat.blt i.toNatClampNeg n
theorem ip_in_ok {i : Int32} {n : Nat} (h : ip_in i n = true) : vp_in i n := by
  unfold ip_in at h
  simp only [Bool.and_eq_true, Bool.not_eq_true', decide_eq_false_iff_not] at h
  intro q
  rcases q with q | q
  · exact h.1 q
  · have := Nat.le_of_ble_eq_true h.2
    omega
def ip_tyA (a : ArrayType) : Option FieldType := match a with
  | .int => some .int
  | .byte => some .byte
  | .boolean => some .boolean
  | .long => some .long
  | _ => none
/-- one instruction that is no call, no return -/
def ip_ins (V : ip_V) (mL : Nat) (ini : Bool) (ins : Instr) (pc : Nat) (L : List (Option Value)) (st : List Value) (h : ip_H) : Option ip_K :=
  match ins with
  | .iconst n => some (pc + 1, L, .int (Int32.ofInt n) :: st, h)
  | .bipush n => some (pc + 2, L, .int (Int8.ofInt n).toInt32 :: st, h)
  | .sipush n => some (pc + 3, L, .int (Int16.ofInt n).toInt32 :: st, h)
  | .lconst n => some (pc + 1, L, .long (Int64.ofNat (n : Nat)) :: st, h)
  | .ldc i => match ip_lk i V.2.2.2.1 with
    | some v => some (pc + 2, L, .int v :: st, h)
    | none => none
  | .ldc_w i => match ip_lk i V.2.2.2.1 with
    | some v => some (pc + 3, L, .int v :: st, h)
    | none => none
  | .ldc2_w i => match ip_lk i V.2.2.2.2 with
    | some v => some (pc + 3, L, .long v :: st, h)
    | none => none
  | .iload i => match L[i]? with
    | some (some (.int x)) => some (pc + 2, L, .int x :: st, h)
    | _ => none
  | .iload_n i => match L[i.val]? with
    | some (some (.int x)) => some (pc + 1, L, .int x :: st, h)
    | _ => none
  | .lload i => match L[i]? with
    | some (some (.long x)) => some (pc + 2, L, .long x :: st, h)
    | _ => none
  | .lload_n i => match L[i.val]? with
    | some (some (.long x)) => some (pc + 1, L, .long x :: st, h)
    | _ => none
  | .aload i => match L[i]? with
    | some (some (.ref x)) => some (pc + 2, L, .ref x :: st, h)
    | _ => none
  | .aload_n i => match L[i.val]? with
    | some (some (.ref x)) => some (pc + 1, L, .ref x :: st, h)
    | _ => none
  | .istore i => match st with
    | .int x :: st => bif Nat.blt i mL then match ip_s1s L i (.int x) with
        | some L' => some (pc + 2, L', st, h)
        | none => none
      else none
    | _ => none
  | .istore_n i => match st with
    | .int x :: st => bif Nat.blt i.val mL then match ip_s1s L i.val (.int x) with
        | some L' => some (pc + 1, L', st, h)
        | none => none
      else none
    | _ => none
  | .lstore i => match st with
    | .long x :: st => bif Nat.blt (i + 1) mL then match ip_s2s L i (.long x) with
        | some L' => some (pc + 2, L', st, h)
        | none => none
      else none
    | _ => none
  | .lstore_n i => match st with
    | .long x :: st => bif Nat.blt (i.val + 1) mL then match ip_s2s L i.val (.long x) with
        | some L' => some (pc + 1, L', st, h)
        | none => none
      else none
    | _ => none
  | .astore i => match st with
    | .ref x :: st => bif Nat.blt i mL then match ip_s1s L i (.ref x) with
        | some L' => some (pc + 2, L', st, h)
        | none => none
      else none
    | _ => none
  | .astore_n i => match st with
    | .ref x :: st => bif Nat.blt i.val mL then match ip_s1s L i.val (.ref x) with
        | some L' => some (pc + 1, L', st, h)
        | none => none
      else none
    | _ => none
  | .iinc i n => match L[i]? with
    | some (some (.int x)) => bif Nat.blt i mL then match ip_s1s L i (.int (x + Int32.ofInt n)) with
        | some L' => some (pc + 3, L', st, h)
        | none => none
      else none
    | _ => none
  | .iadd => match st with
    | .int y :: .int x :: st => some (pc + 1, L, .int (x + y) :: st, h)
    | _ => none
  | .isub => match st with
    | .int y :: .int x :: st => some (pc + 1, L, .int (x - y) :: st, h)
    | _ => none
  | .imul => match st with
    | .int y :: .int x :: st => some (pc + 1, L, .int (x * y) :: st, h)
    | _ => none
  | .iand => match st with
    | .int y :: .int x :: st => some (pc + 1, L, .int (x &&& y) :: st, h)
    | _ => none
  | .ior => match st with
    | .int y :: .int x :: st => some (pc + 1, L, .int (x ||| y) :: st, h)
    | _ => none
  | .ixor => match st with
    | .int y :: .int x :: st => some (pc + 1, L, .int (x ^^^ y) :: st, h)
    | _ => none
  | .ineg => match st with
    | .int x :: st => some (pc + 1, L, .int (-x) :: st, h)
    | _ => none
  | .ishl => match st with
    | .int y :: .int x :: st => some (pc + 1, L, .int (x <<< (y &&& 31)) :: st, h)
    | _ => none
  | .ishr => match st with
    | .int y :: .int x :: st => some (pc + 1, L, .int (x >>> (y &&& 31)) :: st, h)
    | _ => none
  | .iushr => match st with
    | .int y :: .int x :: st => some (pc + 1, L, .int (x.toUInt32 >>> (y.toUInt32 &&& Int32.toUInt32 31)).toInt32 :: st, h)
    | _ => none
  | .ladd => match st with
    | .long y :: .long x :: st => some (pc + 1, L, .long (x + y) :: st, h)
    | _ => none
  | .lsub => match st with
    | .long y :: .long x :: st => some (pc + 1, L, .long (x - y) :: st, h)
    | _ => none
  | .lmul => match st with
    | .long y :: .long x :: st => some (pc + 1, L, .long (x * y) :: st, h)
    | _ => none
  | .land => match st with
    | .long y :: .long x :: st => some (pc + 1, L, .long (x &&& y) :: st, h)
    | _ => none
  | .lor => match st with
    | .long y :: .long x :: st => some (pc + 1, L, .long (x ||| y) :: st, h)
    | _ => none
  | .lxor => match st with
    | .long y :: .long x :: st => some (pc + 1, L, .long (x ^^^ y) :: st, h)
    | _ => none
  | .lneg => match st with
    | .long x :: st => some (pc + 1, L, .long (-x) :: st, h)
    | _ => none
  | .lshl => match st with
    | .int y :: .long x :: st => some (pc + 1, L, .long (x <<< (y.toInt64 &&& 63)) :: st, h)
    | _ => none
  | .lshr => match st with
    | .int y :: .long x :: st => some (pc + 1, L, .long (x >>> (y.toInt64 &&& 63)) :: st, h)
    | _ => none
  | .lushr => match st with
    | .int y :: .long x :: st => some (pc + 1, L, .long (x.toUInt64 >>> (y.toInt64.toUInt64 &&& Int64.toUInt64 63)).toInt64 :: st, h)
    | _ => none
  | .lcmp => match st with
    | .long y :: .long x :: st => some (pc + 1, L, .int (lg_cmp x y) :: st, h)
    | _ => none
  | .i2l => match st with
    | .int x :: st => some (pc + 1, L, .long x.toInt64 :: st, h)
    | _ => none
  | .l2i => match st with
    | .long x :: st => some (pc + 1, L, .int x.toInt32 :: st, h)
    | _ => none
  | .i2b => match st with
    | .int x :: st => some (pc + 1, L, .int x.toInt8.toInt32 :: st, h)
    | _ => none
  | .i2c => match st with
    | .int x :: st => some (pc + 1, L, .int (x.toUInt32 % 65536).toInt32 :: st, h)
    | _ => none
  | .dup => match st with
    | v :: st => bif Nat.beq v.category 1 then some (pc + 1, L, v :: v :: st, h) else none
    | _ => none
  | .pop => match st with
    | v :: st => bif Nat.beq v.category 1 then some (pc + 1, L, st, h) else none
    | _ => none
  | .dup_x1 => match st with
    | v :: w :: st => bif Nat.beq v.category 1 && Nat.beq w.category 1 then some (pc + 1, L, v :: w :: v :: st, h) else none
    | _ => none
  | .dup2 => match st with
    | v :: w :: st => bif Nat.beq v.category 1 && Nat.beq w.category 1 then some (pc + 1, L, v :: w :: v :: w :: st, h) else none
    | _ => none
  | .goto off => match (pc : Int) + off with
    | .ofNat t => some (t, L, st, h)
    | _ => none
  | .ifCond c off => match st with
    | .int x :: st => match (pc : Int) + off with
      | .ofNat t => bif ip_cnd c x then some (t, L, st, h) else some (pc + 3, L, st, h)
      | _ => none
    | _ => none
  | .if_icmp c off => match st with
    | .int y :: .int x :: st => match (pc : Int) + off with
      | .ofNat t => bif ip_cmp c x y then some (t, L, st, h) else some (pc + 3, L, st, h)
      | _ => none
    | _ => none
  | .getfield i => match st with
    | .ref n :: st => match ip_lk i V.2.1 with
      | some (ci, k, _, _) => match ip_h h n with
        | some (.inr (cj, fs)) => bif Nat.beq ci cj then match fs[k]? with
            | some v => some (pc + 3, L, v :: st, h)
            | none => none
          else none
        | _ => none
      | none => none
    | _ => none
  | .putfield i => match st with
    | v :: .ref n :: st => match ip_lk i V.2.1 with
      | some (ci, k, ty, fin) => match ip_h h n with
        | some (.inr (cj, fs)) => bif Nat.beq ci cj && fits ty v && (!fin || ini) then match ip_ls fs k v with
            | some fs' => match ip_ls h (n - 32) (.inr (cj, fs')) with
              | some h' => some (pc + 3, L, st, h')
              | none => none
            | none => none
          else none
        | _ => none
      | none => none
    | _ => none
  | .new i => match ip_lk i V.2.2.1 with
    | some (ci, fs) => match ip_pu h (.inr (ci, fs)) with
      | some h' => some (pc + 3, L, .ref (32 + h.length) :: st, h')
      | none => none
    | none => none
  | .newarray a => match st with
    | .int n :: st => match ip_tyA a with
      | some ty => bif !(decide (n < 0)) && Nat.ble n.toNatClampNeg 67108864 then match ip_pu h (.inl (ty, ip_zr ty n.toNatClampNeg)) with
          | some h' => some (pc + 2, L, .ref (32 + h.length) :: st, h')
          | none => none
        else none
      | none => none
    | _ => none
  | .arraylength => match st with
    | .ref n :: st => match ip_h h n with
      | some (.inl (.int, x)) => some (pc + 1, L, .int (Int32.ofNat x.1) :: st, h)
      | some (.inl (.byte, x)) => some (pc + 1, L, .int (Int32.ofNat x.1) :: st, h)
      | some (.inl (.boolean, x)) => some (pc + 1, L, .int (Int32.ofNat x.1) :: st, h)
      | some (.inl (.long, x)) => some (pc + 1, L, .int (Int32.ofNat x.1) :: st, h)
      | _ => none
    | _ => none
  | .iaload => match st with
    | .int i :: .ref n :: st => match ip_h h n with
      | some (.inl (.int, len, .inl f)) => bif ip_in i len then some (pc + 1, L, .int (f i.toNatClampNeg) :: st, h) else none
      | _ => none
    | _ => none
  | .baload => match st with
    | .int i :: .ref n :: st => match ip_h h n with
      | some (.inl (.byte, len, .inl f)) => bif ip_in i len then some (pc + 1, L, .int (f i.toNatClampNeg) :: st, h) else none
      | some (.inl (.boolean, len, .inl f)) => bif ip_in i len then some (pc + 1, L, .int (f i.toNatClampNeg) :: st, h) else none
      | _ => none
    | _ => none
  | .laload => match st with
    | .int i :: .ref n :: st => match ip_h h n with
      | some (.inl (.long, len, .inr (.inl f))) => bif ip_in i len then some (pc + 1, L, .long (f i.toNatClampNeg) :: st, h) else none
      | _ => none
    | _ => none
  | .iastore => match st with
    | .int x :: .int i :: .ref n :: st => match ip_h h n with
      | some (.inl (.int, len, .inl f)) => bif ip_in i len then match ip_ls h (n - 32) (.inl (.int, len, .inl (upd f i.toNatClampNeg x))) with
          | some h' => some (pc + 1, L, st, h')
          | none => none
        else none
      | _ => none
    | _ => none
  | .bastore => match st with
    | .int x :: .int i :: .ref n :: st => match ip_h h n with
      | some (.inl (.byte, len, .inl f)) => bif ip_in i len then match ip_ls h (n - 32) (.inl (.byte, len, .inl (upd f i.toNatClampNeg x.toInt8.toInt32))) with
          | some h' => some (pc + 1, L, st, h')
          | none => none
        else none
      | some (.inl (.boolean, len, .inl f)) => bif ip_in i len then match ip_ls h (n - 32) (.inl (.boolean, len, .inl (upd f i.toNatClampNeg (x &&& 1)))) with
          | some h' => some (pc + 1, L, st, h')
          | none => none
        else none
      | _ => none
    | _ => none
  | .lastore => match st with
    | .long x :: .int i :: .ref n :: st => match ip_h h n with
      | some (.inl (.long, len, .inr (.inl f))) => bif ip_in i len then match ip_ls h (n - 32) (.inl (.long, len, .inr (.inl (vp_updL f i.toNatClampNeg x)))) with
          | some h' => some (pc + 1, L, st, h')
          | none => none
        else none
      | _ => none
    | _ => none
  | _ => none
def ip_stp (V : ip_V) (mL : Nat) (ini : Bool) (σ : ip_K) : Option ip_K := match ip_lk σ.1 V.1 with
  | some i => ip_ins V mL ini i σ.1 σ.2.1 σ.2.2.1 σ.2.2.2
  | none => none
def ip_sts (V : ip_V) (mL : Nat) (ini : Bool) : Nat → ip_K → Option ip_K
  | 0, σ => some σ
  | n + 1, σ => match ip_stp V mL ini σ with
    | some σ' => ip_sts V mL ini n σ'
    | none => none
theorem ip_ins_ok {l : Launch} {G : ip_G} {M : ip_M} {d pc pc' : Nat} {L L' : List (Option Value)} {st st' : List Value} {h h' : ip_H} {r : Option Value × ip_H} {V : ip_V} {ini : Bool} {ins : Instr} (hV : ip_okV (ip_T G) (ip_C G) M V) (hini : ini = true → M.1.name = "<init>") (hq : decode M.2.1 pc = .ok (ins, ip_len pc ins))
    (hs : ip_ins V M.2.2.1 ini ins pc L st h = some (pc', L', st', h')) (k : ip_Rn l G M d pc' L' st' h' r) : ip_Rn l G M d pc L st h r := by
  cases ins with
  | iconst n => cases hs; exact ip_iconst hq rfl k
  | bipush n => cases hs; exact ip_bipush hq rfl k
  | sipush n => cases hs; exact ip_sipush hq rfl k
  | lconst n => cases hs; exact ip_lconst hq rfl k
  | ldc i =>
    simp only [ip_ins] at hs
    split at hs
    · next v hv => cases hs; exact ip_ldc hq (hV.2.2.2.1 _ (ip_lk_mem hv)) k
    · cases hs
  | ldc_w i =>
    simp only [ip_ins] at hs
    split at hs
    · next v hv => cases hs; exact ip_ldcw hq (hV.2.2.2.1 _ (ip_lk_mem hv)) k
    · cases hs
  | ldc2_w i =>
    simp only [ip_ins] at hs
    split at hs
    · next v hv => cases hs; exact ip_ldc2 hq (hV.2.2.2.2.1 _ (ip_lk_mem hv)) k
    · cases hs
  | iload i =>
    simp only [ip_ins] at hs
    split at hs
    · next x hv => cases hs; exact ip_iload hq hv k
    · cases hs
  | iload_n i =>
    simp only [ip_ins] at hs
    split at hs
    · next x hv => cases hs; exact ip_iload_n hq hv k
    · cases hs
  | lload i =>
    simp only [ip_ins] at hs
    split at hs
    · next x hv => cases hs; exact ip_lload hq hv k
    · cases hs
  | lload_n i =>
    simp only [ip_ins] at hs
    split at hs
    · next x hv => cases hs; exact ip_lload_n hq hv k
    · cases hs
  | aload i =>
    simp only [ip_ins] at hs
    split at hs
    · next x hv => cases hs; exact ip_aload hq hv k
    · cases hs
  | aload_n i =>
    simp only [ip_ins] at hs
    split at hs
    · next x hv => cases hs; exact ip_aload_n hq hv k
    · cases hs
  | istore i =>
    simp only [ip_ins] at hs
    split at hs
    · next x st1 =>
      cases hb : Nat.blt i M.2.2.1 with
      | true =>
        rw [hb] at hs
        simp only [cond_true] at hs
        split at hs
        · next L1 hl => cases hs; rw [ip_s1s_eq hl] at k; exact ip_istore hq (Nat.le_of_ble_eq_true hb) k
        · cases hs
      | false => rw [hb] at hs; cases hs
    · cases hs
  | istore_n i =>
    simp only [ip_ins] at hs
    split at hs
    · next x st1 =>
      cases hb : Nat.blt i.val M.2.2.1 with
      | true =>
        rw [hb] at hs
        simp only [cond_true] at hs
        split at hs
        · next L1 hl => cases hs; rw [ip_s1s_eq hl] at k; exact ip_istore_n hq (Nat.le_of_ble_eq_true hb) k
        · cases hs
      | false => rw [hb] at hs; cases hs
    · cases hs
  | lstore i =>
    simp only [ip_ins] at hs
    split at hs
    · next x st1 =>
      cases hb : Nat.blt (i + 1) M.2.2.1 with
      | true =>
        rw [hb] at hs
        simp only [cond_true] at hs
        split at hs
        · next L1 hl => cases hs; rw [ip_s2s_eq hl] at k; exact ip_lstore hq (Nat.le_of_ble_eq_true hb) k
        · cases hs
      | false => rw [hb] at hs; cases hs
    · cases hs
  | lstore_n i =>
    simp only [ip_ins] at hs
    split at hs
    · next x st1 =>
      cases hb : Nat.blt (i.val + 1) M.2.2.1 with
      | true =>
        rw [hb] at hs
        simp only [cond_true] at hs
        split at hs
        · next L1 hl => cases hs; rw [ip_s2s_eq hl] at k; exact ip_lstore_n hq (Nat.le_of_ble_eq_true hb) k
        · cases hs
      | false => rw [hb] at hs; cases hs
    · cases hs
  | astore i =>
    simp only [ip_ins] at hs
    split at hs
    · next x st1 =>
      cases hb : Nat.blt i M.2.2.1 with
      | true =>
        rw [hb] at hs
        simp only [cond_true] at hs
        split at hs
        · next L1 hl => cases hs; rw [ip_s1s_eq hl] at k; exact ip_astore hq (Nat.le_of_ble_eq_true hb) k
        · cases hs
      | false => rw [hb] at hs; cases hs
    · cases hs
  | astore_n i =>
    simp only [ip_ins] at hs
    split at hs
    · next x st1 =>
      cases hb : Nat.blt i.val M.2.2.1 with
      | true =>
        rw [hb] at hs
        simp only [cond_true] at hs
        split at hs
        · next L1 hl => cases hs; rw [ip_s1s_eq hl] at k; exact ip_astore_n hq (Nat.le_of_ble_eq_true hb) k
        · cases hs
      | false => rw [hb] at hs; cases hs
    · cases hs
  | iinc i n =>
    simp only [ip_ins] at hs
    split at hs
    · next x hv =>
      cases hb : Nat.blt i M.2.2.1 with
      | true =>
        rw [hb] at hs
        simp only [cond_true] at hs
        split at hs
        · next L1 hl => cases hs; rw [ip_s1s_eq hl] at k; exact ip_iinc hq hv (Nat.le_of_ble_eq_true hb) k
        · cases hs
      | false => rw [hb] at hs; cases hs
    · cases hs
  | iadd =>
    simp only [ip_ins] at hs
    split at hs
    · cases hs; exact ip_iadd hq k
    · cases hs
  | isub =>
    simp only [ip_ins] at hs
    split at hs
    · cases hs; exact ip_isub hq k
    · cases hs
  | imul =>
    simp only [ip_ins] at hs
    split at hs
    · cases hs; exact ip_imul hq k
    · cases hs
  | iand =>
    simp only [ip_ins] at hs
    split at hs
    · cases hs; exact ip_iand hq k
    · cases hs
  | ior =>
    simp only [ip_ins] at hs
    split at hs
    · cases hs; exact ip_ior hq k
    · cases hs
  | ixor =>
    simp only [ip_ins] at hs
    split at hs
    · cases hs; exact ip_ixor hq k
    · cases hs
  | ishl =>
    simp only [ip_ins] at hs
    split at hs
    · cases hs; exact ip_ishl hq k
    · cases hs
  | ishr =>
    simp only [ip_ins] at hs
    split at hs
    · cases hs; exact ip_ishr hq k
    · cases hs
  | ladd =>
    simp only [ip_ins] at hs
    split at hs
    · cases hs; exact ip_ladd hq k
    · cases hs
  | lsub =>
    simp only [ip_ins] at hs
    split at hs
    · cases hs; exact ip_lsub hq k
    · cases hs
  | lmul =>
    simp only [ip_ins] at hs
    split at hs
    · cases hs; exact ip_lmul hq k
    · cases hs
  | land =>
    simp only [ip_ins] at hs
    split at hs
    · cases hs; exact ip_land hq k
    · cases hs
  | lor =>
    simp only [ip_ins] at hs
    split at hs
    · cases hs; exact ip_lor hq k
    · cases hs
  | lxor =>
    simp only [ip_ins] at hs
    split at hs
    · cases hs; exact ip_lxor hq k
    · cases hs
  | lshl =>
    simp only [ip_ins] at hs
    split at hs
    · cases hs; exact ip_lshl hq k
    · cases hs
  | lshr =>
    simp only [ip_ins] at hs
    split at hs
    · cases hs; exact ip_lshr hq k
    · cases hs
  | lushr =>
    simp only [ip_ins] at hs
    split at hs
    · cases hs; exact ip_lushr hq k
    · cases hs
  | lcmp =>
    simp only [ip_ins] at hs
    split at hs
    · cases hs; exact ip_lcmp hq k
    · cases hs
  | ineg =>
    simp only [ip_ins] at hs
    split at hs
    · cases hs; exact ip_ineg hq k
    · cases hs
  | lneg =>
    simp only [ip_ins] at hs
    split at hs
    · cases hs; exact ip_lneg hq k
    · cases hs
  | i2l =>
    simp only [ip_ins] at hs
    split at hs
    · cases hs; exact ip_i2l hq k
    · cases hs
  | l2i =>
    simp only [ip_ins] at hs
    split at hs
    · cases hs; exact ip_l2i hq k
    · cases hs
  | i2b =>
    simp only [ip_ins] at hs
    split at hs
    · cases hs; exact ip_i2b hq k
    · cases hs
  | i2c =>
    simp only [ip_ins] at hs
    split at hs
    · cases hs; exact ip_i2c hq k
    · cases hs
  | iushr =>
    simp only [ip_ins] at hs
    split at hs
    · cases hs; exact ip_iushr hq rfl k
    · cases hs
  | dup =>
    simp only [ip_ins] at hs
    split at hs
    · next v st1 =>
      cases hb : Nat.beq v.category 1 with
      | true => rw [hb] at hs; cases hs; exact ip_dup hq (Nat.eq_of_beq_eq_true hb) k
      | false => rw [hb] at hs; cases hs
    · cases hs
  | pop =>
    simp only [ip_ins] at hs
    split at hs
    · next v st1 =>
      cases hb : Nat.beq v.category 1 with
      | true => rw [hb] at hs; cases hs; exact ip_pop hq (Nat.eq_of_beq_eq_true hb) k
      | false => rw [hb] at hs; cases hs
    · cases hs
  | dup_x1 =>
    simp only [ip_ins] at hs
    split at hs
    · next v w st1 =>
      cases hb : Nat.beq v.category 1 with
      | true =>
        cases hb2 : Nat.beq w.category 1 with
        | true => rw [hb, hb2] at hs; cases hs; exact ip_dup_x1 hq (Nat.eq_of_beq_eq_true hb) (Nat.eq_of_beq_eq_true hb2) k
        | false => rw [hb, hb2] at hs; cases hs
      | false => rw [hb] at hs; cases hs
    · cases hs
  | dup2 =>
    simp only [ip_ins] at hs
    split at hs
    · next v w st1 =>
      cases hb : Nat.beq v.category 1 with
      | true =>
        cases hb2 : Nat.beq w.category 1 with
        | true => rw [hb, hb2] at hs; cases hs; exact ip_dup2_11 hq (Nat.eq_of_beq_eq_true hb) (Nat.eq_of_beq_eq_true hb2) k
        | false => rw [hb, hb2] at hs; cases hs
      | false => rw [hb] at hs; cases hs
    · cases hs
  | goto off =>
    simp only [ip_ins] at hs
    split at hs
    · next t ht => cases hs; exact ip_goto hq ht k
    · cases hs
  | ifCond c off =>
    simp only [ip_ins] at hs
    split at hs
    · next x st1 =>
      split at hs
      · next t ht =>
        cases hb : ip_cnd c x with
        | true =>
          rw [hb] at hs
          cases hs
          cases c with
          | eq => exact ip_if_eq_t hq ht (of_decide_eq_true hb) k
          | ne => exact ip_if_ne_t hq ht (of_decide_eq_true hb) k
          | lt => exact ip_if_lt_t hq ht (of_decide_eq_true hb) k
          | ge => exact ip_if_ge_t hq ht (of_decide_eq_true hb) k
          | gt => exact ip_if_gt_t hq ht (of_decide_eq_true hb) k
          | le => exact ip_if_le_t hq ht (of_decide_eq_true hb) k
        | false =>
          rw [hb] at hs
          cases hs
          cases c with
          | eq => exact ip_if_eq_f hq ht (of_decide_eq_false hb) k
          | ne => exact ip_if_ne_f hq ht (Decidable.not_not.mp (of_decide_eq_false hb)) k
          | lt => exact ip_if_lt_f hq ht (of_decide_eq_false hb) k
          | ge => exact ip_if_ge_f hq ht (of_decide_eq_false hb) k
          | gt => exact ip_if_gt_f hq ht (of_decide_eq_false hb) k
          | le => exact ip_if_le_f hq ht (of_decide_eq_false hb) k
      · cases hs
    · cases hs
  | if_icmp c off =>
    simp only [ip_ins] at hs
    split at hs
    · next y x st1 =>
      split at hs
      · next t ht =>
        cases hb : ip_cmp c x y with
        | true =>
          rw [hb] at hs
          cases hs
          cases c with
          | eq => exact ip_icmp_eq_t hq ht (of_decide_eq_true hb) k
          | ne => exact ip_icmp_ne_t hq ht (of_decide_eq_true hb) k
          | lt => exact ip_icmp_lt_t hq ht (of_decide_eq_true hb) k
          | ge => exact ip_icmp_ge_t hq ht (of_decide_eq_true hb) k
          | gt => exact ip_icmp_gt_t hq ht (of_decide_eq_true hb) k
          | le => exact ip_icmp_le_t hq ht (of_decide_eq_true hb) k
        | false =>
          rw [hb] at hs
          cases hs
          cases c with
          | eq => exact ip_icmp_eq_f hq ht (of_decide_eq_false hb) k
          | ne => exact ip_icmp_ne_f hq ht (Decidable.not_not.mp (of_decide_eq_false hb)) k
          | lt => exact ip_icmp_lt_f hq ht (of_decide_eq_false hb) k
          | ge => exact ip_icmp_ge_f hq ht (of_decide_eq_false hb) k
          | gt => exact ip_icmp_gt_f hq ht (of_decide_eq_false hb) k
          | le => exact ip_icmp_le_f hq ht (of_decide_eq_false hb) k
      · cases hs
    · cases hs
  | getfield i =>
    simp only [ip_ins] at hs
    split at hs
    · next n st1 =>
      split at hs
      · next ci kk ty fin hl =>
        split at hs
        · next cj fs hh =>
          cases hb : Nat.beq ci cj with
          | true =>
            rw [hb] at hs
            have e : ci = cj := Nat.eq_of_beq_eq_true hb
            subst e
            simp only [cond_true] at hs
            split at hs
            · next v hv => cases hs; exact ip_getf hq (hV.2.1 _ (ip_lk_mem hl)).1 hh hv k
            · cases hs
          | false => rw [hb] at hs; cases hs
        · cases hs
      · cases hs
    · cases hs
  | putfield i =>
    simp only [ip_ins] at hs
    split at hs
    · next v n st1 =>
      split at hs
      · next ci kk ty fin hl =>
        split at hs
        · next cj fs hh =>
          cases hb : Nat.beq ci cj && fits ty v && (!fin || ini) with
          | true =>
            rw [hb] at hs
            simp only [cond_true] at hs
            simp only [Bool.and_eq_true] at hb
            obtain ⟨⟨b1, b3⟩, b4⟩ := hb
            have e : ci = cj := Nat.eq_of_beq_eq_true b1
            subst e
            split at hs
            · next fs1 hf =>
              split at hs
              · next h1 hh1 =>
                cases hs
                obtain ⟨e1, b2⟩ := ip_ls_eq hf
                subst e1
                rw [(ip_ls_eq hh1).1] at k
                have hF := hV.2.1 _ (ip_lk_mem hl)
                cases fin with
                | false => exact ip_putf hq hF.1 hh b2 b3 k
                | true =>
                  have hn : M.1.name = "<init>" := hini (by simpa using b4)
                  rcases hF.2 rfl with q | q
                  · exact ip_putF hq q hn hh b2 b3 k
                  · exact absurd hn q
              · cases hs
            · cases hs
          | false => rw [hb] at hs; cases hs
        · cases hs
      · cases hs
    · cases hs
  | new i =>
    simp only [ip_ins] at hs
    split at hs
    · next ci fs hl =>
      split at hs
      · next h1 hh1 => cases hs; rw [ip_pu_eq hh1] at k; exact ip_new hq (hV.2.2.1 _ (ip_lk_mem hl)) k
      · cases hs
    · cases hs
  | newarray a =>
    simp only [ip_ins] at hs
    split at hs
    · next n st1 =>
      split at hs
      · next ty hty =>
        cases hb : !(decide (n < 0)) && Nat.ble n.toNatClampNeg 67108864 with
        | true =>
          rw [hb] at hs
          simp only [cond_true] at hs
          split at hs
          case h_2 => cases hs
          next h1 hh1 =>
          cases hs
          rw [ip_pu_eq hh1] at k
          simp only [Bool.and_eq_true, Bool.not_eq_true', decide_eq_false_iff_not] at hb
          have hsz : n.toNatClampNeg * 8 ≤ 536870912 := by have := Nat.le_of_ble_eq_true hb.2; omega
          obtain ⟨w1, w2, w3, w4⟩ := hV.2.2.2.2.2
          cases a <;> first | (cases hty; done) | skip
          · cases hty; exact ip_newa .boolean rfl (Or.inr (Or.inr (Or.inl rfl))) hq w3 hb.1 rfl hsz k
          · cases hty; exact ip_newa .byte rfl (Or.inr (Or.inl rfl)) hq w2 hb.1 rfl hsz k
          · cases hty; exact ip_newa .int rfl (Or.inl rfl) hq w1 hb.1 rfl hsz k
          · cases hty; exact ip_newa .long rfl (Or.inr (Or.inr (Or.inr rfl))) hq w4 hb.1 rfl hsz k
        | false => rw [hb] at hs; cases hs
      · cases hs
    · cases hs
  | arraylength =>
    simp only [ip_ins] at hs
    split at hs
    · split at hs
      · next hh => cases hs; exact ip_alen hq hh rfl rfl k
      · next hh => cases hs; exact ip_alen hq hh rfl rfl k
      · next hh => cases hs; exact ip_alen hq hh rfl rfl k
      · next hh => cases hs; exact ip_alen hq hh rfl rfl k
      · cases hs
    · cases hs
  | iaload =>
    simp only [ip_ins] at hs
    split at hs
    · next i n st1 =>
      split at hs
      · next len f hh =>
        cases hb : ip_in i len with
        | true => rw [hb] at hs; cases hs; exact ip_iald hq hh (ip_in_ok hb) k
        | false => rw [hb] at hs; cases hs
      · cases hs
    · cases hs
  | baload =>
    simp only [ip_ins] at hs
    split at hs
    · next i n st1 =>
      split at hs
      · next len f hh =>
        cases hb : ip_in i len with
        | true => rw [hb] at hs; cases hs; exact ip_bald hq hh (ip_in_ok hb) k
        | false => rw [hb] at hs; cases hs
      · next len f hh =>
        cases hb : ip_in i len with
        | true => rw [hb] at hs; cases hs; exact ip_zald hq hh (ip_in_ok hb) k
        | false => rw [hb] at hs; cases hs
      · cases hs
    · cases hs
  | laload =>
    simp only [ip_ins] at hs
    split at hs
    · next i n st1 =>
      split at hs
      · next len f hh =>
        cases hb : ip_in i len with
        | true => rw [hb] at hs; cases hs; exact ip_lald hq hh (ip_in_ok hb) k
        | false => rw [hb] at hs; cases hs
      · cases hs
    · cases hs
  | iastore =>
    simp only [ip_ins] at hs
    split at hs
    · next x i n st1 =>
      split at hs
      · next len f hh =>
        cases hb : ip_in i len with
        | true =>
          rw [hb] at hs
          simp only [cond_true] at hs
          split at hs
          · next h1 hh1 => cases hs; rw [(ip_ls_eq hh1).1] at k; exact ip_iast hq hh (ip_in_ok hb) k
          · cases hs
        | false => rw [hb] at hs; cases hs
      · cases hs
    · cases hs
  | bastore =>
    simp only [ip_ins] at hs
    split at hs
    · next x i n st1 =>
      split at hs
      · next len f hh =>
        cases hb : ip_in i len with
        | true =>
          rw [hb] at hs
          simp only [cond_true] at hs
          split at hs
          · next h1 hh1 => cases hs; rw [(ip_ls_eq hh1).1] at k; exact ip_bast hq hh (ip_in_ok hb) k
          · cases hs
        | false => rw [hb] at hs; cases hs
      · next len f hh =>
        cases hb : ip_in i len with
        | true =>
          rw [hb] at hs
          simp only [cond_true] at hs
          split at hs
          · next h1 hh1 => cases hs; rw [(ip_ls_eq hh1).1] at k; exact ip_zast hq hh (ip_in_ok hb) k
          · cases hs
        | false => rw [hb] at hs; cases hs
      · cases hs
    · cases hs
  | lastore =>
    simp only [ip_ins] at hs
    split at hs
    · next x i n st1 =>
      split at hs
      · next len f hh =>
        cases hb : ip_in i len with
        | true =>
          rw [hb] at hs
          simp only [cond_true] at hs
          split at hs
          · next h1 hh1 => cases hs; rw [(ip_ls_eq hh1).1] at k; exact ip_last hq hh (ip_in_ok hb) k
          · cases hs
        | false => rw [hb] at hs; cases hs
      · cases hs
    · cases hs
  | _ => cases hs
theorem ip_stp_ok {l : Launch} {G : ip_G} {M : ip_M} {d : Nat} {σ σ' : ip_K} {r : Option Value × ip_H} {V : ip_V} {ini : Bool} (hV : ip_okV (ip_T G) (ip_C G) M V) (hini : ini = true → M.1.name = "<init>")
    (hs : ip_stp V M.2.2.1 ini σ = some σ') (k : ip_Rn l G M d σ'.1 σ'.2.1 σ'.2.2.1 σ'.2.2.2 r) : ip_Rn l G M d σ.1 σ.2.1 σ.2.2.1 σ.2.2.2 r := by
  obtain ⟨a1, a2, a3, a4⟩ := σ
  obtain ⟨b1, b2, b3, b4⟩ := σ'
  unfold ip_stp at hs
  split at hs
  · next i hi =>
    have hq := hV.1 _ (ip_lk_mem hi)
    exact ip_ins_ok (pc := a1) (pc' := b1) (L := a2) (L' := b2) (st := a3) (st' := b3) (h := a4) (h' := b4) hV hini hq hs k
  · cases hs
theorem ip_sts_ok {l : Launch} {G : ip_G} {M : ip_M} {d : Nat} {r : Option Value × ip_H} {V : ip_V} {ini : Bool} (hV : ip_okV (ip_T G) (ip_C G) M V) (hini : ini = true → M.1.name = "<init>") : ∀ (n : Nat) {σ σ' : ip_K}, ip_sts V M.2.2.1 ini n σ = some σ' → ip_Rn l G M d σ'.1 σ'.2.1 σ'.2.2.1 σ'.2.2.2 r → ip_Rn l G M d σ.1 σ.2.1 σ.2.2.1 σ.2.2.2 r
  | 0, σ, σ', hs, k => by cases hs; exact k
  | n + 1, σ, σ', hs, k => by
    unfold ip_sts at hs
    split at hs
    · next σ1 h1 => exact ip_stp_ok hV hini h1 (ip_sts_ok hV hini n hs k)
    · cases hs
end
