def oRow1 : Nat → Int32 := fun j => ([1, 2, 3, 4, 5, 6, 6, 7, 7, 7, 7, 8, 8, 9, 9, 10, 10, 10] : List Int32).getD j 0
def oRow2 : Nat → Int32 := fun j => ([0, 0, 0, 0, 0, 1, 0, 1, 0, 0, 1, 0, 2, 1, 1, 1, 1, 0, 0, 2, 0, 0, 0, 0, 0, 0, 1, 1, 0, 1, 0, 1, 1, 2, 1, 1, 1, 3, 2, 2, 2, 2, 2, 2, 2, 2, 2, 2, 2, 2, 2, 2, 2, 2, 2, 2] : List Int32).getD j 0
def oTx0 : Nat → Int32 := fun j => ([105, 110, 112, 117, 116, 32, 111, 102, 32, 118, 97, 114, 32, 100, 101, 102, 32, 102, 111, 114, 32, 116, 111, 32, 105, 102, 32, 101, 108, 115, 101, 32, 111, 117, 116, 112, 117, 116, 32, 105, 110, 116, 32, 98, 105, 116, 32, 116, 114, 117, 101, 32, 102, 97, 108, 115, 101, 32] : List Int32).getD j 0
def oTx1 : Nat → Int32 := fun j => ([105, 110, 112, 117, 116] : List Int32).getD j 0
def oTx2 : Nat → Int32 := fun j => ([111, 102] : List Int32).getD j 0
def oTx3 : Nat → Int32 := fun j => ([118, 97, 114] : List Int32).getD j 0
def oTx4 : Nat → Int32 := fun j => ([100, 101, 102] : List Int32).getD j 0
def oTx5 : Nat → Int32 := fun j => ([102, 111, 114] : List Int32).getD j 0
def oTx6 : Nat → Int32 := fun j => ([116, 111] : List Int32).getD j 0
def oTx7 : Nat → Int32 := fun j => ([105, 102] : List Int32).getD j 0
def oTx8 : Nat → Int32 := fun j => ([101, 108, 115, 101] : List Int32).getD j 0
def oTx9 : Nat → Int32 := fun j => ([111, 117, 116, 112, 117, 116] : List Int32).getD j 0
def oTx10 : Nat → Int32 := fun j => ([105, 110, 116] : List Int32).getD j 0
def oTx11 : Nat → Int32 := fun j => ([98, 105, 116] : List Int32).getD j 0
def oTx12 : Nat → Int32 := fun j => ([116, 114, 117, 101] : List Int32).getD j 0
def oTx13 : Nat → Int32 := fun j => ([102, 97, 108, 115, 101] : List Int32).getD j 0
def ip_str (G : ip_G) (k N : Nat) (f : Nat → Int32) : Prop := ∀ U : State, ip_X G U → va_O "java/lang/String" (ip_O G (3 + k)) (ip_Ab G) U U.heap ∧ va_OF "java/lang/String" "coder" "B" (.int 0) (ip_O G (3 + k)) (ip_Ab G) U U.heap ∧ va_OF "java/lang/String" "value" "[B" (.ref (ip_O G (17 + k))) (ip_O G (3 + k)) (ip_Ab G) U U.heap ∧ va_T .byte (ip_O G (17 + k)) N (fun j => .int (f j)) (ip_Ab G) U U.heap
def ip_old (G : ip_G) : Prop := (∀ U : State, ip_X G U → va_Z "ShareHouse$Code" "RANKS" "[I" (.ref (ip_O G 1)) (ip_Ab G) U U.heap ∧ va_T .int (ip_O G 1) 18 (fun j => .int (oRow1 j)) (ip_Ab G) U U.heap) ∧ (∀ U : State, ip_X G U → va_Z "ShareHouse$Builder" "TAKES" "[I" (.ref (ip_O G 2)) (ip_Ab G) U U.heap ∧ va_T .int (ip_O G 2) 56 (fun j => .int (oRow2 j)) (ip_Ab G) U U.heap) ∧ (∀ U : State, ip_X G U → va_Z "java/lang/String" "COMPACT_STRINGS" "Z" (.int 1) (ip_Ab G) U U.heap) ∧ (∃ sv : Value, (sv = .null ∨ sv = .ref 31) ∧ ∀ U : State, ip_X G U → va_Z "jdk/internal/util/Preconditions" "SIOOBE_FORMATTER" "Ljava/util/function/BiFunction;" (ip_v G sv) (ip_Ab G) U U.heap) ∧ ((∀ U : State, ip_X G U → vk_R "ShareHouse$Words" 55 "input of var def for to if else output int bit true false " (ip_O G 3) U) ∧ ip_str G 0 58 oTx0) ∧ ((∀ U : State, ip_X G U → vk_R "ShareHouseModel" 353 "input" (ip_O G 4) U) ∧ ip_str G 1 5 oTx1) ∧ ((∀ U : State, ip_X G U → vk_R "ShareHouseModel" 359 "of" (ip_O G 5) U) ∧ ip_str G 2 2 oTx2) ∧ ((∀ U : State, ip_X G U → vk_R "ShareHouseModel" 361 "var" (ip_O G 6) U) ∧ ip_str G 3 3 oTx3) ∧ ((∀ U : State, ip_X G U → vk_R "ShareHouseModel" 363 "def" (ip_O G 7) U) ∧ ip_str G 4 3 oTx4) ∧ ((∀ U : State, ip_X G U → vk_R "ShareHouseModel" 365 "for" (ip_O G 8) U) ∧ ip_str G 5 3 oTx5) ∧ ((∀ U : State, ip_X G U → vk_R "ShareHouseModel" 367 "to" (ip_O G 9) U) ∧ ip_str G 6 2 oTx6) ∧ ((∀ U : State, ip_X G U → vk_R "ShareHouseModel" 369 "if" (ip_O G 10) U) ∧ ip_str G 7 2 oTx7) ∧ ((∀ U : State, ip_X G U → vk_R "ShareHouseModel" 371 "else" (ip_O G 11) U) ∧ ip_str G 8 4 oTx8) ∧ ((∀ U : State, ip_X G U → vk_R "ShareHouseModel" 373 "output" (ip_O G 12) U) ∧ ip_str G 9 6 oTx9) ∧ ((∀ U : State, ip_X G U → vk_R "ShareHouseModel" 375 "int" (ip_O G 13) U) ∧ ip_str G 10 3 oTx10) ∧ ((∀ U : State, ip_X G U → vk_R "ShareHouseModel" 377 "bit" (ip_O G 14) U) ∧ ip_str G 11 3 oTx11) ∧ ((∀ U : State, ip_X G U → vk_R "ShareHouseModel" 379 "true" (ip_O G 15) U) ∧ ip_str G 12 4 oTx12) ∧ ((∀ U : State, ip_X G U → vk_R "ShareHouseModel" 381 "false" (ip_O G 16) U) ∧ ip_str G 13 5 oTx13)
def M_String_length : ip_M := (⟨"java/lang/String", "length", "()I"⟩, prog_17_method_54_code, 1, (some .int))
theorem oM_String_length : ip_okM lg_tbl M_String_length := ⟨by decide +kernel, ⟨by decide +kernel, by decide +kernel⟩, by decide, tt_3 _ (List.mem_of_getElem? (i := 198) rfl) rfl, tt_1 _ (List.mem_of_getElem? (i := 17) rfl) rfl⟩
def V_String_length : ip_V := ([(0, .aload_n 0), (1, .getfield 9), (4, .arraylength), (5, .aload_n 0), (6, .invokevirtual 335), (9, .ishr), (10, .ireturn)], [], [], [], [])
set_option maxRecDepth 100000 in
theorem oV_String_length : ip_okV lg_tbl vwCl M_String_length V_String_length := ⟨by decide +kernel, List.forall_mem_nil _, List.forall_mem_nil _, List.forall_mem_nil _, List.forall_mem_nil _, fA4⟩
def M_String_coder : ip_M := (⟨"java/lang/String", "coder", "()B"⟩, prog_17_method_152_code, 1, (some .byte))
theorem oM_String_coder : ip_okM lg_tbl M_String_coder := ⟨by decide +kernel, ⟨by decide +kernel, by decide +kernel⟩, by decide, tt_3 _ (List.mem_of_getElem? (i := 202) rfl) rfl, tt_1 _ (List.mem_of_getElem? (i := 17) rfl) rfl⟩
def V_String_coder : ip_V := ([(0, .getstatic 38), (3, .ifCond .eq 10), (6, .aload_n 0), (7, .getfield 15), (10, .goto 4), (13, .iconst 1), (14, .ireturn)], [], [], [], [])
set_option maxRecDepth 100000 in
theorem oV_String_coder : ip_okV lg_tbl vwCl M_String_coder V_String_coder := ⟨by decide +kernel, List.forall_mem_nil _, List.forall_mem_nil _, List.forall_mem_nil _, List.forall_mem_nil _, fA4⟩
def M_String_charAt : ip_M := (⟨"java/lang/String", "charAt", "(I)C"⟩, prog_17_method_56_code, 2, (some .char))
theorem oM_String_charAt : ip_okM lg_tbl M_String_charAt := ⟨by decide +kernel, ⟨by decide +kernel, by decide +kernel⟩, by decide, tt_3 _ (List.mem_of_getElem? (i := 208) rfl) rfl, tt_1 _ (List.mem_of_getElem? (i := 17) rfl) rfl⟩
def V_String_charAt : ip_V := ([(0, .aload_n 0), (1, .invokevirtual 492), (4, .ifCond .eq 12), (7, .aload_n 0), (8, .getfield 9), (11, .iload_n 1), (12, .invokestatic 495), (15, .ireturn), (16, .aload_n 0), (17, .getfield 9), (20, .iload_n 1), (21, .invokestatic 498), (24, .ireturn)], [], [], [], [])
set_option maxRecDepth 100000 in
theorem oV_String_charAt : ip_okV lg_tbl vwCl M_String_charAt V_String_charAt := ⟨by decide +kernel, List.forall_mem_nil _, List.forall_mem_nil _, List.forall_mem_nil _, List.forall_mem_nil _, fA4⟩
def M_String_isLatin1 : ip_M := (⟨"java/lang/String", "isLatin1", "()Z"⟩, prog_17_method_154_code, 1, (some .boolean))
theorem oM_String_isLatin1 : ip_okM lg_tbl M_String_isLatin1 := ⟨by decide +kernel, ⟨by decide +kernel, by decide +kernel⟩, by decide, tt_3 _ (List.mem_of_getElem? (i := 212) rfl) rfl, tt_1 _ (List.mem_of_getElem? (i := 17) rfl) rfl⟩
def V_String_isLatin1 : ip_V := ([(0, .getstatic 38), (3, .ifCond .eq 14), (6, .aload_n 0), (7, .getfield 15), (10, .ifCond .ne 7), (13, .iconst 1), (14, .goto 4), (17, .iconst 0), (18, .ireturn)], [], [], [], [])
set_option maxRecDepth 100000 in
theorem oV_String_isLatin1 : ip_okV lg_tbl vwCl M_String_isLatin1 V_String_isLatin1 := ⟨by decide +kernel, List.forall_mem_nil _, List.forall_mem_nil _, List.forall_mem_nil _, List.forall_mem_nil _, fA4⟩
def M_StringLatin1_charAt : ip_M := (⟨"java/lang/StringLatin1", "charAt", "([BI)C"⟩, prog_18_method_2_code, 2, (some .char))
theorem oM_StringLatin1_charAt : ip_okM lg_tbl M_StringLatin1_charAt := ⟨by decide +kernel, ⟨by decide +kernel, by decide +kernel⟩, by decide, tt_3 _ (List.mem_of_getElem? (i := 215) rfl) rfl, tt_1 _ (List.mem_of_getElem? (i := 18) rfl) rfl⟩
def V_StringLatin1_charAt : ip_V := ([(0, .iload_n 1), (1, .aload_n 0), (2, .arraylength), (3, .invokestatic 9), (6, .aload_n 0), (7, .iload_n 1), (8, .baload), (9, .sipush 255), (12, .iand), (13, .i2c), (14, .ireturn)], [], [], [], [])
set_option maxRecDepth 100000 in
theorem oV_StringLatin1_charAt : ip_okV lg_tbl vwCl M_StringLatin1_charAt V_StringLatin1_charAt := ⟨by decide +kernel, List.forall_mem_nil _, List.forall_mem_nil _, List.forall_mem_nil _, List.forall_mem_nil _, fA4⟩
def M_String_checkIndex : ip_M := (⟨"java/lang/String", "checkIndex", "(II)V"⟩, prog_17_method_155_code, 2, none)
theorem oM_String_checkIndex : ip_okM lg_tbl M_String_checkIndex := ⟨by decide +kernel, ⟨by decide +kernel, by decide +kernel⟩, by decide, tt_3 _ (List.mem_of_getElem? (i := 218) rfl) rfl, tt_1 _ (List.mem_of_getElem? (i := 17) rfl) rfl⟩
def V_String_checkIndex : ip_V := ([(0, .iload_n 0), (1, .iload_n 1), (2, .getstatic 1053), (5, .invokestatic 1059), (8, .pop), (9, .return_)], [], [], [], [])
set_option maxRecDepth 100000 in
theorem oV_String_checkIndex : ip_okV lg_tbl vwCl M_String_checkIndex V_String_checkIndex := ⟨by decide +kernel, List.forall_mem_nil _, List.forall_mem_nil _, List.forall_mem_nil _, List.forall_mem_nil _, fA4⟩
def M_Preconditions_checkIndex : ip_M := (⟨"jdk/internal/util/Preconditions", "checkIndex", "(IILjava/util/function/BiFunction;)I"⟩, prog_22_method_11_code, 3, (some .int))
theorem oM_Preconditions_checkIndex : ip_okM lg_tbl M_Preconditions_checkIndex := ⟨by decide +kernel, ⟨by decide +kernel, by decide +kernel⟩, by decide, tt_3 _ (List.mem_of_getElem? (i := 223) rfl) rfl, tt_1 _ (List.mem_of_getElem? (i := 19) rfl) rfl⟩
def V_Preconditions_checkIndex : ip_V := ([(0, .iload_n 0), (1, .ifCond .lt 8), (4, .iload_n 0), (5, .iload_n 1), (6, .if_icmp .lt 10), (9, .aload_n 2), (10, .iload_n 0), (11, .iload_n 1), (12, .invokestatic 95), (15, .athrow), (16, .iload_n 0), (17, .ireturn)], [], [], [], [])
set_option maxRecDepth 100000 in
theorem oV_Preconditions_checkIndex : ip_okV lg_tbl vwCl M_Preconditions_checkIndex V_Preconditions_checkIndex := ⟨by decide +kernel, List.forall_mem_nil _, List.forall_mem_nil _, List.forall_mem_nil _, List.forall_mem_nil _, fA4⟩
theorem s_coder {l : Launch} {Gr : zG} {k N : Nat} {f : Nat → Int32} {h : ip_H} (d : Nat) (hk : k < 14) (hc : ∀ U : State, ip_X (lg_tbl, vwCl, Gr) U → va_Z "java/lang/String" "COMPACT_STRINGS" "Z" (.int 1) (ip_Ab (lg_tbl, vwCl, Gr)) U U.heap) (hs : ip_str (lg_tbl, vwCl, Gr) k N f) : ip_RnM l (lg_tbl, vwCl, Gr) M_String_coder d [.ref (3 + k)] h (some (.int 0), h) := by
  refine ip_ofRn (G := (lg_tbl, vwCl, Gr)) oM_String_coder ⟨rfl, by decide⟩ (Nat.le_of_ble_eq_true rfl) ?_
  show ip_Rn l _ _ d 0 [some (.ref (3 + k))] [] _ _
  refine ip_gets (G := (lg_tbl, vwCl, Gr)) (v := .int 1) (oV_String_coder.1 (0, .getstatic 38) (ip_lk_mem rfl)) hc (tt_3 _ (List.mem_of_getElem? (i := 203) rfl) rfl) ?_
  refine ip_if_eq_f (G := (lg_tbl, vwCl, Gr)) (tgt := 13) (oV_String_coder.1 (3, .ifCond .eq 10) (ip_lk_mem rfl)) (by decide) (by decide) ?_
  refine ip_go (G := (lg_tbl, vwCl, Gr)) (ini := false) oV_String_coder (fun q => Bool.noConfusion q) 1 (pc' := 7) (L' := [some (.ref (3 + k))]) (st' := [.ref (3 + k)]) (h' := _) rfl ?_
  refine ip_ogetf (G := (lg_tbl, vwCl, Gr)) (v := .int 0) (oV_String_coder.1 (7, .getfield 15) (ip_lk_mem rfl)) (by omega) (fun U q => (hs U q).2.1) (tt_11 _ (List.mem_of_getElem? (i := 85) rfl) rfl) ?_
  refine ip_go (G := (lg_tbl, vwCl, Gr)) (ini := false) oV_String_coder (fun q => Bool.noConfusion q) 1 (pc' := 14) (L' := [some (.ref (3 + k))]) (st' := [.int 0]) (h' := _) rfl ?_
  exact ip_ret (G := (lg_tbl, vwCl, Gr)) (v := some (.int 0)) (oV_String_coder.1 (14, .ireturn) (ip_lk_mem rfl))
theorem s_length {l : Launch} {Gr : zG} {k N : Nat} {f : Nat → Int32} {h : ip_H} (d : Nat) (hk : k < 14) (hc : ∀ U : State, ip_X (lg_tbl, vwCl, Gr) U → va_Z "java/lang/String" "COMPACT_STRINGS" "Z" (.int 1) (ip_Ab (lg_tbl, vwCl, Gr)) U U.heap) (hs : ip_str (lg_tbl, vwCl, Gr) k N f) (hmv : ip_mv (lg_tbl, vwCl, Gr)) (hN : N < 2 ^ 31) : ip_RnM l (lg_tbl, vwCl, Gr) M_String_length (d + 1) [.ref (3 + k)] h (some (.int (nI N)), h) := by
  refine ip_ofRn (G := (lg_tbl, vwCl, Gr)) oM_String_length ⟨rfl, by decide⟩ (Nat.le_of_ble_eq_true rfl) ?_
  show ip_Rn l _ _ (d + 1) 0 [some (.ref (3 + k))] [] _ _
  refine ip_go (G := (lg_tbl, vwCl, Gr)) (ini := false) oV_String_length (fun q => Bool.noConfusion q) 1 (pc' := 1) (L' := [some (.ref (3 + k))]) (st' := [.ref (3 + k)]) (h' := _) rfl ?_
  refine ip_ogetf (G := (lg_tbl, vwCl, Gr)) (v := .ref (17 + k)) (oV_String_length.1 (1, .getfield 9) (ip_lk_mem rfl)) (by omega) (fun U q => by rw [ip_oref (by omega)]; exact (hs U q).2.2.1) (tt_11 _ (List.mem_of_getElem? (i := 84) rfl) rfl) ?_
  refine ip_tlen (G := (lg_tbl, vwCl, Gr)) (oV_String_length.1 (4, .arraylength) (ip_lk_mem rfl)) (by omega) (fun U q => (hs U q).2.2.2) ?_
  refine ip_go (G := (lg_tbl, vwCl, Gr)) (ini := false) oV_String_length (fun q => Bool.noConfusion q) 1 (pc' := 6) (L' := [some (.ref (3 + k))]) (st' := [.ref (3 + k), .int (nI N)]) (h' := _) rfl ?_
  refine ip_callVO (G := (lg_tbl, vwCl, Gr)) hmv fT oM_String_coder (oV_String_length.1 (6, .invokevirtual 335) (ip_lk_mem rfl)) ⟨tt_3 _ (List.mem_of_getElem? (i := 199) rfl) rfl, tt_3 _ (List.mem_of_getElem? (i := 200) rfl) rfl, tt_3 _ (List.mem_of_getElem? (i := 201) rfl) rfl⟩ (As := []) rfl (by omega) (fun U q => (hs U q).1) (Nat.le_of_ble_eq_true rfl) (s_coder d hk hc hs) ?_
  refine ip_go (G := (lg_tbl, vwCl, Gr)) (ini := false) oV_String_length (fun q => Bool.noConfusion q) 1 (pc' := 10) (L' := [some (.ref (3 + k))]) (st' := [.int (nI N >>> ((0 : Int32) &&& 31))]) (h' := _) rfl ?_
  rw [show nI N >>> ((0 : Int32) &&& 31) = nI N from by rw [pk_shrN hN _ 0 (by decide)]; rw [Nat.pow_zero, Nat.div_one]]
  exact ip_ret (G := (lg_tbl, vwCl, Gr)) (v := some (.int (nI N))) (oV_String_length.1 (10, .ireturn) (ip_lk_mem rfl))
theorem s_isLatin1 {l : Launch} {Gr : zG} {k N : Nat} {f : Nat → Int32} {h : ip_H} (d : Nat) (hk : k < 14) (hc : ∀ U : State, ip_X (lg_tbl, vwCl, Gr) U → va_Z "java/lang/String" "COMPACT_STRINGS" "Z" (.int 1) (ip_Ab (lg_tbl, vwCl, Gr)) U U.heap) (hs : ip_str (lg_tbl, vwCl, Gr) k N f) : ip_RnM l (lg_tbl, vwCl, Gr) M_String_isLatin1 d [.ref (3 + k)] h (some (.int 1), h) := by
  refine ip_ofRn (G := (lg_tbl, vwCl, Gr)) oM_String_isLatin1 ⟨rfl, by decide⟩ (Nat.le_of_ble_eq_true rfl) ?_
  show ip_Rn l _ _ d 0 [some (.ref (3 + k))] [] _ _
  refine ip_gets (G := (lg_tbl, vwCl, Gr)) (v := .int 1) (oV_String_isLatin1.1 (0, .getstatic 38) (ip_lk_mem rfl)) hc (tt_3 _ (List.mem_of_getElem? (i := 203) rfl) rfl) ?_
  refine ip_if_eq_f (G := (lg_tbl, vwCl, Gr)) (tgt := 17) (oV_String_isLatin1.1 (3, .ifCond .eq 14) (ip_lk_mem rfl)) (by decide) (by decide) ?_
  refine ip_go (G := (lg_tbl, vwCl, Gr)) (ini := false) oV_String_isLatin1 (fun q => Bool.noConfusion q) 1 (pc' := 7) (L' := [some (.ref (3 + k))]) (st' := [.ref (3 + k)]) (h' := _) rfl ?_
  refine ip_ogetf (G := (lg_tbl, vwCl, Gr)) (v := .int 0) (oV_String_isLatin1.1 (7, .getfield 15) (ip_lk_mem rfl)) (by omega) (fun U q => (hs U q).2.1) (tt_11 _ (List.mem_of_getElem? (i := 85) rfl) rfl) ?_
  refine ip_if_ne_f (G := (lg_tbl, vwCl, Gr)) (tgt := 17) (oV_String_isLatin1.1 (10, .ifCond .ne 7) (ip_lk_mem rfl)) (by decide) rfl ?_
  refine ip_go (G := (lg_tbl, vwCl, Gr)) (ini := false) oV_String_isLatin1 (fun q => Bool.noConfusion q) 2 (pc' := 18) (L' := [some (.ref (3 + k))]) (st' := [.int 1]) (h' := _) rfl ?_
  exact ip_ret (G := (lg_tbl, vwCl, Gr)) (v := some (.int 1)) (oV_String_isLatin1.1 (18, .ireturn) (ip_lk_mem rfl))
theorem s_pre {l : Launch} {Gr : zG} {h : ip_H} (d : Nat) {i m : Int32} {sv : Value} (hsv : sv = .null ∨ sv = .ref 31) (h0 : ¬ i < 0) (h1 : i < m) : ip_RnM l (lg_tbl, vwCl, Gr) M_Preconditions_checkIndex d [.int i, .int m, sv] h (some (.int i), h) := by
  rcases hsv with rfl | rfl
  · refine ip_ofRn (G := (lg_tbl, vwCl, Gr)) oM_Preconditions_checkIndex ⟨rfl, by decide⟩ (Nat.le_of_ble_eq_true rfl) ?_
    show ip_Rn l _ _ d 0 [some (.int i), some (.int m), some .null] [] _ _
    refine ip_go (G := (lg_tbl, vwCl, Gr)) (ini := false) oV_Preconditions_checkIndex (fun q => Bool.noConfusion q) 1 (pc' := 1) (L' := [some (.int i), some (.int m), some .null]) (st' := [.int i]) (h' := _) rfl ?_
    refine ip_if_lt_f (G := (lg_tbl, vwCl, Gr)) (tgt := 9) (oV_Preconditions_checkIndex.1 (1, .ifCond .lt 8) (ip_lk_mem rfl)) (by decide) h0 ?_
    refine ip_go (G := (lg_tbl, vwCl, Gr)) (ini := false) oV_Preconditions_checkIndex (fun q => Bool.noConfusion q) 2 (pc' := 6) (L' := [some (.int i), some (.int m), some .null]) (st' := [.int m, .int i]) (h' := _) rfl ?_
    refine ip_icmp_lt_t (G := (lg_tbl, vwCl, Gr)) (tgt := 16) (oV_Preconditions_checkIndex.1 (6, .if_icmp .lt 10) (ip_lk_mem rfl)) (by decide) h1 ?_
    refine ip_go (G := (lg_tbl, vwCl, Gr)) (ini := false) oV_Preconditions_checkIndex (fun q => Bool.noConfusion q) 1 (pc' := 17) (L' := [some (.int i), some (.int m), some .null]) (st' := [.int i]) (h' := _) rfl ?_
    exact ip_ret (G := (lg_tbl, vwCl, Gr)) (v := some (.int i)) (oV_Preconditions_checkIndex.1 (17, .ireturn) (ip_lk_mem rfl))
  · refine ip_ofRn (G := (lg_tbl, vwCl, Gr)) oM_Preconditions_checkIndex ⟨rfl, by decide⟩ (Nat.le_of_ble_eq_true rfl) ?_
    show ip_Rn l _ _ d 0 [some (.int i), some (.int m), some (.ref 31)] [] _ _
    refine ip_go (G := (lg_tbl, vwCl, Gr)) (ini := false) oV_Preconditions_checkIndex (fun q => Bool.noConfusion q) 1 (pc' := 1) (L' := [some (.int i), some (.int m), some (.ref 31)]) (st' := [.int i]) (h' := _) rfl ?_
    refine ip_if_lt_f (G := (lg_tbl, vwCl, Gr)) (tgt := 9) (oV_Preconditions_checkIndex.1 (1, .ifCond .lt 8) (ip_lk_mem rfl)) (by decide) h0 ?_
    refine ip_go (G := (lg_tbl, vwCl, Gr)) (ini := false) oV_Preconditions_checkIndex (fun q => Bool.noConfusion q) 2 (pc' := 6) (L' := [some (.int i), some (.int m), some (.ref 31)]) (st' := [.int m, .int i]) (h' := _) rfl ?_
    refine ip_icmp_lt_t (G := (lg_tbl, vwCl, Gr)) (tgt := 16) (oV_Preconditions_checkIndex.1 (6, .if_icmp .lt 10) (ip_lk_mem rfl)) (by decide) h1 ?_
    refine ip_go (G := (lg_tbl, vwCl, Gr)) (ini := false) oV_Preconditions_checkIndex (fun q => Bool.noConfusion q) 1 (pc' := 17) (L' := [some (.int i), some (.int m), some (.ref 31)]) (st' := [.int i]) (h' := _) rfl ?_
    exact ip_ret (G := (lg_tbl, vwCl, Gr)) (v := some (.int i)) (oV_Preconditions_checkIndex.1 (17, .ireturn) (ip_lk_mem rfl))
theorem s_check {l : Launch} {Gr : zG} {h : ip_H} (d : Nat) (hmv : ip_mv (lg_tbl, vwCl, Gr)) {i m : Int32} {sv : Value} (hsv : sv = .null ∨ sv = .ref 31) (hz : ∀ U : State, ip_X (lg_tbl, vwCl, Gr) U → va_Z "jdk/internal/util/Preconditions" "SIOOBE_FORMATTER" "Ljava/util/function/BiFunction;" (ip_v (lg_tbl, vwCl, Gr) sv) (ip_Ab (lg_tbl, vwCl, Gr)) U U.heap) (h0 : ¬ i < 0) (h1 : i < m) : ip_RnM l (lg_tbl, vwCl, Gr) M_String_checkIndex (d + 1) [.int i, .int m] h (none, h) := by
  refine ip_ofRn (G := (lg_tbl, vwCl, Gr)) oM_String_checkIndex trivial (Nat.le_of_ble_eq_true rfl) ?_
  show ip_Rn l _ _ (d + 1) 0 [some (.int i), some (.int m)] [] _ _
  refine ip_go (G := (lg_tbl, vwCl, Gr)) (ini := false) oV_String_checkIndex (fun q => Bool.noConfusion q) 2 (pc' := 2) (L' := [some (.int i), some (.int m)]) (st' := [.int m, .int i]) (h' := _) rfl ?_
  refine ip_gets (G := (lg_tbl, vwCl, Gr)) (v := sv) (oV_String_checkIndex.1 (2, .getstatic 1053) (ip_lk_mem rfl)) hz (tt_3 _ (List.mem_of_getElem? (i := 219) rfl) rfl) ?_
  refine ip_callS (G := (lg_tbl, vwCl, Gr)) hmv fT oM_Preconditions_checkIndex (oV_String_checkIndex.1 (5, .invokestatic 1059) (ip_lk_mem rfl)) ⟨tt_3 _ (List.mem_of_getElem? (i := 221) rfl) rfl, tt_3 _ (List.mem_of_getElem? (i := 222) rfl) rfl⟩ (As := [.int i, .int m, sv]) rfl (Nat.le_of_ble_eq_true rfl) (s_pre d hsv h0 h1) ?_
  refine ip_go (G := (lg_tbl, vwCl, Gr)) (ini := false) oV_String_checkIndex (fun q => Bool.noConfusion q) 1 (pc' := 9) (L' := [some (.int i), some (.int m)]) (st' := []) (h' := _) rfl ?_
  exact ip_ret (G := (lg_tbl, vwCl, Gr)) (v := none) (oV_String_checkIndex.1 (9, .return_) (ip_lk_mem rfl))
theorem s_lat {l : Launch} {Gr : zG} {k N : Nat} {f : Nat → Int32} {h : ip_H} (d : Nat) (hk : k < 14) (hc : ∀ U : State, ip_X (lg_tbl, vwCl, Gr) U → va_Z "java/lang/String" "COMPACT_STRINGS" "Z" (.int 1) (ip_Ab (lg_tbl, vwCl, Gr)) U U.heap) (hs : ip_str (lg_tbl, vwCl, Gr) k N f) (hmv : ip_mv (lg_tbl, vwCl, Gr)) (hN : N < 2 ^ 31) {sv : Value} (hsv : sv = .null ∨ sv = .ref 31) (hz : ∀ U : State, ip_X (lg_tbl, vwCl, Gr) U → va_Z "jdk/internal/util/Preconditions" "SIOOBE_FORMATTER" "Ljava/util/function/BiFunction;" (ip_v (lg_tbl, vwCl, Gr) sv) (ip_Ab (lg_tbl, vwCl, Gr)) U U.heap) {i : Nat} (hi : i < N) : ip_RnM l (lg_tbl, vwCl, Gr) M_StringLatin1_charAt (d + 2) [.ref (17 + k), .int (nI i)] h (some (.int (((f i &&& 255)).toUInt32 % 65536).toInt32), h) := by
  refine ip_ofRn (G := (lg_tbl, vwCl, Gr)) oM_StringLatin1_charAt ⟨pk_nc _, by decide⟩ (Nat.le_of_ble_eq_true rfl) ?_
  show ip_Rn l _ _ (d + 2) 0 [some (.ref (17 + k)), some (.int (nI i))] [] _ _
  refine ip_go (G := (lg_tbl, vwCl, Gr)) (ini := false) oV_StringLatin1_charAt (fun q => Bool.noConfusion q) 2 (pc' := 2) (L' := [some (.ref (17 + k)), some (.int (nI i))]) (st' := [.ref (17 + k), .int (nI i)]) (h' := _) rfl ?_
  refine ip_tlen (G := (lg_tbl, vwCl, Gr)) (oV_StringLatin1_charAt.1 (2, .arraylength) (ip_lk_mem rfl)) (by omega) (fun U q => (hs U q).2.2.2) ?_
  refine ip_callS (G := (lg_tbl, vwCl, Gr)) hmv fT oM_String_checkIndex (oV_StringLatin1_charAt.1 (3, .invokestatic 9) (ip_lk_mem rfl)) ⟨tt_3 _ (List.mem_of_getElem? (i := 216) rfl) rfl, tt_3 _ (List.mem_of_getElem? (i := 217) rfl) rfl⟩ (As := [.int (nI i), .int (nI N)]) rfl (Nat.le_of_ble_eq_true rfl) (s_check d hmv hsv hz (nI_pos (by omega)) (nI_lt hi hN)) ?_
  refine ip_go (G := (lg_tbl, vwCl, Gr)) (ini := false) oV_StringLatin1_charAt (fun q => Bool.noConfusion q) 2 (pc' := 8) (L' := [some (.ref (17 + k)), some (.int (nI i))]) (st' := [.int (nI i), .ref (17 + k)]) (h' := _) rfl ?_
  refine ip_tb (G := (lg_tbl, vwCl, Gr)) (oV_StringLatin1_charAt.1 (8, .baload) (ip_lk_mem rfl)) (by omega) (fun U q => (hs U q).2.2.2) (vp_in_nI hi hN) ?_
  rw [nI_clamp (by omega)]
  refine ip_go (G := (lg_tbl, vwCl, Gr)) (ini := false) oV_StringLatin1_charAt (fun q => Bool.noConfusion q) 3 (pc' := 14) (L' := [some (.ref (17 + k)), some (.int (nI i))]) (st' := [.int (((f i &&& 255)).toUInt32 % 65536).toInt32]) (h' := _) rfl ?_
  exact ip_ret (G := (lg_tbl, vwCl, Gr)) (v := some (.int (((f i &&& 255)).toUInt32 % 65536).toInt32)) (oV_StringLatin1_charAt.1 (14, .ireturn) (ip_lk_mem rfl))
theorem s_charAt {l : Launch} {Gr : zG} {k N : Nat} {f : Nat → Int32} {h : ip_H} (d : Nat) (hk : k < 14) (hc : ∀ U : State, ip_X (lg_tbl, vwCl, Gr) U → va_Z "java/lang/String" "COMPACT_STRINGS" "Z" (.int 1) (ip_Ab (lg_tbl, vwCl, Gr)) U U.heap) (hs : ip_str (lg_tbl, vwCl, Gr) k N f) (hmv : ip_mv (lg_tbl, vwCl, Gr)) (hN : N < 2 ^ 31) {sv : Value} (hsv : sv = .null ∨ sv = .ref 31) (hz : ∀ U : State, ip_X (lg_tbl, vwCl, Gr) U → va_Z "jdk/internal/util/Preconditions" "SIOOBE_FORMATTER" "Ljava/util/function/BiFunction;" (ip_v (lg_tbl, vwCl, Gr) sv) (ip_Ab (lg_tbl, vwCl, Gr)) U U.heap) {i : Nat} (hi : i < N) : ip_RnM l (lg_tbl, vwCl, Gr) M_String_charAt (d + 3) [.ref (3 + k), .int (nI i)] h (some (.int (((f i &&& 255)).toUInt32 % 65536).toInt32), h) := by
  refine ip_ofRn (G := (lg_tbl, vwCl, Gr)) oM_String_charAt ⟨pk_nc _, by decide⟩ (Nat.le_of_ble_eq_true rfl) ?_
  show ip_Rn l _ _ (d + 3) 0 [some (.ref (3 + k)), some (.int (nI i))] [] _ _
  refine ip_go (G := (lg_tbl, vwCl, Gr)) (ini := false) oV_String_charAt (fun q => Bool.noConfusion q) 1 (pc' := 1) (L' := [some (.ref (3 + k)), some (.int (nI i))]) (st' := [.ref (3 + k)]) (h' := _) rfl ?_
  refine ip_callVO (G := (lg_tbl, vwCl, Gr)) hmv fT oM_String_isLatin1 (oV_String_charAt.1 (1, .invokevirtual 492) (ip_lk_mem rfl)) ⟨tt_3 _ (List.mem_of_getElem? (i := 209) rfl) rfl, tt_3 _ (List.mem_of_getElem? (i := 210) rfl) rfl, tt_3 _ (List.mem_of_getElem? (i := 211) rfl) rfl⟩ (As := []) rfl (by omega) (fun U q => (hs U q).1) (Nat.le_of_ble_eq_true rfl) (s_isLatin1 (d + 2) hk hc hs) ?_
  refine ip_if_eq_f (G := (lg_tbl, vwCl, Gr)) (tgt := 16) (oV_String_charAt.1 (4, .ifCond .eq 12) (ip_lk_mem rfl)) (by decide) (by decide) ?_
  refine ip_go (G := (lg_tbl, vwCl, Gr)) (ini := false) oV_String_charAt (fun q => Bool.noConfusion q) 1 (pc' := 8) (L' := [some (.ref (3 + k)), some (.int (nI i))]) (st' := [.ref (3 + k)]) (h' := _) rfl ?_
  refine ip_ogetf (G := (lg_tbl, vwCl, Gr)) (v := .ref (17 + k)) (oV_String_charAt.1 (8, .getfield 9) (ip_lk_mem rfl)) (by omega) (fun U q => by rw [ip_oref (by omega)]; exact (hs U q).2.2.1) (tt_11 _ (List.mem_of_getElem? (i := 84) rfl) rfl) ?_
  refine ip_go (G := (lg_tbl, vwCl, Gr)) (ini := false) oV_String_charAt (fun q => Bool.noConfusion q) 1 (pc' := 12) (L' := [some (.ref (3 + k)), some (.int (nI i))]) (st' := [.int (nI i), .ref (17 + k)]) (h' := _) rfl ?_
  refine ip_callS (G := (lg_tbl, vwCl, Gr)) hmv fT oM_StringLatin1_charAt (oV_String_charAt.1 (12, .invokestatic 495) (ip_lk_mem rfl)) ⟨tt_3 _ (List.mem_of_getElem? (i := 213) rfl) rfl, tt_3 _ (List.mem_of_getElem? (i := 214) rfl) rfl⟩ (As := [.ref (17 + k), .int (nI i)]) rfl (Nat.le_of_ble_eq_true rfl) (s_lat d hk hc hs hmv hN hsv hz hi) ?_
  exact ip_ret (G := (lg_tbl, vwCl, Gr)) (v := some (.int (((f i &&& 255)).toUInt32 % 65536).toInt32)) (oV_String_charAt.1 (15, .ireturn) (ip_lk_mem rfl))
