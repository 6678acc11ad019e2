/-! THE CLAIM OUT OF ONE WALK OF THE LAW'S BODY. Your part is whole_start (and what it stands on); all else here is the same for every law, but numbers. -/
def R_law : String := "ShareHouseLaw"
def lw_P (b : Addr) (xs : List Int32) (args : Array Value) (s : State) : Prop := args = #[.ref b] ∧ s.IntsAt b xs ∧ xs.length ≤ 3074 ∧ (Jvm.Cond.and given_1 narrow_1).before args s = true
def lw_Q (_ : Array Value) (s : State) (o : Outcome) (t : State) : Prop := o = .returned (some (.int 1)) ∧ Framed s o t [] 468528 7696666
def lw_Z (below : List Frame) (a : Array Value) (s : State) : State → Prop := fun t => ∃ o, t.status = .running ∧ Ended t below o ∧ lw_Q a s o t
/-- the law's own end, with 1 on the stack, nothing written that was there before, its room as the claim has it -/
theorem lw_ret {p : Program} {l : Launch} {e : Env} {s : State} {m : MethodId} {below : List Frame} {meth : Method} {c : Code} {b : Nat} (hx : p.tables.exec = Jvm.exec) (hb : c.code = code) (hr : meth.sig.returnType = ret) (hlocks : meth.locks = false) {pc : Nat} {H : Heap} {ls : Array Slot} (hdg : decode code pc = .ok (.ireturn, 1)) : W p l e room_1 s m #[Value.ref b] below meth c H [] 468528 7696666 (lw_Z below #[Value.ref b] s) (F0 m pc ls [.int 1]) := by
  intro T hT X
  obtain ⟨fs, hret, hrun, hended, hW, hframe⟩ := X.leave (v := some (.int 1)) (hlocks := hlocks) (fun h => by rw [hr] at h; cases h)
  have hmeth' : T.vm.method? m = some meth := X.method'
  refine ⟨T.setFrames fs, ?_, .returned (some (.int 1)), hrun, hended, rfl, ⟨_, rfl⟩, hW, hframe⟩
  jvm_step X.here [X.here.top, hx, hb, hdg, hmeth', hr, ret, narrow_b1]
  (try refine ⟨rfl, ?_⟩); (try refine ⟨rfl, ?_⟩)
  first | (intro acts; rw [hret _ acts rfl rfl rfl]) | rw [hret _ _ rfl rfl rfl]
  exact Steps.refl _
/-- what holds at the law's entry: the machine, the code, the tables' words (any of lw_tbl by 'hts w (by decide +kernel)'), the script of L ints xs at the cell b, what the Statement gives of the start (any of its parts by flat_of_before) -/
def lw_At (p : Program) (s : State) (m : MethodId) (meth : Method) (c : Code) (b L : Nat) (xs : Nat → Int32) : Prop :=
  p.tables.exec = Jvm.exec ∧ c.code = code ∧ meth.sig.returnType = ret ∧ c.maxLocals = 4 ∧ s.vm.findClass R_law = some m.cls ∧ (∀ w ∈ lw_tbl, w.before #[Value.ref b] s = true) ∧ va_X b L xs s s.heap ∧ b < s.heap.size ∧ meth.locks = false ∧ (Jvm.Cond.and given_1 narrow_1).before #[Value.ref b] s = true
theorem ip_lg {args : Array Value} {s : State} (hts : ∀ w ∈ lw_tbl, w.before args s = true) : ∀ w ∈ lg_tbl, w.before args s = true := fun w h => hts w (List.mem_filter.mp h).1
theorem ip_kn {args : Array Value} {s : State} (hts : ∀ w ∈ lg_tbl, w.before args s = true) : ∃ (dC : Nat → ClassId) (dI : Nat → Nat → Nat), ∀ (k : Nat) (q : vw_C), vwCl[k]? = some q → u_Kn s q.1 q.2.1 q.2.2 (dC k) (dI k) := by
  obtain ⟨c0, i0, h0⟩ := u_known (C := RX0) (T := TX0) (N := 19) (n := 19) hts wsX0_in (hts (.instantiable RX0 19) (tt_2 _ (List.mem_of_getElem? (i := 128) rfl) rfl))
  obtain ⟨c1, i1, h1⟩ := u_known (C := RX1) (T := TX1) (N := 15) (n := 15) hts wsX1_in (hts (.instantiable RX1 15) (tt_1 _ (List.mem_of_getElem? (i := 192) rfl) rfl))
  obtain ⟨c2, i2, h2⟩ := u_known (C := RX2) (T := TX2) (N := 7) (n := 7) hts wsX2_in (hts (.instantiable RX2 7) (tt_1 _ (List.mem_of_getElem? (i := 37) rfl) rfl))
  obtain ⟨c3, i3, h3⟩ := u_known (C := RX3) (T := TX3) (N := 9) (n := 9) hts wsX3_in (hts (.instantiable RX3 9) (tt_2 _ (List.mem_of_getElem? (i := 222) rfl) rfl))
  obtain ⟨c4, i4, h4⟩ := u_known (C := RX4) (T := TX4) (N := 8) (n := 8) hts wsX4_in (hts (.instantiable RX4 8) (tt_1 _ (List.mem_of_getElem? (i := 143) rfl) rfl))
  obtain ⟨c5, i5, h5⟩ := u_known (C := RX5) (T := TX5) (N := 7) (n := 7) hts wsX5_in (hts (.instantiable RX5 7) (tt_2 _ (List.mem_of_getElem? (i := 134) rfl) rfl))
  obtain ⟨c6, i6, h6⟩ := u_known (C := RX6) (T := TX6) (N := 13) (n := 13) hts wsX6_in (hts (.instantiable RX6 13) (tt_1 _ (List.mem_of_getElem? (i := 84) rfl) rfl))
  obtain ⟨c7, i7, h7⟩ := u_known (C := RX7) (T := TX7) (N := 15) (n := 15) hts wsX7_in (hts (.instantiable RX7 15) (tt_3 _ (List.mem_of_getElem? (i := 19) rfl) rfl))
  obtain ⟨c8, i8, h8⟩ := u_known (C := RX8) (T := TX8) (N := 11) (n := 11) hts wsX8_in (hts (.instantiable RX8 11) (tt_2 _ (List.mem_of_getElem? (i := 23) rfl) rfl))
  obtain ⟨c9, i9, h9⟩ := u_known (C := RX9) (T := TX9) (N := 11) (n := 11) hts wsX9_in (hts (.instantiable RX9 11) (tt_2 _ (List.mem_of_getElem? (i := 88) rfl) rfl))
  obtain ⟨c10, i10, h10⟩ := u_known (C := RX10) (T := TX10) (N := 5) (n := 5) hts wsX10_in (hts (.instantiable RX10 5) (tt_2 _ (List.mem_of_getElem? (i := 29) rfl) rfl))
  obtain ⟨c11, i11, h11⟩ := u_known (C := RX11) (T := TX11) (N := 17) (n := 17) hts wsX11_in (hts (.instantiable RX11 17) (tt_1 _ (List.mem_of_getElem? (i := 23) rfl) rfl))
  obtain ⟨c12, i12, h12⟩ := u_known (C := RX12) (T := TX12) (N := 146) (n := 146) hts wsX12_in (hts (.instantiable RX12 146) (tt_7 _ (List.mem_of_getElem? (i := 43) rfl) rfl))
  refine ⟨fun k => match k with | 0 => c0 | 1 => c1 | 2 => c2 | 3 => c3 | 4 => c4 | 5 => c5 | 6 => c6 | 7 => c7 | 8 => c8 | 9 => c9 | 10 => c10 | 11 => c11 | _ => c12, fun k => match k with | 0 => i0 | 1 => i1 | 2 => i2 | 3 => i3 | 4 => i4 | 5 => i5 | 6 => i6 | 7 => i7 | 8 => i8 | 9 => i9 | 10 => i10 | 11 => i11 | _ => i12, fun k q hq => ?_⟩
  match k, hq with
  | 0, hq => cases hq; exact h0
  | 1, hq => cases hq; exact h1
  | 2, hq => cases hq; exact h2
  | 3, hq => cases hq; exact h3
  | 4, hq => cases hq; exact h4
  | 5, hq => cases hq; exact h5
  | 6, hq => cases hq; exact h6
  | 7, hq => cases hq; exact h7
  | 8, hq => cases hq; exact h8
  | 9, hq => cases hq; exact h9
  | 10, hq => cases hq; exact h10
  | 11, hq => cases hq; exact h11
  | 12, hq => cases hq; exact h12
  | k + 13, hq => simp [vwCl] at hq
theorem ip_nst_w : ∀ w ∈ ip_nst, ∃ (a : String) (i : Nat) (x : MethodName) (h : String), w = .methodLinkNest a i x h := List.forall_mem_cons.mpr ⟨⟨_, _, _, _, rfl⟩, List.forall_mem_cons.mpr ⟨⟨_, _, _, _, rfl⟩, List.forall_mem_cons.mpr ⟨⟨_, _, _, _, rfl⟩, List.forall_mem_nil _⟩⟩⟩
theorem ip_nst_in : ∀ w ∈ ip_nst, w ∈ lw_tbl := List.forall_mem_cons.mpr ⟨List.mem_append_right _ (List.mem_append_left _ (List.mem_of_getElem? (i := 38) rfl)), List.forall_mem_cons.mpr ⟨List.mem_append_right _ (List.mem_append_right _ (List.mem_append_right _ (List.mem_append_right _ (List.mem_append_right _ (List.mem_append_right _ (List.mem_append_left _ (List.mem_of_getElem? (i := 101) rfl))))))), List.forall_mem_cons.mpr ⟨List.mem_append_right _ (List.mem_append_right _ (List.mem_append_right _ (List.mem_append_right _ (List.mem_append_right _ (List.mem_append_right _ (List.mem_append_right _ (List.mem_append_left _ (List.mem_of_getElem? (i := 14) rfl)))))))), List.forall_mem_nil _⟩⟩⟩
theorem mem_all {L : List Cond} {g : Nat → Cond} {N : Nat} (h : (List.range N).all (fun j => decide (g j ∈ L)) = true) (j : Nat) (hj : j < N) : g j ∈ L := of_decide_eq_true (List.all_eq_true.mp h j (List.mem_range.mpr hj))
/-- one String constant at the law's entry -/
theorem str_one {args : Array Value} {s : State} {tm : Term} {N : Nat} {f : Nat → Int32} {A : Nat → Prop} (hN : N < 2 ^ 31) (hex : (Cond.exactly tm "java/lang/String").before args s = true) (hco : (Cond.eq (.field tm "java/lang/String" "coder" "B") (.int 0)).before args s = true) (har : (Cond.arrayOf (.field tm "java/lang/String" "value" "[B") .byte).before args s = true) (hle : (Cond.eq (.length (.field tm "java/lang/String" "value" "[B")) (.int (Int32.ofNat N))).before args s = true) (hel : ∀ j : Nat, j < N → (Cond.eq (.elem (.field tm "java/lang/String" "value" "[B") (.int (Int32.ofNat j))) (.int (f j))).before args s = true) (hA : ∀ a : Nat, a < s.heap.size → ¬ A a) : ∃ a t : Nat, tm.eval args s none [] s = some (.ref a) ∧ va_O "java/lang/String" a A s s.heap ∧ va_OF "java/lang/String" "coder" "B" (.int 0) a A s s.heap ∧ va_OF "java/lang/String" "value" "[B" (.ref t) a A s s.heap ∧ va_T .byte t N (fun j => .int (f j)) A s s.heap := by
  obtain ⟨a, c, cA, kA, q1, q2, q3, q4, q5, q6, -⟩ := Cond.exactly_spec (args := args) (first := s) (o := none) (s := s) (idx := []) (t := tm) (cls := "java/lang/String") hex
  obtain ⟨t, ht, hT⟩ := va_Tof (f := fun j => .int (f j)) (A := A) hN har (va_eqt hle) (fun j hj => va_eqt (hel j hj)) hA
  exact ⟨a, t, q1, ⟨cA, q3, q5, by rw [q6]; exact q2, hA a (Array.getElem?_eq_some_iff.mp q3).1⟩, vk_OFof q1 (va_eqt hco) hA, vk_OFof q1 ht hA, hT⟩

/-- the old cells: what ip_old asks, of one state -/
def oldP (ad : Nat → Nat) (A : Nat → Prop) (sv : Value) (U : State) : Prop := (va_Z "ShareHouse$Code" "RANKS" "[I" (.ref (ad 1)) A U U.heap ∧ va_T .int (ad 1) 18 (fun j => .int (oRow1 j)) A U U.heap) ∧ (va_Z "ShareHouse$Builder" "TAKES" "[I" (.ref (ad 2)) A U U.heap ∧ va_T .int (ad 2) 56 (fun j => .int (oRow2 j)) A U U.heap) ∧ va_Z "java/lang/String" "COMPACT_STRINGS" "Z" (.int 1) A U U.heap ∧ va_Z "jdk/internal/util/Preconditions" "SIOOBE_FORMATTER" "Ljava/util/function/BiFunction;" sv A U U.heap ∧ (vk_R "ShareHouse$Words" 55 "input of var def for to if else output int bit true false " (ad 3) U ∧ va_O "java/lang/String" (ad 3) A U U.heap ∧ va_OF "java/lang/String" "coder" "B" (.int 0) (ad 3) A U U.heap ∧ va_OF "java/lang/String" "value" "[B" (.ref (ad 17)) (ad 3) A U U.heap ∧ va_T .byte (ad 17) 58 (fun j => .int (oTx0 j)) A U U.heap) ∧ (vk_R "ShareHouseModel" 353 "input" (ad 4) U ∧ va_O "java/lang/String" (ad 4) A U U.heap ∧ va_OF "java/lang/String" "coder" "B" (.int 0) (ad 4) A U U.heap ∧ va_OF "java/lang/String" "value" "[B" (.ref (ad 18)) (ad 4) A U U.heap ∧ va_T .byte (ad 18) 5 (fun j => .int (oTx1 j)) A U U.heap) ∧ (vk_R "ShareHouseModel" 359 "of" (ad 5) U ∧ va_O "java/lang/String" (ad 5) A U U.heap ∧ va_OF "java/lang/String" "coder" "B" (.int 0) (ad 5) A U U.heap ∧ va_OF "java/lang/String" "value" "[B" (.ref (ad 19)) (ad 5) A U U.heap ∧ va_T .byte (ad 19) 2 (fun j => .int (oTx2 j)) A U U.heap) ∧ (vk_R "ShareHouseModel" 361 "var" (ad 6) U ∧ va_O "java/lang/String" (ad 6) A U U.heap ∧ va_OF "java/lang/String" "coder" "B" (.int 0) (ad 6) A U U.heap ∧ va_OF "java/lang/String" "value" "[B" (.ref (ad 20)) (ad 6) A U U.heap ∧ va_T .byte (ad 20) 3 (fun j => .int (oTx3 j)) A U U.heap) ∧ (vk_R "ShareHouseModel" 363 "def" (ad 7) U ∧ va_O "java/lang/String" (ad 7) A U U.heap ∧ va_OF "java/lang/String" "coder" "B" (.int 0) (ad 7) A U U.heap ∧ va_OF "java/lang/String" "value" "[B" (.ref (ad 21)) (ad 7) A U U.heap ∧ va_T .byte (ad 21) 3 (fun j => .int (oTx4 j)) A U U.heap) ∧ (vk_R "ShareHouseModel" 365 "for" (ad 8) U ∧ va_O "java/lang/String" (ad 8) A U U.heap ∧ va_OF "java/lang/String" "coder" "B" (.int 0) (ad 8) A U U.heap ∧ va_OF "java/lang/String" "value" "[B" (.ref (ad 22)) (ad 8) A U U.heap ∧ va_T .byte (ad 22) 3 (fun j => .int (oTx5 j)) A U U.heap) ∧ (vk_R "ShareHouseModel" 367 "to" (ad 9) U ∧ va_O "java/lang/String" (ad 9) A U U.heap ∧ va_OF "java/lang/String" "coder" "B" (.int 0) (ad 9) A U U.heap ∧ va_OF "java/lang/String" "value" "[B" (.ref (ad 23)) (ad 9) A U U.heap ∧ va_T .byte (ad 23) 2 (fun j => .int (oTx6 j)) A U U.heap) ∧ (vk_R "ShareHouseModel" 369 "if" (ad 10) U ∧ va_O "java/lang/String" (ad 10) A U U.heap ∧ va_OF "java/lang/String" "coder" "B" (.int 0) (ad 10) A U U.heap ∧ va_OF "java/lang/String" "value" "[B" (.ref (ad 24)) (ad 10) A U U.heap ∧ va_T .byte (ad 24) 2 (fun j => .int (oTx7 j)) A U U.heap) ∧ (vk_R "ShareHouseModel" 371 "else" (ad 11) U ∧ va_O "java/lang/String" (ad 11) A U U.heap ∧ va_OF "java/lang/String" "coder" "B" (.int 0) (ad 11) A U U.heap ∧ va_OF "java/lang/String" "value" "[B" (.ref (ad 25)) (ad 11) A U U.heap ∧ va_T .byte (ad 25) 4 (fun j => .int (oTx8 j)) A U U.heap) ∧ (vk_R "ShareHouseModel" 373 "output" (ad 12) U ∧ va_O "java/lang/String" (ad 12) A U U.heap ∧ va_OF "java/lang/String" "coder" "B" (.int 0) (ad 12) A U U.heap ∧ va_OF "java/lang/String" "value" "[B" (.ref (ad 26)) (ad 12) A U U.heap ∧ va_T .byte (ad 26) 6 (fun j => .int (oTx9 j)) A U U.heap) ∧ (vk_R "ShareHouseModel" 375 "int" (ad 13) U ∧ va_O "java/lang/String" (ad 13) A U U.heap ∧ va_OF "java/lang/String" "coder" "B" (.int 0) (ad 13) A U U.heap ∧ va_OF "java/lang/String" "value" "[B" (.ref (ad 27)) (ad 13) A U U.heap ∧ va_T .byte (ad 27) 3 (fun j => .int (oTx10 j)) A U U.heap) ∧ (vk_R "ShareHouseModel" 377 "bit" (ad 14) U ∧ va_O "java/lang/String" (ad 14) A U U.heap ∧ va_OF "java/lang/String" "coder" "B" (.int 0) (ad 14) A U U.heap ∧ va_OF "java/lang/String" "value" "[B" (.ref (ad 28)) (ad 14) A U U.heap ∧ va_T .byte (ad 28) 3 (fun j => .int (oTx11 j)) A U U.heap) ∧ (vk_R "ShareHouseModel" 379 "true" (ad 15) U ∧ va_O "java/lang/String" (ad 15) A U U.heap ∧ va_OF "java/lang/String" "coder" "B" (.int 0) (ad 15) A U U.heap ∧ va_OF "java/lang/String" "value" "[B" (.ref (ad 29)) (ad 15) A U U.heap ∧ va_T .byte (ad 29) 4 (fun j => .int (oTx12 j)) A U U.heap) ∧ (vk_R "ShareHouseModel" 381 "false" (ad 16) U ∧ va_O "java/lang/String" (ad 16) A U U.heap ∧ va_OF "java/lang/String" "coder" "B" (.int 0) (ad 16) A U U.heap ∧ va_OF "java/lang/String" "value" "[B" (.ref (ad 30)) (ad 16) A U U.heap ∧ va_T .byte (ad 30) 5 (fun j => .int (oTx13 j)) A U U.heap)
theorem oldP_mv {ad : Nat → Nat} {B : Nat} {sv : Value} {U U' : State} (hv : U.vm = U'.vm ∨ U.WarmedH U'.vm) (hh : ∀ q : Nat, q < B → U'.heap[q]? = U.heap[q]?) (h : oldP ad (fun q => B ≤ q) sv U) : oldP ad (fun q => B ≤ q) sv U' := by
  have hal : U.vm.Alike U'.vm := by
    rcases hv with hv | hv
    · rw [hv]; exact Vm.Alike.refl _
    · exact hv.alike
  have hq : ∀ a : Nat, a < U.heap.size → ¬ (B ≤ a) → U'.heap[a]? = U.heap[a]? := fun a _ y => hh a (by omega)
  have hr : ∀ own k tx a, vk_R own k tx a U → vk_R own k tx a U' := fun own k tx a q => by
    rcases hv with hv | hv
    · exact vk_R.same hv.symm q
    · exact vk_R.warm hv q
  obtain ⟨⟨z1, t1⟩, ⟨z2, t2⟩, z3, z4, ⟨r0, o0, c0, v0, y0⟩, ⟨r1, o1, c1, v1, y1⟩, ⟨r2, o2, c2, v2, y2⟩, ⟨r3, o3, c3, v3, y3⟩, ⟨r4, o4, c4, v4, y4⟩, ⟨r5, o5, c5, v5, y5⟩, ⟨r6, o6, c6, v6, y6⟩, ⟨r7, o7, c7, v7, y7⟩, ⟨r8, o8, c8, v8, y8⟩, ⟨r9, o9, c9, v9, y9⟩, ⟨r10, o10, c10, v10, y10⟩, ⟨r11, o11, c11, v11, y11⟩, ⟨r12, o12, c12, v12, y12⟩, ⟨r13, o13, c13, v13, y13⟩⟩ := h
  exact ⟨⟨(va_Z.kept (va_Z.moved hal z1) hq), (va_T.kept (va_T.moved hal t1) hq)⟩, ⟨(va_Z.kept (va_Z.moved hal z2) hq), (va_T.kept (va_T.moved hal t2) hq)⟩, (va_Z.kept (va_Z.moved hal z3) hq), (va_Z.kept (va_Z.moved hal z4) hq), ⟨hr _ _ _ _ r0, (va_O.kept (va_O.moved hal o0) hq), (va_OF.kept (va_OF.moved hal c0) hq), (va_OF.kept (va_OF.moved hal v0) hq), (va_T.kept (va_T.moved hal y0) hq)⟩, ⟨hr _ _ _ _ r1, (va_O.kept (va_O.moved hal o1) hq), (va_OF.kept (va_OF.moved hal c1) hq), (va_OF.kept (va_OF.moved hal v1) hq), (va_T.kept (va_T.moved hal y1) hq)⟩, ⟨hr _ _ _ _ r2, (va_O.kept (va_O.moved hal o2) hq), (va_OF.kept (va_OF.moved hal c2) hq), (va_OF.kept (va_OF.moved hal v2) hq), (va_T.kept (va_T.moved hal y2) hq)⟩, ⟨hr _ _ _ _ r3, (va_O.kept (va_O.moved hal o3) hq), (va_OF.kept (va_OF.moved hal c3) hq), (va_OF.kept (va_OF.moved hal v3) hq), (va_T.kept (va_T.moved hal y3) hq)⟩, ⟨hr _ _ _ _ r4, (va_O.kept (va_O.moved hal o4) hq), (va_OF.kept (va_OF.moved hal c4) hq), (va_OF.kept (va_OF.moved hal v4) hq), (va_T.kept (va_T.moved hal y4) hq)⟩, ⟨hr _ _ _ _ r5, (va_O.kept (va_O.moved hal o5) hq), (va_OF.kept (va_OF.moved hal c5) hq), (va_OF.kept (va_OF.moved hal v5) hq), (va_T.kept (va_T.moved hal y5) hq)⟩, ⟨hr _ _ _ _ r6, (va_O.kept (va_O.moved hal o6) hq), (va_OF.kept (va_OF.moved hal c6) hq), (va_OF.kept (va_OF.moved hal v6) hq), (va_T.kept (va_T.moved hal y6) hq)⟩, ⟨hr _ _ _ _ r7, (va_O.kept (va_O.moved hal o7) hq), (va_OF.kept (va_OF.moved hal c7) hq), (va_OF.kept (va_OF.moved hal v7) hq), (va_T.kept (va_T.moved hal y7) hq)⟩, ⟨hr _ _ _ _ r8, (va_O.kept (va_O.moved hal o8) hq), (va_OF.kept (va_OF.moved hal c8) hq), (va_OF.kept (va_OF.moved hal v8) hq), (va_T.kept (va_T.moved hal y8) hq)⟩, ⟨hr _ _ _ _ r9, (va_O.kept (va_O.moved hal o9) hq), (va_OF.kept (va_OF.moved hal c9) hq), (va_OF.kept (va_OF.moved hal v9) hq), (va_T.kept (va_T.moved hal y9) hq)⟩, ⟨hr _ _ _ _ r10, (va_O.kept (va_O.moved hal o10) hq), (va_OF.kept (va_OF.moved hal c10) hq), (va_OF.kept (va_OF.moved hal v10) hq), (va_T.kept (va_T.moved hal y10) hq)⟩, ⟨hr _ _ _ _ r11, (va_O.kept (va_O.moved hal o11) hq), (va_OF.kept (va_OF.moved hal c11) hq), (va_OF.kept (va_OF.moved hal v11) hq), (va_T.kept (va_T.moved hal y11) hq)⟩, ⟨hr _ _ _ _ r12, (va_O.kept (va_O.moved hal o12) hq), (va_OF.kept (va_OF.moved hal c12) hq), (va_OF.kept (va_OF.moved hal v12) hq), (va_T.kept (va_T.moved hal y12) hq)⟩, ⟨hr _ _ _ _ r13, (va_O.kept (va_O.moved hal o13) hq), (va_OF.kept (va_OF.moved hal c13) hq), (va_OF.kept (va_OF.moved hal v13) hq), (va_T.kept (va_T.moved hal y13) hq)⟩⟩
theorem oldP_ex {s : State} {args : Array Value} {A : Nat → Prop} (hgv : (Jvm.Cond.and given_1 narrow_1).before args s = true) (hts0 : ∀ w ∈ lw_tbl, w.before args s = true) (hA : ∀ a : Nat, a < s.heap.size → ¬ A a) (b : Nat) : ∃ (ad : Nat → Nat) (sv : Value), ad 0 = b ∧ (sv = .null ∨ sv = .ref (ad 31)) ∧ oldP ad A sv s := by
  have hts := ip_lg hts0
  have hs := flat_of_before _ hgv
  obtain ⟨t1, e1, T1⟩ := va_Tof (tm := .static "ShareHouse$Code" "RANKS" "[I") (ty := .int) (N := 18) (f := fun j => .int (oRow1 j)) (A := A) (by decide) (hs _ (by decide +kernel)) (va_eqt (hs _ (by decide +kernel))) (fun j hj => va_eqt (hs _ (mem_all (g := fun j => Cond.eq (.elem (.static "ShareHouse$Code" "RANKS" "[I") (.int (Int32.ofNat j))) (.int (oRow1 j))) (by decide +kernel) j hj))) hA
  obtain ⟨t2, e2, T2⟩ := va_Tof (tm := .static "ShareHouse$Builder" "TAKES" "[I") (ty := .int) (N := 56) (f := fun j => .int (oRow2 j)) (A := A) (by decide) (hs _ (by decide +kernel)) (va_eqt (hs _ (by decide +kernel))) (fun j hj => va_eqt (hs _ (mem_all (g := fun j => Cond.eq (.elem (.static "ShareHouse$Builder" "TAKES" "[I") (.int (Int32.ofNat j))) (.int (oRow2 j))) (by decide +kernel) j hj))) hA
  obtain ⟨sv, esv, hsv⟩ := Cond.isRef_spec (hs (Cond.isRef (.static "jdk/internal/util/Preconditions" "SIOOBE_FORMATTER" "Ljava/util/function/BiFunction;")) (by decide +kernel))
  obtain ⟨a0, v0, g0, h0⟩ := str_one (args := args) (s := s) (tm := .string "ShareHouse$Words" 55) (N := 58) (f := oTx0) (A := A) (by decide) (hs _ (by decide +kernel)) (hs _ (by decide +kernel)) (hs _ (by decide +kernel)) (hs _ (by decide +kernel)) (fun j hj => hs _ (mem_all (g := fun j => Cond.eq (.elem (.field (.string "ShareHouse$Words" 55) "java/lang/String" "value" "[B") (.int (Int32.ofNat j))) (.int (oTx0 j))) (by decide +kernel) j hj)) hA
  obtain ⟨a1, v1, g1, h1⟩ := str_one (args := args) (s := s) (tm := .string "ShareHouseModel" 353) (N := 5) (f := oTx1) (A := A) (by decide) (hs _ (by decide +kernel)) (hs _ (by decide +kernel)) (hs _ (by decide +kernel)) (hs _ (by decide +kernel)) (fun j hj => hs _ (mem_all (g := fun j => Cond.eq (.elem (.field (.string "ShareHouseModel" 353) "java/lang/String" "value" "[B") (.int (Int32.ofNat j))) (.int (oTx1 j))) (by decide +kernel) j hj)) hA
  obtain ⟨a2, v2, g2, h2⟩ := str_one (args := args) (s := s) (tm := .string "ShareHouseModel" 359) (N := 2) (f := oTx2) (A := A) (by decide) (hs _ (by decide +kernel)) (hs _ (by decide +kernel)) (hs _ (by decide +kernel)) (hs _ (by decide +kernel)) (fun j hj => hs _ (mem_all (g := fun j => Cond.eq (.elem (.field (.string "ShareHouseModel" 359) "java/lang/String" "value" "[B") (.int (Int32.ofNat j))) (.int (oTx2 j))) (by decide +kernel) j hj)) hA
  obtain ⟨a3, v3, g3, h3⟩ := str_one (args := args) (s := s) (tm := .string "ShareHouseModel" 361) (N := 3) (f := oTx3) (A := A) (by decide) (hs _ (by decide +kernel)) (hs _ (by decide +kernel)) (hs _ (by decide +kernel)) (hs _ (by decide +kernel)) (fun j hj => hs _ (mem_all (g := fun j => Cond.eq (.elem (.field (.string "ShareHouseModel" 361) "java/lang/String" "value" "[B") (.int (Int32.ofNat j))) (.int (oTx3 j))) (by decide +kernel) j hj)) hA
  obtain ⟨a4, v4, g4, h4⟩ := str_one (args := args) (s := s) (tm := .string "ShareHouseModel" 363) (N := 3) (f := oTx4) (A := A) (by decide) (hs _ (by decide +kernel)) (hs _ (by decide +kernel)) (hs _ (by decide +kernel)) (hs _ (by decide +kernel)) (fun j hj => hs _ (mem_all (g := fun j => Cond.eq (.elem (.field (.string "ShareHouseModel" 363) "java/lang/String" "value" "[B") (.int (Int32.ofNat j))) (.int (oTx4 j))) (by decide +kernel) j hj)) hA
  obtain ⟨a5, v5, g5, h5⟩ := str_one (args := args) (s := s) (tm := .string "ShareHouseModel" 365) (N := 3) (f := oTx5) (A := A) (by decide) (hs _ (by decide +kernel)) (hs _ (by decide +kernel)) (hs _ (by decide +kernel)) (hs _ (by decide +kernel)) (fun j hj => hs _ (mem_all (g := fun j => Cond.eq (.elem (.field (.string "ShareHouseModel" 365) "java/lang/String" "value" "[B") (.int (Int32.ofNat j))) (.int (oTx5 j))) (by decide +kernel) j hj)) hA
  obtain ⟨a6, v6, g6, h6⟩ := str_one (args := args) (s := s) (tm := .string "ShareHouseModel" 367) (N := 2) (f := oTx6) (A := A) (by decide) (hs _ (by decide +kernel)) (hs _ (by decide +kernel)) (hs _ (by decide +kernel)) (hs _ (by decide +kernel)) (fun j hj => hs _ (mem_all (g := fun j => Cond.eq (.elem (.field (.string "ShareHouseModel" 367) "java/lang/String" "value" "[B") (.int (Int32.ofNat j))) (.int (oTx6 j))) (by decide +kernel) j hj)) hA
  obtain ⟨a7, v7, g7, h7⟩ := str_one (args := args) (s := s) (tm := .string "ShareHouseModel" 369) (N := 2) (f := oTx7) (A := A) (by decide) (hs _ (by decide +kernel)) (hs _ (by decide +kernel)) (hs _ (by decide +kernel)) (hs _ (by decide +kernel)) (fun j hj => hs _ (mem_all (g := fun j => Cond.eq (.elem (.field (.string "ShareHouseModel" 369) "java/lang/String" "value" "[B") (.int (Int32.ofNat j))) (.int (oTx7 j))) (by decide +kernel) j hj)) hA
  obtain ⟨a8, v8, g8, h8⟩ := str_one (args := args) (s := s) (tm := .string "ShareHouseModel" 371) (N := 4) (f := oTx8) (A := A) (by decide) (hs _ (by decide +kernel)) (hs _ (by decide +kernel)) (hs _ (by decide +kernel)) (hs _ (by decide +kernel)) (fun j hj => hs _ (mem_all (g := fun j => Cond.eq (.elem (.field (.string "ShareHouseModel" 371) "java/lang/String" "value" "[B") (.int (Int32.ofNat j))) (.int (oTx8 j))) (by decide +kernel) j hj)) hA
  obtain ⟨a9, v9, g9, h9⟩ := str_one (args := args) (s := s) (tm := .string "ShareHouseModel" 373) (N := 6) (f := oTx9) (A := A) (by decide) (hs _ (by decide +kernel)) (hs _ (by decide +kernel)) (hs _ (by decide +kernel)) (hs _ (by decide +kernel)) (fun j hj => hs _ (mem_all (g := fun j => Cond.eq (.elem (.field (.string "ShareHouseModel" 373) "java/lang/String" "value" "[B") (.int (Int32.ofNat j))) (.int (oTx9 j))) (by decide +kernel) j hj)) hA
  obtain ⟨a10, v10, g10, h10⟩ := str_one (args := args) (s := s) (tm := .string "ShareHouseModel" 375) (N := 3) (f := oTx10) (A := A) (by decide) (hs _ (by decide +kernel)) (hs _ (by decide +kernel)) (hs _ (by decide +kernel)) (hs _ (by decide +kernel)) (fun j hj => hs _ (mem_all (g := fun j => Cond.eq (.elem (.field (.string "ShareHouseModel" 375) "java/lang/String" "value" "[B") (.int (Int32.ofNat j))) (.int (oTx10 j))) (by decide +kernel) j hj)) hA
  obtain ⟨a11, v11, g11, h11⟩ := str_one (args := args) (s := s) (tm := .string "ShareHouseModel" 377) (N := 3) (f := oTx11) (A := A) (by decide) (hs _ (by decide +kernel)) (hs _ (by decide +kernel)) (hs _ (by decide +kernel)) (hs _ (by decide +kernel)) (fun j hj => hs _ (mem_all (g := fun j => Cond.eq (.elem (.field (.string "ShareHouseModel" 377) "java/lang/String" "value" "[B") (.int (Int32.ofNat j))) (.int (oTx11 j))) (by decide +kernel) j hj)) hA
  obtain ⟨a12, v12, g12, h12⟩ := str_one (args := args) (s := s) (tm := .string "ShareHouseModel" 379) (N := 4) (f := oTx12) (A := A) (by decide) (hs _ (by decide +kernel)) (hs _ (by decide +kernel)) (hs _ (by decide +kernel)) (hs _ (by decide +kernel)) (fun j hj => hs _ (mem_all (g := fun j => Cond.eq (.elem (.field (.string "ShareHouseModel" 379) "java/lang/String" "value" "[B") (.int (Int32.ofNat j))) (.int (oTx12 j))) (by decide +kernel) j hj)) hA
  obtain ⟨a13, v13, g13, h13⟩ := str_one (args := args) (s := s) (tm := .string "ShareHouseModel" 381) (N := 5) (f := oTx13) (A := A) (by decide) (hs _ (by decide +kernel)) (hs _ (by decide +kernel)) (hs _ (by decide +kernel)) (hs _ (by decide +kernel)) (fun j hj => hs _ (mem_all (g := fun j => Cond.eq (.elem (.field (.string "ShareHouseModel" 381) "java/lang/String" "value" "[B") (.int (Int32.ofNat j))) (.int (oTx13 j))) (by decide +kernel) j hj)) hA
  have key : ∀ (x : Nat), ∃ ad : Nat → Nat, ad 0 = b ∧ ad 1 = t1 ∧ ad 2 = t2 ∧ ad 31 = x ∧ ad 3 = a0 ∧ ad 17 = v0 ∧ ad 4 = a1 ∧ ad 18 = v1 ∧ ad 5 = a2 ∧ ad 19 = v2 ∧ ad 6 = a3 ∧ ad 20 = v3 ∧ ad 7 = a4 ∧ ad 21 = v4 ∧ ad 8 = a5 ∧ ad 22 = v5 ∧ ad 9 = a6 ∧ ad 23 = v6 ∧ ad 10 = a7 ∧ ad 24 = v7 ∧ ad 11 = a8 ∧ ad 25 = v8 ∧ ad 12 = a9 ∧ ad 26 = v9 ∧ ad 13 = a10 ∧ ad 27 = v10 ∧ ad 14 = a11 ∧ ad 28 = v11 ∧ ad 15 = a12 ∧ ad 29 = v12 ∧ ad 16 = a13 ∧ ad 30 = v13 := fun x => ⟨fun k => ([b, t1, t2, a0, a1, a2, a3, a4, a5, a6, a7, a8, a9, a10, a11, a12, a13, v0, v1, v2, v3, v4, v5, v6, v7, v8, v9, v10, v11, v12, v13, x] : List Nat).getD k 0, rfl, rfl, rfl, rfl, rfl, rfl, rfl, rfl, rfl, rfl, rfl, rfl, rfl, rfl, rfl, rfl, rfl, rfl, rfl, rfl, rfl, rfl, rfl, rfl, rfl, rfl, rfl, rfl, rfl, rfl, rfl, rfl⟩
  have fin : ∀ x, (sv = .null ∨ sv = .ref x) → ∃ (ad : Nat → Nat) (sv : Value), ad 0 = b ∧ (sv = .null ∨ sv = .ref (ad 31)) ∧ oldP ad A sv s := fun x hx => by
    obtain ⟨ad, k0, k1, k2, k31, p0, q0, p1, q1, p2, q2, p3, q3, p4, q4, p5, q5, p6, q6, p7, q7, p8, q8, p9, q9, p10, q10, p11, q11, p12, q12, p13, q13⟩ := key x
    refine ⟨ad, sv, k0, by rw [k31]; exact hx, ?_⟩
    unfold oldP
    rw [k1, k2, p0, q0, p1, q1, p2, q2, p3, q3, p4, q4, p5, q5, p6, q6, p7, q7, p8, q8, p9, q9, p10, q10, p11, q11, p12, q12, p13, q13]
    exact ⟨⟨va_Zof (hts0 _ (List.mem_append_right _ (List.mem_append_right _ (List.mem_append_right _ (List.mem_append_right _ (List.mem_append_left _ (List.mem_of_getElem? (i := 119) rfl))))))) (hts0 _ (List.mem_append_right _ (List.mem_append_left _ (List.mem_of_getElem? (i := 3) rfl)))) e1 hA, T1⟩, ⟨va_Zof (hts0 _ (List.mem_append_right _ (List.mem_append_right _ (List.mem_append_right _ (List.mem_append_right _ (List.mem_append_right _ (List.mem_append_left _ (List.mem_of_getElem? (i := 47) rfl)))))))) (hts0 _ (List.mem_append_right _ (List.mem_append_left _ (List.mem_of_getElem? (i := 10) rfl)))) e2 hA, T2⟩, va_Zof (hts0 _ (List.mem_append_right _ (List.mem_append_right _ (List.mem_append_right _ (List.mem_append_left _ (List.mem_of_getElem? (i := 204) rfl)))))) (hts0 _ (List.mem_append_right _ (List.mem_append_left _ (List.mem_of_getElem? (i := 17) rfl)))) (va_eqt (hs _ (by decide +kernel))) hA, va_Zof (hts0 _ (List.mem_append_right _ (List.mem_append_right _ (List.mem_append_right _ (List.mem_append_left _ (List.mem_of_getElem? (i := 220) rfl)))))) (hts0 _ (List.mem_append_right _ (List.mem_append_left _ (List.mem_of_getElem? (i := 19) rfl)))) esv hA, ⟨vk_R.of (hts0 _ (List.mem_append_right _ (List.mem_append_right _ (List.mem_append_right _ (List.mem_append_left _ (List.mem_of_getElem? (i := 194) rfl)))))) g0, h0⟩, ⟨vk_R.of (hts0 _ (List.mem_append_right _ (List.mem_append_right _ (List.mem_append_right _ (List.mem_append_right _ (List.mem_append_right _ (List.mem_append_right _ (List.mem_append_right _ (List.mem_append_right _ (List.mem_append_right _ (List.mem_append_left _ (List.mem_of_getElem? (i := 126) rfl)))))))))))) g1, h1⟩, ⟨vk_R.of (hts0 _ (List.mem_append_right _ (List.mem_append_right _ (List.mem_append_right _ (List.mem_append_right _ (List.mem_append_right _ (List.mem_append_right _ (List.mem_append_right _ (List.mem_append_right _ (List.mem_append_right _ (List.mem_append_left _ (List.mem_of_getElem? (i := 127) rfl)))))))))))) g2, h2⟩, ⟨vk_R.of (hts0 _ (List.mem_append_right _ (List.mem_append_right _ (List.mem_append_right _ (List.mem_append_right _ (List.mem_append_right _ (List.mem_append_right _ (List.mem_append_right _ (List.mem_append_right _ (List.mem_append_right _ (List.mem_append_left _ (List.mem_of_getElem? (i := 128) rfl)))))))))))) g3, h3⟩, ⟨vk_R.of (hts0 _ (List.mem_append_right _ (List.mem_append_right _ (List.mem_append_right _ (List.mem_append_right _ (List.mem_append_right _ (List.mem_append_right _ (List.mem_append_right _ (List.mem_append_right _ (List.mem_append_right _ (List.mem_append_left _ (List.mem_of_getElem? (i := 129) rfl)))))))))))) g4, h4⟩, ⟨vk_R.of (hts0 _ (List.mem_append_right _ (List.mem_append_right _ (List.mem_append_right _ (List.mem_append_right _ (List.mem_append_right _ (List.mem_append_right _ (List.mem_append_right _ (List.mem_append_right _ (List.mem_append_right _ (List.mem_append_left _ (List.mem_of_getElem? (i := 130) rfl)))))))))))) g5, h5⟩, ⟨vk_R.of (hts0 _ (List.mem_append_right _ (List.mem_append_right _ (List.mem_append_right _ (List.mem_append_right _ (List.mem_append_right _ (List.mem_append_right _ (List.mem_append_right _ (List.mem_append_right _ (List.mem_append_right _ (List.mem_append_left _ (List.mem_of_getElem? (i := 131) rfl)))))))))))) g6, h6⟩, ⟨vk_R.of (hts0 _ (List.mem_append_right _ (List.mem_append_right _ (List.mem_append_right _ (List.mem_append_right _ (List.mem_append_right _ (List.mem_append_right _ (List.mem_append_right _ (List.mem_append_right _ (List.mem_append_right _ (List.mem_append_left _ (List.mem_of_getElem? (i := 82) rfl)))))))))))) g7, h7⟩, ⟨vk_R.of (hts0 _ (List.mem_append_right _ (List.mem_append_right _ (List.mem_append_right _ (List.mem_append_right _ (List.mem_append_right _ (List.mem_append_right _ (List.mem_append_right _ (List.mem_append_right _ (List.mem_append_right _ (List.mem_append_left _ (List.mem_of_getElem? (i := 65) rfl)))))))))))) g8, h8⟩, ⟨vk_R.of (hts0 _ (List.mem_append_right _ (List.mem_append_right _ (List.mem_append_right _ (List.mem_append_right _ (List.mem_append_right _ (List.mem_append_right _ (List.mem_append_right _ (List.mem_append_right _ (List.mem_append_right _ (List.mem_append_left _ (List.mem_of_getElem? (i := 132) rfl)))))))))))) g9, h9⟩, ⟨vk_R.of (hts0 _ (List.mem_append_right _ (List.mem_append_right _ (List.mem_append_right _ (List.mem_append_right _ (List.mem_append_right _ (List.mem_append_right _ (List.mem_append_right _ (List.mem_append_right _ (List.mem_append_right _ (List.mem_append_left _ (List.mem_of_getElem? (i := 116) rfl)))))))))))) g10, h10⟩, ⟨vk_R.of (hts0 _ (List.mem_append_right _ (List.mem_append_right _ (List.mem_append_right _ (List.mem_append_right _ (List.mem_append_right _ (List.mem_append_right _ (List.mem_append_right _ (List.mem_append_right _ (List.mem_append_right _ (List.mem_append_left _ (List.mem_of_getElem? (i := 117) rfl)))))))))))) g11, h11⟩, ⟨vk_R.of (hts0 _ (List.mem_append_right _ (List.mem_append_right _ (List.mem_append_right _ (List.mem_append_right _ (List.mem_append_right _ (List.mem_append_right _ (List.mem_append_right _ (List.mem_append_right _ (List.mem_append_right _ (List.mem_append_left _ (List.mem_of_getElem? (i := 114) rfl)))))))))))) g12, h12⟩, ⟨vk_R.of (hts0 _ (List.mem_append_right _ (List.mem_append_right _ (List.mem_append_right _ (List.mem_append_right _ (List.mem_append_right _ (List.mem_append_right _ (List.mem_append_right _ (List.mem_append_right _ (List.mem_append_right _ (List.mem_append_left _ (List.mem_of_getElem? (i := 115) rfl)))))))))))) g13, h13⟩⟩
  cases sv with
  | null => exact fin 0 (Or.inl rfl)
  | ref x => exact fin x (Or.inr rfl)
  | _ => cases hsv

theorem ip_arr {args : Array Value} {s : State} {ty : FieldType} (h : (Cond.arrayClass ty).before args s = true) (hp : ∀ C, ty ≠ .object C) : ∃ cA : ClassId, ArrOfT s cA ty ∧ va_RA s cA ty := by
  obtain ⟨c, k, comp, h1, h2, h3⟩ := Cond.arrayClass_spec h
  refine ⟨c, fun n z => ⟨fun k' q => (by cases q), k, h2, comp, h3⟩, ?_⟩
  cases ty <;> first | exact h1 | exact absurd rfl (hp _)
theorem ip_whole {p : Program} {e : Env} {s : State} {m : MethodId} {below : List Frame} {meth : Method} {c : Code} (l : Launch) {b L : Nat} {xs : Nat → Int32} (C0 : lw_At p s m meth c b L xs) (d : Nat) (hd : d ≤ 2048)
    (hR : ∀ Gr, ip_gk (lg_tbl, vwCl, Gr) → ip_old (lg_tbl, vwCl, Gr) → (∀ U : State, ip_X (lg_tbl, vwCl, Gr) U → va_X (ip_O (lg_tbl, vwCl, Gr) 0) L xs U U.heap) → ip_O (lg_tbl, vwCl, Gr) 0 < ip_B (lg_tbl, vwCl, Gr) → ∃ h' : ip_H, h'.length ≤ 468528 ∧ ip_t h' ≤ 7696666 ∧ ip_Rn l (lg_tbl, vwCl, Gr) M_La_law d 0 [some (.ref 0), none, none, none] [] [] (some (.int 1), h')) :
    W p l e room_1 s m #[Value.ref b] below meth c s.heap [] 0 0 (lw_Z below #[Value.ref b] s) (entryFrame m ([Value.ref b] : List Value).toArray 4) := by
  obtain ⟨hx, hb, hr, hml, hown, hts0, hX, hbl, hlocks, hgv⟩ := C0
  have hts := ip_lg hts0
  obtain ⟨dC, dI, hK⟩ := ip_kn hts
  obtain ⟨aI, hI1, hI2⟩ := ip_arr (ty := .int) (hts _ fA4.1) (fun _ q => by cases q)
  obtain ⟨aB, hB1, hB2⟩ := ip_arr (ty := .byte) (hts _ fA4.2.1) (fun _ q => by cases q)
  obtain ⟨aZ, hZ1, hZ2⟩ := ip_arr (ty := .boolean) (hts _ fA4.2.2.1) (fun _ q => by cases q)
  obtain ⟨aJ, hJ1, hJ2⟩ := ip_arr (ty := .long) (hts _ fA4.2.2.2) (fun _ q => by cases q)
  obtain ⟨ad, sv, had, hsv, hold⟩ := oldP_ex (A := fun q => s.heap.size ≤ q) hgv hts0 (fun a ha y => by omega) b
  obtain ⟨GX, hGX⟩ : ∃ GX : State → Prop, GX = fun U => (va_X b L xs U U.heap ∧ ∀ w ∈ ip_nst, va_Nw w U) ∧ oldP ad (fun q => s.heap.size ≤ q) sv U := ⟨_, rfl⟩
  obtain ⟨dA, hdA⟩ : ∃ dA : FieldType → ClassId, dA = fun ty => match ty with | .int => aI | .byte => aB | .boolean => aZ | _ => aJ := ⟨_, rfl⟩
  obtain ⟨Gr, hGr⟩ : ∃ Gr : va_G × (FieldType → ClassId) × Nat × (Nat → Nat) × (State → Prop), Gr = ((dC, dI), dA, s.heap.size, ad, GX) := ⟨_, rfl⟩
  have hgk : ip_gk (lg_tbl, vwCl, Gr) := by
    refine ⟨rfl, rfl, ?_, ?_⟩
    · rw [hGr]
      intro U U' hv hh hq
      have hq : GX U := hq
      show GX U'
      rw [hGX] at hq ⊢
      have hal : U.vm.Alike U'.vm := by
        rcases hv with hv | hv
        · rw [hv]; exact Vm.Alike.refl _
        · exact hv.alike
      refine ⟨⟨(hq.1.1.moved hal).kept (hh b hbl), fun w hw => ?_⟩, oldP_mv hv hh hq.2⟩
      obtain ⟨a1, a2, a3, a4, rfl⟩ := ip_nst_w w hw
      rcases hv with hv | hv
      · exact va_Nw.same rfl hv (hq.1.2 _ hw)
      · exact va_Nw.warmM hv (hq.1.2 _ hw)
    · rw [hGr]
      intro w hw U hq
      have hq : GX U := hq
      rw [hGX] at hq
      exact hq.1.2 w hw
  have oX : ∀ U : State, ip_X (lg_tbl, vwCl, Gr) U → oldP ad (fun q => s.heap.size ≤ q) sv U := by
    rw [hGr]
    intro U hq
    have hq : GX U := hq
    rw [hGX] at hq
    exact hq.2
  have hO : ip_old (lg_tbl, vwCl, Gr) := by
    have eO : ip_O (lg_tbl, vwCl, Gr) = ad := by rw [hGr]; rfl
    have eA : ip_Ab (lg_tbl, vwCl, Gr) = fun q => s.heap.size ≤ q := by rw [hGr]; rfl
    unfold ip_old ip_str
    rw [eO, eA]
    refine ⟨fun U q => (oX U q).1, fun U q => (oX U q).2.1, fun U q => (oX U q).2.2.1, ?_, ⟨fun U q => (oX U q).2.2.2.2.1.1, fun U q => (oX U q).2.2.2.2.1.2⟩, ⟨fun U q => (oX U q).2.2.2.2.2.1.1, fun U q => (oX U q).2.2.2.2.2.1.2⟩, ⟨fun U q => (oX U q).2.2.2.2.2.2.1.1, fun U q => (oX U q).2.2.2.2.2.2.1.2⟩, ⟨fun U q => (oX U q).2.2.2.2.2.2.2.1.1, fun U q => (oX U q).2.2.2.2.2.2.2.1.2⟩, ⟨fun U q => (oX U q).2.2.2.2.2.2.2.2.1.1, fun U q => (oX U q).2.2.2.2.2.2.2.2.1.2⟩, ⟨fun U q => (oX U q).2.2.2.2.2.2.2.2.2.1.1, fun U q => (oX U q).2.2.2.2.2.2.2.2.2.1.2⟩, ⟨fun U q => (oX U q).2.2.2.2.2.2.2.2.2.2.1.1, fun U q => (oX U q).2.2.2.2.2.2.2.2.2.2.1.2⟩, ⟨fun U q => (oX U q).2.2.2.2.2.2.2.2.2.2.2.1.1, fun U q => (oX U q).2.2.2.2.2.2.2.2.2.2.2.1.2⟩, ⟨fun U q => (oX U q).2.2.2.2.2.2.2.2.2.2.2.2.1.1, fun U q => (oX U q).2.2.2.2.2.2.2.2.2.2.2.2.1.2⟩, ⟨fun U q => (oX U q).2.2.2.2.2.2.2.2.2.2.2.2.2.1.1, fun U q => (oX U q).2.2.2.2.2.2.2.2.2.2.2.2.2.1.2⟩, ⟨fun U q => (oX U q).2.2.2.2.2.2.2.2.2.2.2.2.2.2.1.1, fun U q => (oX U q).2.2.2.2.2.2.2.2.2.2.2.2.2.2.1.2⟩, ⟨fun U q => (oX U q).2.2.2.2.2.2.2.2.2.2.2.2.2.2.2.1.1, fun U q => (oX U q).2.2.2.2.2.2.2.2.2.2.2.2.2.2.2.1.2⟩, ⟨fun U q => (oX U q).2.2.2.2.2.2.2.2.2.2.2.2.2.2.2.2.1.1, fun U q => (oX U q).2.2.2.2.2.2.2.2.2.2.2.2.2.2.2.2.1.2⟩, ⟨fun U q => (oX U q).2.2.2.2.2.2.2.2.2.2.2.2.2.2.2.2.2.1, fun U q => (oX U q).2.2.2.2.2.2.2.2.2.2.2.2.2.2.2.2.2.2⟩⟩
    rcases hsv with e | e
    · exact ⟨.null, Or.inl rfl, fun U q => by have := (oX U q).2.2.2.1; rw [e] at this; exact this⟩
    · refine ⟨.ref 31, Or.inr rfl, fun U q => ?_⟩
      have := (oX U q).2.2.2.1
      rw [e] at this
      rw [show ip_v (lg_tbl, vwCl, Gr) (.ref 31) = .ref (ad 31) by rw [hGr]; rfl]
      exact this
  obtain ⟨h', hl1, hl2, hRn⟩ := hR Gr hgk hO (by
    rw [hGr]
    intro U hq
    have hq : GX U := hq
    rw [hGX] at hq
    show va_X (ad 0) L xs U U.heap
    rw [had]
    exact hq.1.1) (by rw [hGr]; show ad 0 < s.heap.size; rw [had]; exact hbl)
  have hXs : ip_X (lg_tbl, vwCl, Gr) s := by
    rw [hGr]
    show GX s
    rw [hGX]
    refine ⟨⟨hX, fun w hw => ?_⟩, hold⟩
    have hw2 := hts0 w (ip_nst_in w hw)
    obtain ⟨a1, a2, a3, a4, rfl⟩ := ip_nst_w w hw
    exact va_Nw.of rfl hw2
  have hBs : ip_B (lg_tbl, vwCl, Gr) = s.heap.size := by rw [hGr]; rfl
  have hU : ip_U (lg_tbl, vwCl, Gr) s := by
    refine ⟨by rw [hBs]; exact Nat.le_refl _, ⟨by rw [hGr]; exact hK, ?_⟩, hXs⟩
    rw [hGr, hdA]
    intro k q hq
    match k, hq with
    | 0, hq => cases hq; exact ⟨hI1, hI2⟩
    | 1, hq => cases hq; exact ⟨hB1, hB2⟩
    | 2, hq => cases hq; exact ⟨hZ1, hZ2⟩
    | 3, hq => cases hq; exact ⟨hJ1, hJ2⟩
    | k + 4, hq => simp [ip_ty] at hq
  have Cx : ip_Cx (lg_tbl, vwCl, Gr) M_La_law p s m #[Value.ref b] meth c := ⟨hx, hb, hr, hml, hown, hts, hlocks, fun q => absurd q (by decide), hU⟩
  have hent := ip_entry (lg_tbl, vwCl, Gr) [.ref 0] 4 (Nat.le_of_ble_eq_true rfl)
  have e0 : [Value.ref 0].map (ip_v (lg_tbl, vwCl, Gr)) = [Value.ref b] := by rw [hGr]; show [Value.ref (ad 0)] = _; rw [had]
  rw [e0] at hent
  rw [lg_entry_eq]
  refine hRn.2 p e room_1 s m #[Value.ref b] below meth c _ s.heap [] 0 0 _ Cx hd (by show 41 * d ≤ 84000; omega) (by show 0 + h'.length ≤ 468528 + 0; omega) (by show 0 + ip_t h' ≤ 7696666 + 0; omega) hent ⟨by rw [hBs]; rfl, fun k q h => by simp [ip_ws] at h⟩ va_S.rf ?_
  intro pc' ls' H' locs' hdg hSt' hS'
  refine va_forget (fun q hq => by have := hS'.2.2 q hq; rw [hBs] at this; exact this) ?_
  refine W.widen (k := 468528) (n := 7696666) (by show 0 + (h'.length - 0) ≤ _; omega) (by show 0 + (ip_t h' - 0) ≤ _; omega) ?_
  exact lw_ret hx hb hr hlocks hdg
