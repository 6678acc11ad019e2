/-! THE CLAIM OUT OF ONE WALK OF THE LAW'S BODY. Your part is whole_start (and what it stands on); all else here is the same for every law, but numbers. -/
def R_law : String := "ShareHouseLaw"
def lw_P (b : Addr) (xs : List Int32) (args : Array Value) (s : State) : Prop := args = #[.ref b] ∧ s.IntsAt b xs ∧ xs.length ≤ 8 ∧ (Jvm.Cond.and given_1 narrow_1).before args s = true
def lw_Q (_ : Array Value) (s : State) (o : Outcome) (t : State) : Prop := o = .returned (some (.int 1)) ∧ Framed s o t [] 467681 7699206
def lw_Z (below : List Frame) (a : Array Value) (s : State) : State → Prop := fun t => ∃ o, t.status = .running ∧ Ended t below o ∧ lw_Q a s o t
/-- the law's own end, with 1 on the stack, nothing written that was there before, its room as the claim has it -/
theorem lw_ret {p : Program} {l : Launch} {e : Env} {s : State} {m : MethodId} {below : List Frame} {meth : Method} {c : Code} {b : Nat} (hx : p.tables.exec = Jvm.exec) (hb : c.code = code) (hr : meth.sig.returnType = ret) (hlocks : meth.locks = false) {pc : Nat} {H : Heap} {ls : Array Slot} (hdg : decode code pc = .ok (.ireturn, 1)) : W p l e room_1 s m #[Value.ref b] below meth c H [] 467681 7699206 (lw_Z below #[Value.ref b] s) (F0 m pc ls [.int 1]) := by
  intro T hT X
  obtain ⟨fs, hret, hrun, hended, hW, hframe⟩ := X.leave (v := some (.int 1)) (hlocks := hlocks) (fun h => by rw [hr] at h; cases h)
  have hmeth' : T.vm.method? m = some meth := X.method'
  refine ⟨T.setFrames fs, ?_, .returned (some (.int 1)), hrun, hended, rfl, ⟨_, rfl⟩, hW, hframe⟩
  jvm_step X.here [X.here.top, hx, hb, hdg, hmeth', hr, ret, narrow_b1]
  (try refine ⟨rfl, ?_⟩); (try refine ⟨rfl, ?_⟩)
  first | (intro acts; rw [hret _ acts rfl rfl rfl]) | rw [hret _ _ rfl rfl rfl]
  exact Steps.refl _
/-- what holds at the law's entry: the machine, the code, the tables' words (any of lw_tbl by 'hts w (by decide +kernel)'), the script of L ints xs at the cell b, what the Statement gives of the start (any of its parts by flat_of_before) -/
def lw_At (p : Program) (s : State) (m : MethodId) (meth : Method) (c : Code) (b L : Nat) (xs : Nat → Int32) : Prop :=
  p.tables.exec = Jvm.exec ∧ c.code = code ∧ meth.sig.returnType = ret ∧ c.maxLocals = 4 ∧ s.vm.findClass R_law = some m.cls ∧ (∀ w ∈ lw_tbl, w.before #[Value.ref b] s = true) ∧ va_X b L xs s s.heap ∧ b < s.heap.size ∧ meth.locks = false ∧ (Jvm.Cond.and given_1 narrow_1).before #[Value.ref b] s = true
theorem ip_lg {args : Array Value} {s : State} (hts : ∀ w ∈ lw_tbl, w.before args s = true) : ∀ w ∈ lg_tbl, w.before args s = true := fun w h => hts w (List.mem_filter.mp h).1
theorem ip_kn {args : Array Value} {s : State} (hts : ∀ w ∈ lg_tbl, w.before args s = true) : ∃ (dC : Nat → ClassId) (dI : Nat → Nat → Nat), ∀ (k : Nat) (q : vw_C), vwCl[k]? = some q → u_Kn s q.1 q.2.1 q.2.2 (dC k) (dI k) := by
  obtain ⟨c0, i0, h0⟩ := u_known (C := RX0) (T := TX0) (N := 19) (n := 19) hts wsX0_in (hts (.instantiable RX0 19) (tt_2 _ (List.mem_of_getElem? (i := 128) rfl) rfl))
  obtain ⟨c1, i1, h1⟩ := u_known (C := RX1) (T := TX1) (N := 15) (n := 15) hts wsX1_in (hts (.instantiable RX1 15) (tt_1 _ (List.mem_of_getElem? (i := 192) rfl) rfl))
  obtain ⟨c2, i2, h2⟩ := u_known (C := RX2) (T := TX2) (N := 7) (n := 7) hts wsX2_in (hts (.instantiable RX2 7) (tt_1 _ (List.mem_of_getElem? (i := 37) rfl) rfl))
  obtain ⟨c3, i3, h3⟩ := u_known (C := RX3) (T := TX3) (N := 9) (n := 9) hts wsX3_in (hts (.instantiable RX3 9) (tt_2 _ (List.mem_of_getElem? (i := 222) rfl) rfl))
  obtain ⟨c4, i4, h4⟩ := u_known (C := RX4) (T := TX4) (N := 8) (n := 8) hts wsX4_in (hts (.instantiable RX4 8) (tt_1 _ (List.mem_of_getElem? (i := 143) rfl) rfl))
  obtain ⟨c5, i5, h5⟩ := u_known (C := RX5) (T := TX5) (N := 7) (n := 7) hts wsX5_in (hts (.instantiable RX5 7) (tt_2 _ (List.mem_of_getElem? (i := 134) rfl) rfl))
  obtain ⟨c6, i6, h6⟩ := u_known (C := RX6) (T := TX6) (N := 13) (n := 13) hts wsX6_in (hts (.instantiable RX6 13) (tt_1 _ (List.mem_of_getElem? (i := 84) rfl) rfl))
  obtain ⟨c7, i7, h7⟩ := u_known (C := RX7) (T := TX7) (N := 15) (n := 15) hts wsX7_in (hts (.instantiable RX7 15) (tt_3 _ (List.mem_of_getElem? (i := 19) rfl) rfl))
  obtain ⟨c8, i8, h8⟩ := u_known (C := RX8) (T := TX8) (N := 11) (n := 11) hts wsX8_in (hts (.instantiable RX8 11) (tt_2 _ (List.mem_of_getElem? (i := 23) rfl) rfl))
  obtain ⟨c9, i9, h9⟩ := u_known (C := RX9) (T := TX9) (N := 11) (n := 11) hts wsX9_in (hts (.instantiable RX9 11) (tt_2 _ (List.mem_of_getElem? (i := 88) rfl) rfl))
  obtain ⟨c10, i10, h10⟩ := u_known (C := RX10) (T := TX10) (N := 5) (n := 5) hts wsX10_in (hts (.instantiable RX10 5) (tt_2 _ (List.mem_of_getElem? (i := 29) rfl) rfl))
  obtain ⟨c11, i11, h11⟩ := u_known (C := RX11) (T := TX11) (N := 17) (n := 17) hts wsX11_in (hts (.instantiable RX11 17) (tt_1 _ (List.mem_of_getElem? (i := 23) rfl) rfl))
  obtain ⟨c12, i12, h12⟩ := u_known (C := RX12) (T := TX12) (N := 146) (n := 146) hts wsX12_in (hts (.instantiable RX12 146) (tt_7 _ (List.mem_of_getElem? (i := 43) rfl) rfl))
  refine ⟨fun k => match k with | 0 => c0 | 1 => c1 | 2 => c2 | 3 => c3 | 4 => c4 | 5 => c5 | 6 => c6 | 7 => c7 | 8 => c8 | 9 => c9 | 10 => c10 | 11 => c11 | _ => c12, fun k => match k with | 0 => i0 | 1 => i1 | 2 => i2 | 3 => i3 | 4 => i4 | 5 => i5 | 6 => i6 | 7 => i7 | 8 => i8 | 9 => i9 | 10 => i10 | 11 => i11 | _ => i12, fun k q hq => ?_⟩
  match k, hq with
  | 0, hq => cases hq; exact h0
  | 1, hq => cases hq; exact h1
  | 2, hq => cases hq; exact h2
  | 3, hq => cases hq; exact h3
  | 4, hq => cases hq; exact h4
  | 5, hq => cases hq; exact h5
  | 6, hq => cases hq; exact h6
  | 7, hq => cases hq; exact h7
  | 8, hq => cases hq; exact h8
  | 9, hq => cases hq; exact h9
  | 10, hq => cases hq; exact h10
  | 11, hq => cases hq; exact h11
  | 12, hq => cases hq; exact h12
  | k + 13, hq => simp [vwCl] at hq
theorem ip_nst_w : ∀ w ∈ ip_nst, ∃ (a : String) (i : Nat) (x : MethodName) (h : String), w = .methodLinkNest a i x h := List.forall_mem_cons.mpr ⟨⟨_, _, _, _, rfl⟩, List.forall_mem_cons.mpr ⟨⟨_, _, _, _, rfl⟩, List.forall_mem_cons.mpr ⟨⟨_, _, _, _, rfl⟩, List.forall_mem_nil _⟩⟩⟩
theorem ip_nst_in : ∀ w ∈ ip_nst, w ∈ lw_tbl := List.forall_mem_cons.mpr ⟨List.mem_append_right _ (List.mem_append_left _ (List.mem_of_getElem? (i := 38) rfl)), List.forall_mem_cons.mpr ⟨List.mem_append_right _ (List.mem_append_right _ (List.mem_append_right _ (List.mem_append_right _ (List.mem_append_right _ (List.mem_append_right _ (List.mem_append_left _ (List.mem_of_getElem? (i := 101) rfl))))))), List.forall_mem_cons.mpr ⟨List.mem_append_right _ (List.mem_append_right _ (List.mem_append_right _ (List.mem_append_right _ (List.mem_append_right _ (List.mem_append_right _ (List.mem_append_right _ (List.mem_append_left _ (List.mem_of_getElem? (i := 14) rfl)))))))), List.forall_mem_nil _⟩⟩⟩
theorem ip_arr {args : Array Value} {s : State} {ty : FieldType} (h : (Cond.arrayClass ty).before args s = true) (hp : ∀ C, ty ≠ .object C) : ∃ cA : ClassId, ArrOfT s cA ty ∧ va_RA s cA ty := by
  obtain ⟨c, k, comp, h1, h2, h3⟩ := Cond.arrayClass_spec h
  refine ⟨c, fun n z => ⟨fun k' q => (by cases q), k, h2, comp, h3⟩, ?_⟩
  cases ty <;> first | exact h1 | exact absurd rfl (hp _)
theorem ip_whole {p : Program} {e : Env} {s : State} {m : MethodId} {below : List Frame} {meth : Method} {c : Code} (l : Launch) {b L : Nat} {xs : Nat → Int32} (C0 : lw_At p s m meth c b L xs) (d : Nat) (hd : d ≤ 2048)
    (hR : ∀ Gr, ip_gk (lg_tbl, vwCl, Gr) → (∀ U : State, ip_X (lg_tbl, vwCl, Gr) U → va_X (ip_O (lg_tbl, vwCl, Gr) 0) L xs U U.heap) → ip_O (lg_tbl, vwCl, Gr) 0 < ip_B (lg_tbl, vwCl, Gr) → ∃ h' : ip_H, h'.length ≤ 467681 ∧ ip_t h' ≤ 7699206 ∧ ip_Rn l (lg_tbl, vwCl, Gr) M_La_law d 0 [some (.ref 0), none, none, none] [] [] (some (.int 1), h')) :
    W p l e room_1 s m #[Value.ref b] below meth c s.heap [] 0 0 (lw_Z below #[Value.ref b] s) (entryFrame m ([Value.ref b] : List Value).toArray 4) := by
  obtain ⟨hx, hb, hr, hml, hown, hts0, hX, hbl, hlocks, hgv⟩ := C0
  have hts := ip_lg hts0
  obtain ⟨dC, dI, hK⟩ := ip_kn hts
  obtain ⟨aI, hI1, hI2⟩ := ip_arr (ty := .int) (hts _ fA4.1) (fun _ q => by cases q)
  obtain ⟨aB, hB1, hB2⟩ := ip_arr (ty := .byte) (hts _ fA4.2.1) (fun _ q => by cases q)
  obtain ⟨aZ, hZ1, hZ2⟩ := ip_arr (ty := .boolean) (hts _ fA4.2.2.1) (fun _ q => by cases q)
  obtain ⟨aJ, hJ1, hJ2⟩ := ip_arr (ty := .long) (hts _ fA4.2.2.2) (fun _ q => by cases q)
  obtain ⟨GX, hGX⟩ : ∃ GX : State → Prop, GX = fun U => va_X b L xs U U.heap ∧ ∀ w ∈ ip_nst, va_Nw w U := ⟨_, rfl⟩
  obtain ⟨dA, hdA⟩ : ∃ dA : FieldType → ClassId, dA = fun ty => match ty with | .int => aI | .byte => aB | .boolean => aZ | _ => aJ := ⟨_, rfl⟩
  obtain ⟨Gr, hGr⟩ : ∃ Gr : va_G × (FieldType → ClassId) × Nat × (Nat → Nat) × (State → Prop), Gr = ((dC, dI), dA, s.heap.size, (fun _ => b), GX) := ⟨_, rfl⟩
  have hgk : ip_gk (lg_tbl, vwCl, Gr) := by
    refine ⟨rfl, rfl, ?_, ?_⟩
    · rw [hGr]
      intro U U' hv hh hq
      have hq : GX U := hq
      show GX U'
      rw [hGX] at hq ⊢
      have hal : U.vm.Alike U'.vm := by
        rcases hv with hv | hv
        · rw [hv]; exact Vm.Alike.refl _
        · exact hv.alike
      refine ⟨(hq.1.moved hal).kept (hh b hbl), fun w hw => ?_⟩
      obtain ⟨a1, a2, a3, a4, rfl⟩ := ip_nst_w w hw
      rcases hv with hv | hv
      · exact va_Nw.same rfl hv (hq.2 _ hw)
      · exact va_Nw.warmM hv (hq.2 _ hw)
    · rw [hGr]
      intro w hw U hq
      have hq : GX U := hq
      rw [hGX] at hq
      exact hq.2 w hw
  obtain ⟨h', hl1, hl2, hRn⟩ := hR Gr hgk (by
    rw [hGr]
    intro U hq
    have hq : GX U := hq
    rw [hGX] at hq
    exact hq.1) (by rw [hGr]; exact hbl)
  have hXs : ip_X (lg_tbl, vwCl, Gr) s := by
    rw [hGr]
    show GX s
    rw [hGX]
    refine ⟨hX, fun w hw => ?_⟩
    have hw2 := hts0 w (ip_nst_in w hw)
    obtain ⟨a1, a2, a3, a4, rfl⟩ := ip_nst_w w hw
    exact va_Nw.of rfl hw2
  have hBs : ip_B (lg_tbl, vwCl, Gr) = s.heap.size := by rw [hGr]; rfl
  have hU : ip_U (lg_tbl, vwCl, Gr) s := by
    refine ⟨by rw [hBs]; exact Nat.le_refl _, ⟨by rw [hGr]; exact hK, ?_⟩, hXs⟩
    rw [hGr, hdA]
    intro k q hq
    match k, hq with
    | 0, hq => cases hq; exact ⟨hI1, hI2⟩
    | 1, hq => cases hq; exact ⟨hB1, hB2⟩
    | 2, hq => cases hq; exact ⟨hZ1, hZ2⟩
    | 3, hq => cases hq; exact ⟨hJ1, hJ2⟩
    | k + 4, hq => simp [ip_ty] at hq
  have Cx : ip_Cx (lg_tbl, vwCl, Gr) M_La_law p s m #[Value.ref b] meth c := ⟨hx, hb, hr, hml, hown, hts, hlocks, fun q => absurd q (by decide), hU⟩
  have hent := ip_entry (lg_tbl, vwCl, Gr) [.ref 0] 4 (Nat.le_of_ble_eq_true rfl)
  have e0 : [Value.ref 0].map (ip_v (lg_tbl, vwCl, Gr)) = [Value.ref b] := by rw [hGr]; rfl
  rw [e0] at hent
  rw [lg_entry_eq]
  refine hRn.2 p e room_1 s m #[Value.ref b] below meth c _ s.heap [] 0 0 _ Cx hd (by show 41 * d ≤ 84000; omega) (by show 0 + h'.length ≤ 467681 + 0; omega) (by show 0 + ip_t h' ≤ 7699206 + 0; omega) hent ⟨by rw [hBs]; rfl, fun k q h => by simp [ip_ws] at h⟩ va_S.rf ?_
  intro pc' ls' H' locs' hdg hSt' hS'
  refine va_forget (fun q hq => by have := hS'.2.2 q hq; rw [hBs] at this; exact this) ?_
  refine W.widen (k := 467681) (n := 7699206) (by show 0 + (h'.length - 0) ≤ _; omega) (by show 0 + (ip_t h' - 0) ≤ _; omega) ?_
  exact lw_ret hx hb hr hlocks hdg
