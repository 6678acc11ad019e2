section ZOLD
variable {l : Launch} {Gr : zG} {zc : zC} {K : Nat} {M : ip_M} {d pc : Nat} {L : zL} {st : List Value} {S : zS} {Q : Option Value → zS → Prop}
theorem z_gets {idx : Nat} {C n ds : String} {k : Nat} (hd : decode M.2.1 pc = .ok (.getstatic idx, 3)) (hk : k < 32) (hX : ∀ U : State, ip_X (lg_tbl, vwCl, Gr) U → va_Z C n ds (.ref (ip_O (lg_tbl, vwCl, Gr) k)) (ip_Ab (lg_tbl, vwCl, Gr)) U U.heap) (hl : Cond.fieldLink M.1.cls idx C n ds ∈ lg_tbl)
    (kk : zW l Gr zc K M d (pc + 3) L (.ref k :: st) S Q) : zW l Gr zc K M d pc L st S Q :=
  z_step (fun _ h => ip_gets (G := (lg_tbl, vwCl, Gr)) hd (fun U q => by rw [ip_oref hk]; exact hX U q) hl h) kk
theorem z_ti {n N : Nat} {f : Nat → Int32} {i : Int32} (hd : decode M.2.1 pc = .ok (.iaload, 1)) (hn : n < 32) (hT : ∀ U : State, ip_X (lg_tbl, vwCl, Gr) U → va_T .int (ip_O (lg_tbl, vwCl, Gr) n) N (fun j => .int (f j)) (ip_Ab (lg_tbl, vwCl, Gr)) U U.heap) (hin : vp_in i N) (kk : zW l Gr zc K M d (pc + 1) L (.int (f i.toNatClampNeg) :: st) S Q) : zW l Gr zc K M d pc L (.int i :: .ref n :: st) S Q :=
  z_step (fun _ h => ip_ti (G := (lg_tbl, vwCl, Gr)) hd hn hT hin h) kk
theorem z_tlenO {n N : Nat} {ty : FieldType} {f : Nat → Value} {v : Int32} (hd : decode M.2.1 pc = .ok (.arraylength, 1)) (hn : n < 32) (hT : ∀ U : State, ip_X (lg_tbl, vwCl, Gr) U → va_T ty (ip_O (lg_tbl, vwCl, Gr) n) N f (ip_Ab (lg_tbl, vwCl, Gr)) U U.heap) (hv : nI N = v) (kk : zW l Gr zc K M d (pc + 1) L (.int v :: st) S Q) : zW l Gr zc K M d pc L (.ref n :: st) S Q := by
  subst hv
  exact z_step (fun _ h => ip_tlen (G := (lg_tbl, vwCl, Gr)) hd hn hT h) kk
theorem z_ldcS {idx k : Nat} {tx : String} (hd : decode M.2.1 pc = .ok (.ldc idx, 2)) (hk : k < 32) (hX : ∀ U : State, ip_X (lg_tbl, vwCl, Gr) U → vk_R M.1.cls idx tx (ip_O (lg_tbl, vwCl, Gr) k) U) (kk : zW l Gr zc K M d (pc + 2) L (.ref k :: st) S Q) : zW l Gr zc K M d pc L st S Q :=
  z_step (fun _ h => ip_ldcS (G := (lg_tbl, vwCl, Gr)) hd hk hX h) kk
theorem z_slen {idx k N : Nat} {f : Nat → Int32} (hg : ip_gk (lg_tbl, vwCl, Gr)) (hd : decode M.2.1 pc = .ok (.invokevirtual idx, 3)) (hl : Cond.methodLink M.1.cls idx M_String_length.1 ∈ lg_tbl) (hk : k < 14) (hc : ∀ U : State, ip_X (lg_tbl, vwCl, Gr) U → va_Z "java/lang/String" "COMPACT_STRINGS" "Z" (.int 1) (ip_Ab (lg_tbl, vwCl, Gr)) U U.heap) (hs : ip_str (lg_tbl, vwCl, Gr) k N f) (hN : N < 2 ^ 31) (hsm : (st.map fun v => v.category).sum ≤ 8)
    (kk : zW l Gr zc K M (d + 4) (pc + 3) L (.int (nI N) :: st) S Q) : zW l Gr zc K M (d + 4) pc L (.ref (3 + k) :: st) S Q :=
  z_step (fun _ h => ip_callVO (G := (lg_tbl, vwCl, Gr)) (As := []) hg.2.2.1 fT oM_String_length hd ⟨hl, tt_3 _ (List.mem_of_getElem? (i := 196) rfl) rfl, tt_3 _ (List.mem_of_getElem? (i := 197) rfl) rfl⟩ rfl (by omega) (fun U q => (hs U q).1) hsm (s_length (d + 2) hk hc hs hg.2.2.1 hN) h) kk
theorem z_sch {idx k N : Nat} {f : Nat → Int32} {x : Int32} (hg : ip_gk (lg_tbl, vwCl, Gr)) (hd : decode M.2.1 pc = .ok (.invokevirtual idx, 3)) (hl : Cond.methodLink M.1.cls idx M_String_charAt.1 ∈ lg_tbl) (hk : k < 14) (hc : ∀ U : State, ip_X (lg_tbl, vwCl, Gr) U → va_Z "java/lang/String" "COMPACT_STRINGS" "Z" (.int 1) (ip_Ab (lg_tbl, vwCl, Gr)) U U.heap) (hsv : ∃ sv : Value, (sv = .null ∨ sv = .ref 31) ∧ ∀ U : State, ip_X (lg_tbl, vwCl, Gr) U → va_Z "jdk/internal/util/Preconditions" "SIOOBE_FORMATTER" "Ljava/util/function/BiFunction;" (ip_v (lg_tbl, vwCl, Gr) sv) (ip_Ab (lg_tbl, vwCl, Gr)) U U.heap) (hs : ip_str (lg_tbl, vwCl, Gr) k N f) (hN : N < 2 ^ 31) (hin : vp_in x N) (hsm : (st.map fun v => v.category).sum ≤ 8)
    (kk : zW l Gr zc K M (d + 4) (pc + 3) L (.int ((f x.toNatClampNeg &&& 255).toUInt32 % 65536).toInt32 :: st) S Q) : zW l Gr zc K M (d + 4) pc L (.int x :: .ref (3 + k) :: st) S Q := by
  obtain ⟨sv, h1, h2⟩ := hsv
  have h0 : ¬ x < 0 := fun q => hin (Or.inl q)
  obtain ⟨j, hj, rfl⟩ := nI_of h0
  have hjN : j < N := by
    have : ¬ N ≤ (nI j).toNatClampNeg := fun q => hin (Or.inr q)
    rw [nI_clamp hj] at this
    omega
  rw [nI_clamp hj] at kk
  exact z_step (fun _ h => ip_callVO (G := (lg_tbl, vwCl, Gr)) (As := [.int (nI j)]) hg.2.2.1 fT oM_String_charAt hd ⟨hl, tt_3 _ (List.mem_of_getElem? (i := 206) rfl) rfl, tt_3 _ (List.mem_of_getElem? (i := 207) rfl) rfl⟩ rfl (by omega) (fun U q => (hs U q).1) hsm (s_charAt d hk hc hs hg.2.2.1 hN h1 h2 hjN) h) kk
end ZOLD
theorem ip_ldcSw {l : Launch} {G : ip_G} {M : ip_M} {d pc : Nat} {L : List (Option Value)} {st : List Value} {h : ip_H} {r : Option Value × ip_H} {idx k : Nat} {tx : String} (hd : decode M.2.1 pc = .ok (.ldc_w idx, 3)) (hk : k < 32) (hX : ∀ U : State, ip_X G U → vk_R M.1.cls idx tx (ip_O G k) U) (kk : ip_Rn l G M d (pc + 3) L (.ref k :: st) h r) : ip_Rn l G M d pc L st h r :=
  ⟨kk.1, fun p e R s m args below meth c Q H locs cells slots ls Cx hdp hlo hce hsl hL hSt hS kt => by
    have := kk.2 p e R s m args below meth c Q H locs cells slots ls Cx hdp hlo hce hsl hL hSt hS kt
    rw [List.map_cons, ip_oref hk] at this
    have hZ := hX s Cx.2.2.2.2.2.2.2.2.2.2
    intro T hT X
    obtain ⟨t, a1, b1⟩ := this T hT X
    have hb := Cx.2.1
    exact ⟨t, X.ldcStringW Cx.1 Cx.2.2.2.2.1 (text := tx) (a := ip_O G k) hZ.1 hZ.2 (g := F0 m pc ls (st.map (ip_v G))) rfl (by rw [hb]; exact hd) t a1, b1⟩⟩
theorem z_ldcSw {l : Launch} {Gr : zG} {zc : zC} {K : Nat} {M : ip_M} {d pc : Nat} {L : zL} {st : List Value} {S : zS} {Q : Option Value → zS → Prop} {idx k : Nat} {tx : String} (hd : decode M.2.1 pc = .ok (.ldc_w idx, 3)) (hk : k < 32) (hX : ∀ U : State, ip_X (lg_tbl, vwCl, Gr) U → vk_R M.1.cls idx tx (ip_O (lg_tbl, vwCl, Gr) k) U) (kk : zW l Gr zc K M d (pc + 3) L (.ref k :: st) S Q) : zW l Gr zc K M d pc L st S Q :=
  z_step (fun _ h => ip_ldcSw (G := (lg_tbl, vwCl, Gr)) hd hk hX h) kk
