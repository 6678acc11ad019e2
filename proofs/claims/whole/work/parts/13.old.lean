/-! old cells: static rows, String constants -/
section OLD
variable {l : Launch} {G : ip_G} {M : ip_M} {d pc : Nat} {L : List (Option Value)} {st : List Value} {h : ip_H} {r : Option Value × ip_H}
abbrev ip_Ab (G : ip_G) : Nat → Prop := fun q => ip_B G ≤ q
theorem ip_gets {idx : Nat} {C n ds : String} {v : Value} (hd : decode M.2.1 pc = .ok (.getstatic idx, 3)) (hX : ∀ U : State, ip_X G U → va_Z C n ds (ip_v G v) (ip_Ab G) U U.heap) (hl : Cond.fieldLink M.1.cls idx C n ds ∈ ip_T G)
    (kk : ip_Rn l G M d (pc + 3) L (v :: st) h r) : ip_Rn l G M d pc L st h r :=
  ⟨kk.1, fun p e R s m args below meth c Q H locs cells slots ls Cx hdp hlo hce hsl hL hSt hS kt =>
    va_gets Cx.1 Cx.2.1 (hX s Cx.2.2.2.2.2.2.2.2.2.2) hS Cx.2.2.2.2.1 (Cx.2.2.2.2.2.1 _ hl) (fun _ q => q) hd (kk.2 p e R s m args below meth c Q H locs cells slots ls Cx hdp hlo hce hsl hL hSt hS kt)⟩
theorem ip_oref {n : Nat} (hn : n < 32) : ip_v G (.ref n) = .ref (ip_O G n) := by
  show Value.ref (ip_a G n) = _
  unfold ip_a
  rw [if_pos hn]
theorem ip_ti {n N : Nat} {f : Nat → Int32} {i : Int32} (hd : decode M.2.1 pc = .ok (.iaload, 1)) (hn : n < 32) (hT : ∀ U : State, ip_X G U → va_T .int (ip_O G n) N (fun j => .int (f j)) (ip_Ab G) U U.heap) (hin : vp_in i N) (kk : ip_Rn l G M d (pc + 1) L (.int (f i.toNatClampNeg) :: st) h r) : ip_Rn l G M d pc L (.int i :: .ref n :: st) h r :=
  ⟨kk.1, fun p e R s m args below meth c Q H locs cells slots ls Cx hdp hlo hce hsl hL hSt hS kt => by
    rw [List.map_cons, List.map_cons, ip_oref hn]
    exact va_ti Cx.1 Cx.2.1 (hT s Cx.2.2.2.2.2.2.2.2.2.2) hS hin rfl hd (kk.2 p e R s m args below meth c Q H locs cells slots ls Cx hdp hlo hce hsl hL hSt hS kt)⟩
theorem ip_tb {n N : Nat} {f : Nat → Int32} {i : Int32} (hd : decode M.2.1 pc = .ok (.baload, 1)) (hn : n < 32) (hT : ∀ U : State, ip_X G U → va_T .byte (ip_O G n) N (fun j => .int (f j)) (ip_Ab G) U U.heap) (hin : vp_in i N) (kk : ip_Rn l G M d (pc + 1) L (.int (f i.toNatClampNeg) :: st) h r) : ip_Rn l G M d pc L (.int i :: .ref n :: st) h r :=
  ⟨kk.1, fun p e R s m args below meth c Q H locs cells slots ls Cx hdp hlo hce hsl hL hSt hS kt => by
    rw [List.map_cons, List.map_cons, ip_oref hn]
    exact va_tb Cx.1 Cx.2.1 (hT s Cx.2.2.2.2.2.2.2.2.2.2) hS hin rfl hd (kk.2 p e R s m args below meth c Q H locs cells slots ls Cx hdp hlo hce hsl hL hSt hS kt)⟩
theorem ip_tlen {n N : Nat} {ty : FieldType} {f : Nat → Value} (hd : decode M.2.1 pc = .ok (.arraylength, 1)) (hn : n < 32) (hT : ∀ U : State, ip_X G U → va_T ty (ip_O G n) N f (ip_Ab G) U U.heap) (kk : ip_Rn l G M d (pc + 1) L (.int (nI N) :: st) h r) : ip_Rn l G M d pc L (.ref n :: st) h r :=
  ⟨kk.1, fun p e R s m args below meth c Q H locs cells slots ls Cx hdp hlo hce hsl hL hSt hS kt => by
    rw [List.map_cons, ip_oref hn]
    exact va_tlen Cx.1 Cx.2.1 (hT s Cx.2.2.2.2.2.2.2.2.2.2) hS rfl hd (kk.2 p e R s m args below meth c Q H locs cells slots ls Cx hdp hlo hce hsl hL hSt hS kt)⟩
theorem ip_ogetf {idx k : Nat} {o n ds : String} {v : Value} (hd : decode M.2.1 pc = .ok (.getfield idx, 3)) (hk : k < 32) (hX : ∀ U : State, ip_X G U → va_OF o n ds (ip_v G v) (ip_O G k) (ip_Ab G) U U.heap) (hl : Cond.fieldLink M.1.cls idx o n ds ∈ ip_T G)
    (kk : ip_Rn l G M d (pc + 3) L (v :: st) h r) : ip_Rn l G M d pc L (.ref k :: st) h r :=
  ⟨kk.1, fun p e R s m args below meth c Q H locs cells slots ls Cx hdp hlo hce hsl hL hSt hS kt => by
    rw [List.map_cons, ip_oref hk]
    exact vk_getf Cx.1 Cx.2.1 (hX s Cx.2.2.2.2.2.2.2.2.2.2) hS Cx.2.2.2.2.1 (Cx.2.2.2.2.2.1 _ hl) (fun _ q => q) hd (kk.2 p e R s m args below meth c Q H locs cells slots ls Cx hdp hlo hce hsl hL hSt hS kt)⟩
theorem ip_ldcS {idx k : Nat} {tx : String} (hd : decode M.2.1 pc = .ok (.ldc idx, 2)) (hk : k < 32) (hX : ∀ U : State, ip_X G U → vk_R M.1.cls idx tx (ip_O G k) U) (kk : ip_Rn l G M d (pc + 2) L (.ref k :: st) h r) : ip_Rn l G M d pc L st h r :=
  ⟨kk.1, fun p e R s m args below meth c Q H locs cells slots ls Cx hdp hlo hce hsl hL hSt hS kt => by
    have := kk.2 p e R s m args below meth c Q H locs cells slots ls Cx hdp hlo hce hsl hL hSt hS kt
    rw [List.map_cons, ip_oref hk] at this
    exact va_ldcS Cx.1 Cx.2.1 Cx.2.2.2.2.1 (hX s Cx.2.2.2.2.2.2.2.2.2.2) hd this⟩
theorem ip_callVO {idx n : Nat} {As : List Value} {M' : ip_M} {r1 : Option Value × ip_H} (hmv : ip_mv G) (hT : ip_okT (ip_T G)) (hM : ip_okM (ip_T G) M') (hd : decode M.2.1 pc = .ok (.invokevirtual idx, 3))
    (hln : Cond.methodLink M.1.cls idx M'.1 ∈ ip_T G ∧ Cond.instanceMethod M'.1 ∈ ip_T G ∧ Cond.selects M'.1.cls M'.1 M'.1 ∈ ip_T G) (hpar : (parseMethodDescriptor M'.1.desc).map (fun q => q.parameters.length) = some As.length)
    (hn : n < 32) (hO : ∀ U : State, ip_X G U → va_O M'.1.cls (ip_O G n) (ip_Ab G) U U.heap) (hsm : (st.map fun v => v.category).sum ≤ 8) (hm : ip_RnM l G M' d (.ref n :: As) h r1)
    (kk : ip_Rn l G M (d + 1) (pc + 3) L (r1.1.toList ++ st) r1.2 r) : ip_Rn l G M (d + 1) pc L (As.reverse ++ .ref n :: st) h r := by
  refine ⟨⟨Nat.le_trans hm.1.1 kk.1.1, Nat.le_trans hm.1.2 kk.1.2⟩, fun p e R s m args below meth c Q H locs cells slots ls Cx hdp hlo hce hsl hL hSt hS kt => ?_⟩
  have Cx0 := Cx
  obtain ⟨hx, hb, -, hml, hown, hts, -, -, hU⟩ := Cx
  have m1 := hm.1
  have k1 := kk.1
  have hcb : CallB R s args M.1.cls idx M'.1 M'.2.1 M'.2.2.1 M'.2.2.2 (ip_w G M') (ip_rm d h r1) (r1.2.length - h.length) (ip_t r1.2 - ip_t h) As.length :=
    callB_of As.length hts (ip_goodw hT hM) rfl rfl rfl (hts _ hM.2.2.2.2) (hts _ hln.1) ⟨hM.2.1.1, hM.2.1.2, hpar⟩ ⟨hdp, by have := hM.2.2.1; show 8 + (M'.2.2.1 + 11) + 41 * d ≤ R.locals; omega⟩
  have hrun := va_runV (e := e) (below := below) (meth := meth) (As := As.map (ip_v G)) (rest := st.map (ip_v G)) (g := F0 m pc ls ((As.reverse ++ .ref n :: st).map (ip_v G))) ⟨hx, hb, hml, hown, hts⟩ hm.2 ⟨hcb, hts _ hln.2.1, hts _ hln.2.2⟩
    ⟨ip_blind G hmv _ _, by
      obtain ⟨cell, g1, g2, g3, -⟩ := (hO s hU.2.2).kept hS.2.1
      rw [show ip_a G n = ip_O G n from if_pos hn]
      exact ⟨cell, g1, g2, g3⟩, ip_pre (As := .ref n :: As) hmv hU hSt hS⟩ rfl (by rw [List.length_map]) hL.1 (by simp [ip_v]) (lv_room (m := m) (pc := pc) (ls := ls) (rest := []) (by rw [ip_cats]; exact hsm)) hd (locs := locs) (cells := cells) (slots := slots) ⟨by omega, by omega⟩
  refine ip_after hrun hS (fun H1 locs1 a1 a2 => ?_)
  have := kk.2 p e R s m args below meth c Q H1 locs1 (cells + (r1.2.length - h.length)) (slots + (ip_t r1.2 - ip_t h)) ls Cx0 hdp hlo (by omega) (by omega) hL a1 a2 (fun pc' ls' H'' locs' w1 w2 w3 => by
    have q := kt pc' ls' H'' locs' w1 w2 w3
    rw [show cells + (r1.2.length - h.length) + (r.2.length - r1.2.length) = cells + (r.2.length - h.length) by omega, show slots + (ip_t r1.2 - ip_t h) + (ip_t r.2 - ip_t r1.2) = slots + (ip_t r.2 - ip_t h) by omega]
    exact q)
  rw [List.map_append] at this
  cases hv : r1.1 with
  | none => rw [hv] at this; exact this
  | some v => rw [hv] at this; exact this
end OLD
