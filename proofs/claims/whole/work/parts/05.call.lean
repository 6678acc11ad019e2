/-! returns -/
def ip_rok (ret : Option FieldType) (v : Option Value) : Prop := match ret, v with
  | none, none => True
  | some .long, some (.long _) => True
  | some (.object _), some (.ref _) => True
  | some (.array _), some (.ref _) => True
  | some ty, some (.int x) => narrow ty (.int x) = .int x ∧ ty ≠ .long
  | _, _ => False
def ip_w (G : ip_G) (M : ip_M) : List Cond := Cond.code M.1 M.2.1 M.2.2.1 M.2.2.2 :: ip_T G
def ip_rm (d : Nat) (h : ip_H) (r : Option Value × ip_H) : Room := { frames := d, cells := r.2.length - h.length, slots := ip_t r.2 - ip_t h, locals := 41 * d }
def ip_Pc (G : ip_G) (As : List Value) (h : ip_H) : Array Value → State → Prop := va_Pc (As.map (ip_v G)) (fun U => ip_U G U ∧ ip_St G h U.heap)
def ip_Qc (G : ip_G) (r : Option Value × ip_H) : Array Value → State → Outcome → State → Prop := fun _ st o t => o = .returned (r.1.map (ip_v G)) ∧ ip_St G r.2 t.heap ∧ va_F (fun q => ip_B G ≤ q) st t
def ip_RnM (l : Launch) (G : ip_G) (M : ip_M) (d : Nat) (As : List Value) (h : ip_H) (r : Option Value × ip_H) : Prop :=
  (h.length ≤ r.2.length ∧ ip_t h ≤ ip_t r.2) ∧ Met l M.1 (ip_w G M) (ip_rm d h r) (ip_Pc G As h) (ip_Qc G r) (r.2.length - h.length) (ip_t r.2 - ip_t h) (fun q => ip_B G ≤ q)
/-- what the tables must say of a method that is called -/
def ip_okM (T : List Cond) (M : ip_M) : Prop := plainName M.1.cls = true ∧ (M.1.cls ≠ "java/lang/invoke/MethodHandle" ∧ M.1.cls ≠ "java/lang/invoke/VarHandle") ∧ M.2.2.1 ≤ 22 ∧ Cond.code M.1 M.2.1 M.2.2.1 M.2.2.2 ∈ T ∧ Cond.initialized M.1.cls ∈ T
def ip_okT (T : List Cond) : Prop := ∀ w ∈ T, (w.onTables && w.keeps) = true ∨ ∃ ty, w = .arrayClass ty
def ip_ent0 (As : List Value) : List (Option Value) := As.flatMap (fun v => if v.category = 2 then [some v, none] else [some v])
def ip_ent (As : List Value) (n : Nat) : List (Option Value) := ip_ent0 As ++ List.replicate (n - (ip_ent0 As).length) none
def ip_sl (G : ip_G) (o : Option Value) : Slot := match o with
  | some v => .val (ip_v G v)
  | none => .second
theorem ip_lg_sl (G : ip_G) : ∀ As : List Value, lg_sl (As.map (ip_v G)) = (ip_ent0 As).map (ip_sl G)
  | [] => rfl
  | v :: As => by
    have ih := ip_lg_sl G As
    show (if (ip_v G v).category = 2 then [Slot.val (ip_v G v), .second] else [.val (ip_v G v)]) ++ lg_sl (As.map (ip_v G)) = ((if v.category = 2 then [some v, none] else [some v]) ++ ip_ent0 As).map (ip_sl G)
    rw [ih, List.map_append, ip_v_cat]
    split <;> rfl
theorem ip_entry (G : ip_G) (As : List Value) (n : Nat) (hn : (ip_ent0 As).length ≤ n) : ip_L G ((lg_sl (As.map (ip_v G)) ++ List.replicate (n - (lg_sl (As.map (ip_v G))).length) Slot.unset).toArray) n (ip_ent As n) := by
  have hlen : (lg_sl (As.map (ip_v G))).length = (ip_ent0 As).length := by rw [ip_lg_sl, List.length_map]
  have h0 := lv_entry (As.map (ip_v G)) (n := n) (by rw [hlen]; exact hn)
  refine ⟨h0.1, h0.2.1, fun i v hi => ?_⟩
  rw [List.getElem?_toArray]
  unfold ip_ent at hi
  by_cases hl : i < (ip_ent0 As).length
  · rw [List.getElem?_append_left hl] at hi
    rw [List.getElem?_append_left (by rw [hlen]; exact hl), ip_lg_sl, List.getElem?_map, hi]
    rfl
  · rw [List.getElem?_append_right (by omega)] at hi
    have := List.eq_of_mem_replicate (List.mem_of_getElem? hi)
    cases this
theorem ip_ofRn {l : Launch} {G : ip_G} {M : ip_M} {d : Nat} {As : List Value} {h : ip_H} {r : Option Value × ip_H} (hM : ip_okM (ip_T G) M) (hr : ip_rok M.2.2.2 r.1) (hn : (ip_ent0 As).length ≤ M.2.2.1) (k : ip_Rn l G M d 0 (ip_ent As M.2.2.1) [] h r) : ip_RnM l G M d As h r := by
  refine ⟨k.1, Met.ofW (cc := M.2.1) (maxL := M.2.2.1) (ret := M.2.2.2) hM.1 rfl ?_⟩
  intro p e s m args below meth c s₁ B hml hv
  obtain ⟨rfl, hU, hSt⟩ := hv
  have hts : ∀ w ∈ ip_T G, w.before (As.map (ip_v G)).toArray s = true := fun w hw => atoms_spec (ws := ip_w G M) B.pre w (List.mem_cons_of_mem _ hw)
  have hlocks := B.notSynchronized
  have Cx : ip_Cx G M p s m (As.map (ip_v G)).toArray meth c := ⟨B.exec, B.bytes, B.returns, hml, findClass_of_methodNamed B.named, hts, B.notSynchronized, fun q => ((name_of_methodNamed B.named B.method).1).trans q, hU⟩
  rw [lg_entry_eq]
  have hr0 : meth.sig.returnType = M.2.2.2 := B.returns
  refine k.2 p e (ip_rm d h r) s m _ below meth c _ s.heap [] 0 0 _ Cx (Nat.le_refl _) (Nat.le_refl _) (by show 0 + _ ≤ (r.2.length - h.length) + _; have := k.1.1; omega) (by show 0 + _ ≤ (ip_t r.2 - ip_t h) + _; have := k.1.2; omega) (ip_entry G As _ hn) hSt va_S.rf ?_
  intro pc' ls' H' locs' hdg hSt' hS'
  rw [Nat.zero_add, Nat.zero_add]
  have hq : ∀ t : State, t.heap = H' → s.WarmedH t.vm → ip_Qc G r (As.map (ip_v G)).toArray s (.returned (r.1.map (ip_v G))) t := fun t ht _ => ⟨rfl, by rw [ht]; exact hSt', hS'.F ht⟩
  obtain ⟨v, h'⟩ := r
  cases v with
  | none =>
    cases hret : M.2.2.2 with
    | none =>
      rw [hret] at hr0
      exact W.vret B.exec B.bytes hr0 hq hS'.2.2 hdg
    | some ty =>
      rw [hret] at hr
      cases ty <;> exact hr.elim
  | some v =>
    cases hret : M.2.2.2 with
    | none =>
      rw [hret] at hr
      exact hr.elim
    | some ty =>
      rw [hret] at hr hr0
      cases v with
      | int x =>
        have hx : narrow ty (.int x) = .int x ∧ ty ≠ .long := by
          cases ty <;> first | exact hr | exact hr.elim
        exact W.zret (v := x) B.exec B.bytes hr0 hx.1 hq hS'.2.2 hdg
      | long x =>
        have hx : ty = .long := by cases ty <;> first | rfl | exact hr.elim
        subst hx
        exact W.lret (v := x) B.exec B.bytes hr0 hq hS'.2.2 hdg
      | ref x =>
        have hx : (∃ n, ty = .object n) ∨ ∃ t, ty = .array t := by
          cases ty <;> first | exact Or.inl ⟨_, rfl⟩ | exact Or.inr ⟨_, rfl⟩ | exact hr.elim
        exact W.aret (v := .ref (ip_a G x)) B.exec B.bytes hr0 hx (Or.inr ⟨_, rfl⟩) hq hS'.2.2 hdg
      | null => cases ty <;> exact hr.elim
      | float x => cases ty <;> exact hr.elim
      | double x => cases ty <;> exact hr.elim
      | retAddr x => cases ty <;> exact hr.elim
section IPC
variable {l : Launch} {G : ip_G} {M : ip_M} {d pc : Nat} {L : List (Option Value)} {st : List Value} {h : ip_H} {r : Option Value × ip_H}
theorem ip_ret {v : Option Value} (hd : decode M.2.1 pc = .ok (ip_ri v, 1)) : ip_Rn l G M d pc L v.toList h (v, h) :=
  ⟨⟨Nat.le_refl _, Nat.le_refl _⟩, fun p e R s m args below meth c Q H locs cells slots ls Cx hdp hlo hce hsl hL hSt hS kt => by
    have := kt pc ls H locs hd hSt hS
    rw [Nat.sub_self, Nat.sub_self] at this
    exact this⟩
theorem ip_blind (G : ip_G) (hmv : ip_mv G) (As : List Value) (h : ip_H) : FrameBlind (ip_Pc G As h) := fun a U g mk q => by
  obtain ⟨q0, ⟨q1, q2, q3⟩, q4⟩ := q
  exact ⟨q0, ⟨q1, va_K.moved (u := U) (U := U.calling g mk a) (Vm.Alike.refl U.vm) q2, hmv U (U.calling g mk a) (Or.inl rfl) (fun _ _ => rfl) q3⟩, q4⟩
theorem ip_pre {s : State} {H : Heap} {locs : List Loc} {As : List Value} (hmv : ip_mv G) (hU : ip_U G s) (hSt : ip_St G h H) (hS : ip_S G s H locs) : ∀ U : State, U.heap = H → s.WarmedH U.vm → ip_Pc G As h (As.map (ip_v G)).toArray U := fun U hH hW =>
  ⟨rfl, ⟨by rw [hH, hSt.1]; exact Nat.le_add_right _ _, va_K.moved hW.alike hU.2.1, hmv s U (Or.inr hW) (fun q hq => by rw [hH]; exact hS.2.1 q (Nat.lt_of_lt_of_le hq hU.1) (Nat.not_le.mpr hq)) hU.2.2⟩, by rw [hH]; exact hSt⟩
theorem ip_goodw (hT : ip_okT (ip_T G)) {M' : ip_M} (hM : ip_okM (ip_T G) M') : GoodIn (ip_T G) (ip_w G M') := fun w hw => by
  rcases List.mem_cons.mp hw with rfl | hw
  · exact ⟨hM.2.2.2.1, hT _ hM.2.2.2.1⟩
  · exact ⟨hw, hT w hw⟩
theorem ip_after {p : Program} {e : Env} {R : Room} {s : State} {m : MethodId} {args : Array Value} {below : List Frame} {meth : Method} {c : Code} {H : Heap} {locs : List Loc} {cells slots mc ms : Nat} {Q : State → Prop} {ls : Array Slot} {st0 rest : List Value} {a : Array Value} {r1 : Option Value × ip_H}
    (hr : va_Run p l e R s m args below meth c H locs cells slots mc ms (F0 m pc ls st0) rest (ip_Qc G r1 a) (fun q => ip_B G ≤ q)) (hS : ip_S G s H locs)
    (kk : ∀ (H1 : Heap) (locs1 : List Loc), ip_St G r1.2 H1 → ip_S G s H1 locs1 → W p l e R s m args below meth c H1 locs1 (cells + mc) (slots + ms) Q (F0 m (pc + 3) ls ((r1.1.map (ip_v G)).toList ++ rest))) : W p l e R s m args below meth c H locs cells slots Q (F0 m pc ls st0) := by
  intro T hT X
  obtain ⟨v, st₀, t, T', L', h0, X', hL', e1, e2, ⟨hv, hSt1, hz, hk⟩, stp⟩ := hr T hT X
  cases hv
  rw [h0] at hz hk
  obtain ⟨t2, a1, b1⟩ := kk T'.heap (locs ++ L') (by rw [e1]; exact hSt1)
    ⟨Nat.le_trans hS.1 (by rw [e1]; exact hz), fun q h1 h2 => by rw [e1, hk q (Nat.lt_of_lt_of_le h1 hS.1) h2]; exact hS.2.1 q h1 h2, fun q hq => by
      rcases List.mem_append.mp hq with h | h
      · exact hS.2.2 q h
      · exact hL' q h⟩ T' rfl X'
  exact ⟨t2, stp t2 a1, b1⟩
/-- the numbers behind a call -/
theorem ip_nums {a b c x y z w u v : Nat} (h1 : a ≤ b) (h2 : b ≤ c) : x + (b - a) + (c - b) = x + (c - a) := by omega
theorem ip_callV {idx n ci N : Nat} {C : String} {F : u_T} {fs As : List Value} {M' : ip_M} {r1 : Option Value × ip_H} (hmv : ip_mv G) (hT : ip_okT (ip_T G)) (hM : ip_okM (ip_T G) M') (hd : decode M.2.1 pc = .ok (.invokevirtual idx, 3))
    (hln : Cond.methodLink M.1.cls idx M'.1 ∈ ip_T G ∧ Cond.instanceMethod M'.1 ∈ ip_T G ∧ Cond.selects M'.1.cls M'.1 M'.1 ∈ ip_T G) (hpar : (parseMethodDescriptor M'.1.desc).map (fun q => q.parameters.length) = some As.length)
    (hc : (ip_C G)[ci]? = some (C, F, N)) (hC : C = M'.1.cls) (hh : ip_h h n = some (.inr (ci, fs))) (hsm : (st.map fun v => v.category).sum ≤ 8) (hm : ip_RnM l G M' d (.ref n :: As) h r1)
    (kk : ip_Rn l G M (d + 1) (pc + 3) L (r1.1.toList ++ st) r1.2 r) : ip_Rn l G M (d + 1) pc L (As.reverse ++ .ref n :: st) h r := by
  refine ⟨⟨Nat.le_trans hm.1.1 kk.1.1, Nat.le_trans hm.1.2 kk.1.2⟩, fun p e R s m args below meth c Q H locs cells slots ls Cx hdp hlo hce hsl hL hSt hS kt => ?_⟩
  have Cx0 := Cx
  obtain ⟨hx, hb, -, hml, hown, hts, -, -, hU⟩ := Cx
  have m1 := hm.1
  have k1 := kk.1
  have hcb : CallB R s args M.1.cls idx M'.1 M'.2.1 M'.2.2.1 M'.2.2.2 (ip_w G M') (ip_rm d h r1) (r1.2.length - h.length) (ip_t r1.2 - ip_t h) As.length :=
    callB_of As.length hts (ip_goodw hT hM) rfl rfl rfl (hts _ hM.2.2.2.2) (hts _ hln.1) ⟨hM.2.1.1, hM.2.1.2, hpar⟩ ⟨hdp, by have := hM.2.2.1; show 8 + (M'.2.2.1 + 11) + 41 * d ≤ R.locals; omega⟩
  have hrun := va_runV (e := e) (below := below) (meth := meth) (As := As.map (ip_v G)) (rest := st.map (ip_v G)) (g := F0 m pc ls ((As.reverse ++ .ref n :: st).map (ip_v G))) ⟨hx, hb, hml, hown, hts⟩ hm.2 ⟨hcb, hts _ hln.2.1, hts _ hln.2.2⟩
    ⟨ip_blind G hmv _ _, by
      obtain ⟨cell, g1, g2, g3⟩ := va_recv hU.2.1 hSt.2 hc (ip_ws_at G hh)
      rw [← hC]
      exact ⟨cell, g1, g2, g3⟩, ip_pre (As := .ref n :: As) hmv hU hSt hS⟩ rfl (by rw [List.length_map]) hL.1 (by simp [ip_v]) (lv_room (m := m) (pc := pc) (ls := ls) (rest := []) (by rw [ip_cats]; exact hsm)) hd (locs := locs) (cells := cells) (slots := slots) ⟨by omega, by omega⟩
  refine ip_after hrun hS (fun H1 locs1 a1 a2 => ?_)
  have := kk.2 p e R s m args below meth c Q H1 locs1 (cells + (r1.2.length - h.length)) (slots + (ip_t r1.2 - ip_t h)) ls Cx0 hdp hlo (by omega) (by omega) hL a1 a2 (fun pc' ls' H'' locs' w1 w2 w3 => by
    have q := kt pc' ls' H'' locs' w1 w2 w3
    rw [show cells + (r1.2.length - h.length) + (r.2.length - r1.2.length) = cells + (r.2.length - h.length) by omega, show slots + (ip_t r1.2 - ip_t h) + (ip_t r.2 - ip_t r1.2) = slots + (ip_t r.2 - ip_t h) by omega]
    exact q)
  rw [List.map_append] at this
  cases hv : r1.1 with
  | none => rw [hv] at this; exact this
  | some v => rw [hv] at this; exact this
theorem ip_callI {idx n : Nat} {As : List Value} {M' : ip_M} {r1 : Option Value × ip_H} (hmv : ip_mv G) (hT : ip_okT (ip_T G)) (hM : ip_okM (ip_T G) M') (hd : decode M.2.1 pc = .ok (.invokespecial idx, 3))
    (hln : Cond.methodLink M.1.cls idx M'.1 ∈ ip_T G ∧ Cond.instanceMethod M'.1 ∈ ip_T G) (hname : M'.1.name = "<init>") (hret : M'.2.2.2 = none) (hpar : (parseMethodDescriptor M'.1.desc).map (fun q => q.parameters.length) = some As.length)
    (hsm : (st.map fun v => v.category).sum ≤ 8) (hm : ip_RnM l G M' d (.ref n :: As) h r1)
    (kk : ip_Rn l G M (d + 1) (pc + 3) L (r1.1.toList ++ st) r1.2 r) : ip_Rn l G M (d + 1) pc L (As.reverse ++ .ref n :: st) h r := by
  refine ⟨⟨Nat.le_trans hm.1.1 kk.1.1, Nat.le_trans hm.1.2 kk.1.2⟩, fun p e R s m args below meth c Q H locs cells slots ls Cx hdp hlo hce hsl hL hSt hS kt => ?_⟩
  have Cx0 := Cx
  obtain ⟨hx, hb, -, hml, hown, hts, -, -, hU⟩ := Cx
  have m1 := hm.1
  have k1 := kk.1
  have hcb : CallB R s args M.1.cls idx M'.1 M'.2.1 M'.2.2.1 none (ip_w G M') (ip_rm d h r1) (r1.2.length - h.length) (ip_t r1.2 - ip_t h) As.length :=
    callB_of As.length hts (ip_goodw hT hM) (ws' := ip_T G) (by unfold ip_w; rw [hret]) rfl rfl (hts _ hM.2.2.2.2) (hts _ hln.1) ⟨hM.2.1.1, hM.2.1.2, hpar⟩ ⟨hdp, by have := hM.2.2.1; show 8 + (M'.2.2.1 + 11) + 41 * d ≤ R.locals; omega⟩
  have hrun := va_runI (e := e) (below := below) (meth := meth) (b := ip_a G n) (As := As.map (ip_v G)) (rest := st.map (ip_v G)) (g := F0 m pc ls ((As.reverse ++ .ref n :: st).map (ip_v G))) ⟨hx, hb, hml, hown, hts⟩ hm.2 ⟨hcb, hname, hts _ hln.2⟩
    ⟨ip_blind G hmv _ _, ip_pre (As := .ref n :: As) hmv hU hSt hS⟩ rfl (by rw [List.length_map]) hL.1 (by simp [ip_v]) (lv_room (m := m) (pc := pc) (ls := ls) (rest := []) (by rw [ip_cats]; exact hsm)) hd (locs := locs) (cells := cells) (slots := slots) ⟨by omega, by omega⟩
  refine ip_after hrun hS (fun H1 locs1 a1 a2 => ?_)
  have := kk.2 p e R s m args below meth c Q H1 locs1 (cells + (r1.2.length - h.length)) (slots + (ip_t r1.2 - ip_t h)) ls Cx0 hdp hlo (by omega) (by omega) hL a1 a2 (fun pc' ls' H'' locs' w1 w2 w3 => by
    have q := kt pc' ls' H'' locs' w1 w2 w3
    rw [show cells + (r1.2.length - h.length) + (r.2.length - r1.2.length) = cells + (r.2.length - h.length) by omega, show slots + (ip_t r1.2 - ip_t h) + (ip_t r.2 - ip_t r1.2) = slots + (ip_t r.2 - ip_t h) by omega]
    exact q)
  rw [List.map_append] at this
  cases hv : r1.1 with
  | none => rw [hv] at this; exact this
  | some v => rw [hv] at this; exact this
theorem ip_callS {idx : Nat} {As : List Value} {M' : ip_M} {r1 : Option Value × ip_H} (hmv : ip_mv G) (hT : ip_okT (ip_T G)) (hM : ip_okM (ip_T G) M') (hd : decode M.2.1 pc = .ok (.invokestatic idx, 3))
    (hln : Cond.methodLink M.1.cls idx M'.1 ∈ ip_T G ∧ Cond.static M'.1 ∈ ip_T G) (hpar : (parseMethodDescriptor M'.1.desc).map (fun q => q.parameters.length) = some As.length)
    (hsm : (st.map fun v => v.category).sum ≤ 8) (hm : ip_RnM l G M' d As h r1)
    (kk : ip_Rn l G M (d + 1) (pc + 3) L (r1.1.toList ++ st) r1.2 r) : ip_Rn l G M (d + 1) pc L (As.reverse ++ st) h r := by
  refine ⟨⟨Nat.le_trans hm.1.1 kk.1.1, Nat.le_trans hm.1.2 kk.1.2⟩, fun p e R s m args below meth c Q H locs cells slots ls Cx hdp hlo hce hsl hL hSt hS kt => ?_⟩
  have Cx0 := Cx
  obtain ⟨hx, hb, -, hml, hown, hts, -, -, hU⟩ := Cx
  have m1 := hm.1
  have k1 := kk.1
  have hcb : CallB R s args M.1.cls idx M'.1 M'.2.1 M'.2.2.1 M'.2.2.2 (ip_w G M') (ip_rm d h r1) (r1.2.length - h.length) (ip_t r1.2 - ip_t h) As.length :=
    callB_of As.length hts (ip_goodw hT hM) rfl rfl rfl (hts _ hM.2.2.2.2) (hts _ hln.1) ⟨hM.2.1.1, hM.2.1.2, hpar⟩ ⟨hdp, by have := hM.2.2.1; show 8 + (M'.2.2.1 + 11) + 41 * d ≤ R.locals; omega⟩
  have hrun := va_runS (e := e) (below := below) (meth := meth) (As := As.map (ip_v G)) (rest := st.map (ip_v G)) (g := F0 m pc ls ((As.reverse ++ st).map (ip_v G))) ⟨hx, hb, hml, hown, hts⟩ hm.2 ⟨hcb, hts _ hln.2⟩
    ⟨ip_blind G hmv _ _, ip_pre (As := As) hmv hU hSt hS⟩ rfl (by rw [List.length_map]) hL.1 (by simp) (lv_room (m := m) (pc := pc) (ls := ls) (rest := []) (by rw [ip_cats]; exact hsm)) hd (locs := locs) (cells := cells) (slots := slots) ⟨by omega, by omega⟩
  refine ip_after hrun hS (fun H1 locs1 a1 a2 => ?_)
  have := kk.2 p e R s m args below meth c Q H1 locs1 (cells + (r1.2.length - h.length)) (slots + (ip_t r1.2 - ip_t h)) ls Cx0 hdp hlo (by omega) (by omega) hL a1 a2 (fun pc' ls' H'' locs' w1 w2 w3 => by
    have q := kt pc' ls' H'' locs' w1 w2 w3
    rw [show cells + (r1.2.length - h.length) + (r.2.length - r1.2.length) = cells + (r.2.length - h.length) by omega, show slots + (ip_t r1.2 - ip_t h) + (ip_t r.2 - ip_t r1.2) = slots + (ip_t r.2 - ip_t h) by omega]
    exact q)
  rw [List.map_append] at this
  cases hv : r1.1 with
  | none => rw [hv] at this; exact this
  | some v => rw [hv] at this; exact this
/-- a private static method of a nest mate -/
theorem ip_callSN {idx : Nat} {host : String} {As : List Value} {M' : ip_M} {r1 : Option Value × ip_H} (hmv : ip_mv G) (hT : ip_okT (ip_T G)) (hM : ip_okM (ip_T G) M') (hd : decode M.2.1 pc = .ok (.invokestatic idx, 3))
    (hln : (∀ U : State, ip_X G U → va_Nw (.methodLinkNest M.1.cls idx M'.1 host) U) ∧ Cond.static M'.1 ∈ ip_T G) (hpar : (parseMethodDescriptor M'.1.desc).map (fun q => q.parameters.length) = some As.length)
    (hsm : (st.map fun v => v.category).sum ≤ 8) (hm : ip_RnM l G M' d As h r1)
    (kk : ip_Rn l G M (d + 1) (pc + 3) L (r1.1.toList ++ st) r1.2 r) : ip_Rn l G M (d + 1) pc L (As.reverse ++ st) h r := by
  refine ⟨⟨Nat.le_trans hm.1.1 kk.1.1, Nat.le_trans hm.1.2 kk.1.2⟩, fun p e R s m args below meth c Q H locs cells slots ls Cx hdp hlo hce hsl hL hSt hS kt => ?_⟩
  have Cx0 := Cx
  obtain ⟨hx, hb, -, hml, hown, hts, -, -, hU⟩ := Cx
  have m1 := hm.1
  have k1 := kk.1
  have hcb : va_CN R s args M.1.cls idx M'.1 host M'.2.1 M'.2.2.1 M'.2.2.2 (ip_w G M') (ip_rm d h r1) (r1.2.length - h.length) (ip_t r1.2 - ip_t h) As.length :=
    va_cnB As.length hts (ip_goodw hT hM) rfl rfl rfl (hln.1 s hU.2.2) (hts _ hM.2.2.2.2) ⟨hM.2.1.1, hM.2.1.2, hpar⟩ ⟨hdp, by have := hM.2.2.1; show 8 + (M'.2.2.1 + 11) + 41 * d ≤ R.locals; omega⟩
  have hrun := va_runSN (e := e) (below := below) (meth := meth) (As := As.map (ip_v G)) (rest := st.map (ip_v G)) (g := F0 m pc ls ((As.reverse ++ st).map (ip_v G))) ⟨hx, hb, hml, hown, hts⟩ hm.2 ⟨hcb, hts _ hln.2, trivial⟩
    ⟨ip_blind G hmv _ _, ip_pre (As := As) hmv hU hSt hS⟩ rfl (by rw [List.length_map]) hL.1 (by simp) (lv_room (m := m) (pc := pc) (ls := ls) (rest := []) (by rw [ip_cats]; exact hsm)) hd (locs := locs) (cells := cells) (slots := slots) ⟨by omega, by omega⟩
  refine ip_after hrun hS (fun H1 locs1 a1 a2 => ?_)
  have := kk.2 p e R s m args below meth c Q H1 locs1 (cells + (r1.2.length - h.length)) (slots + (ip_t r1.2 - ip_t h)) ls Cx0 hdp hlo (by omega) (by omega) hL a1 a2 (fun pc' ls' H'' locs' w1 w2 w3 => by
    have q := kt pc' ls' H'' locs' w1 w2 w3
    rw [show cells + (r1.2.length - h.length) + (r.2.length - r1.2.length) = cells + (r.2.length - h.length) by omega, show slots + (ip_t r1.2 - ip_t h) + (ip_t r.2 - ip_t r1.2) = slots + (ip_t r.2 - ip_t h) by omega]
    exact q)
  rw [List.map_append] at this
  cases hv : r1.1 with
  | none => rw [hv] at this; exact this
  | some v => rw [hv] at this; exact this
end IPC
