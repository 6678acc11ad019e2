section IPA
variable {l : Launch} {G : ip_G} {M : ip_M} {d pc : Nat} {L : List (Option Value)} {st : List Value} {h : ip_H} {r : Option Value × ip_H}
theorem ip_iald {n len : Nat} {f : Nat → Int32} {i : Int32} (hd : decode M.2.1 pc = .ok (.iaload, 1)) (hh : ip_h h n = some (.inl (.int, len, .inl f))) (hin : vp_in i len) (kk : ip_Rn l G M d (pc + 1) L (.int (f i.toNatClampNeg) :: st) h r) : ip_Rn l G M d pc L (.int i :: .ref n :: st) h r :=
  ⟨kk.1, fun p e R s m args below meth c Q H locs cells slots ls Cx hdp hlo hce hsl hL hSt hS kt =>
    va_iald (D := ip_D G) (cl := ip_C G) (tys := ip_ty G) Cx.1 Cx.2.1 Cx.2.2.2.2.2.2.2.2.2.1 hSt.2 (n - 32) 0 (ip_ws_at G hh) rfl hin hd (kk.2 p e R s m args below meth c Q H locs cells slots ls Cx hdp hlo hce hsl hL hSt hS kt)⟩
theorem ip_bald {n len : Nat} {f : Nat → Int32} {i : Int32} (hd : decode M.2.1 pc = .ok (.baload, 1)) (hh : ip_h h n = some (.inl (.byte, len, .inl f))) (hin : vp_in i len) (kk : ip_Rn l G M d (pc + 1) L (.int (f i.toNatClampNeg) :: st) h r) : ip_Rn l G M d pc L (.int i :: .ref n :: st) h r :=
  ⟨kk.1, fun p e R s m args below meth c Q H locs cells slots ls Cx hdp hlo hce hsl hL hSt hS kt =>
    va_bald (D := ip_D G) (cl := ip_C G) (tys := ip_ty G) Cx.1 Cx.2.1 Cx.2.2.2.2.2.2.2.2.2.1 hSt.2 (n - 32) 1 (ip_ws_at G hh) rfl hin hd (kk.2 p e R s m args below meth c Q H locs cells slots ls Cx hdp hlo hce hsl hL hSt hS kt)⟩
theorem ip_zald {n len : Nat} {f : Nat → Int32} {i : Int32} (hd : decode M.2.1 pc = .ok (.baload, 1)) (hh : ip_h h n = some (.inl (.boolean, len, .inl f))) (hin : vp_in i len) (kk : ip_Rn l G M d (pc + 1) L (.int (f i.toNatClampNeg) :: st) h r) : ip_Rn l G M d pc L (.int i :: .ref n :: st) h r :=
  ⟨kk.1, fun p e R s m args below meth c Q H locs cells slots ls Cx hdp hlo hce hsl hL hSt hS kt =>
    va_zald (D := ip_D G) (cl := ip_C G) (tys := ip_ty G) Cx.1 Cx.2.1 Cx.2.2.2.2.2.2.2.2.2.1 hSt.2 (n - 32) 2 (ip_ws_at G hh) rfl hin hd (kk.2 p e R s m args below meth c Q H locs cells slots ls Cx hdp hlo hce hsl hL hSt hS kt)⟩
theorem ip_lald {n len : Nat} {f : Nat → Int64} {i : Int32} (hd : decode M.2.1 pc = .ok (.laload, 1)) (hh : ip_h h n = some (.inl (.long, len, .inr (.inl f)))) (hin : vp_in i len) (kk : ip_Rn l G M d (pc + 1) L (.long (f i.toNatClampNeg) :: st) h r) : ip_Rn l G M d pc L (.int i :: .ref n :: st) h r :=
  ⟨kk.1, fun p e R s m args below meth c Q H locs cells slots ls Cx hdp hlo hce hsl hL hSt hS kt =>
    va_lald (D := ip_D G) (cl := ip_C G) (tys := ip_ty G) Cx.1 Cx.2.1 Cx.2.2.2.2.2.2.2.2.2.1 hSt.2 (n - 32) 3 (ip_ws_at G hh) rfl hin hd (kk.2 p e R s m args below meth c Q H locs cells slots ls Cx hdp hlo hce hsl hL hSt hS kt)⟩
def ip_tyN (ty : FieldType) : Nat := match ty with
  | .int => 0
  | .byte => 1
  | .boolean => 2
  | _ => 3
theorem ip_alen {n : Nat} {ty : FieldType} {x : vp_A} {v : Int32} (hd : decode M.2.1 pc = .ok (.arraylength, 1)) (hh : ip_h h n = some (.inl (ty, x))) (hty : (ip_ty G)[ip_tyN ty]? = some (ip_A G ty, ty)) (hv : Int32.ofNat x.1 = v) (kk : ip_Rn l G M d (pc + 1) L (.int v :: st) h r) : ip_Rn l G M d pc L (.ref n :: st) h r :=
  ⟨kk.1, fun p e R s m args below meth c Q H locs cells slots ls Cx hdp hlo hce hsl hL hSt hS kt =>
    va_alen (D := ip_D G) (cl := ip_C G) (tys := ip_ty G) Cx.1 Cx.2.1 Cx.2.2.2.2.2.2.2.2.2.1 hSt.2 (n - 32) (ip_tyN ty) (ip_ws_at G hh) hty hv hd (kk.2 p e R s m args below meth c Q H locs cells slots ls Cx hdp hlo hce hsl hL hSt hS kt)⟩
theorem ip_stI {s : State} {n len : Nat} {ty : FieldType} {f g : Nat → Int32} {H H1 : Heap} {locs : List Loc} {j : Nat} {w : Int32} (hSt : ip_St G h H) (hS : ip_S G s H locs) (hh : ip_h h n = some (.inl (ty, len, .inl f)))
    (e : H1[ip_a G n]? = some ((vp_cell (ip_A G ty) (len, .inl f)).setSlot j (.int w))) (z : H1.size = H.size) (oq : ∀ q, q ≠ ip_a G n → H1[q]? = H[q]?) : ip_St G (ip_hs h n (.inl (ty, len, .inl (upd f j w)))) H1 ∧ ip_S G s H1 (locs ++ [⟨ip_a G n, j⟩]) := by
  refine ip_store hSt hS hh ?_ z oq
  show H1[ip_a G n]? = some (vp_cell _ _)
  rw [e, vp_cell_i, vp_cell_i, arrV_store]
  congr 2
  funext q
  by_cases hq : q = j
  · subst hq
    simp [updV, upd]
  · simp [updV, upd, hq]
theorem ip_iast {n len : Nat} {f : Nat → Int32} {i x : Int32} (hd : decode M.2.1 pc = .ok (.iastore, 1)) (hh : ip_h h n = some (.inl (.int, len, .inl f))) (hin : vp_in i len)
    (kk : ip_Rn l G M d (pc + 1) L st (ip_hs h n (.inl (.int, len, .inl (upd f i.toNatClampNeg x)))) r) : ip_Rn l G M d pc L (.int x :: .int i :: .ref n :: st) h r := by
  have et := ip_hs_t (e := .inl (.int, len, .inl (upd f i.toNatClampNeg x))) hh rfl
  have k1 := kk.1
  rw [ip_hs_len, et] at k1
  refine ⟨k1, fun p e R s m args below meth c Q H locs cells slots ls Cx hdp hlo hce hsl hL hSt hS kt => ?_⟩
  have hws := ip_ws_at G hh
  refine W.iast Cx.1 Cx.2.1 (hSt.2 (n - 32) _ hws) ((Cx.2.2.2.2.2.2.2.2.2.1.2 0 _ rfl).1 len (fun j => .int (f j))) (fun q => by cases q) (by show ¬ (i < 0 ∨ (arrV _ _ _).slots.size ≤ _); rw [arrV_size]; exact hin) rfl rfl hd fun H1 e1 z oq => ?_
  obtain ⟨a1, a2⟩ := ip_stI hSt hS hh (g := f) e1 z oq
  exact kk.2 p e R s m args below meth c Q H1 _ cells slots ls Cx hdp hlo (by rw [ip_hs_len]; exact hce) (by rw [et]; exact hsl) hL a1 a2 (fun pc' ls' H'' locs' w1 w2 w3 => by rw [ip_hs_len, et]; exact kt pc' ls' H'' locs' w1 w2 w3)
theorem ip_bast {n len : Nat} {f : Nat → Int32} {i x : Int32} (hd : decode M.2.1 pc = .ok (.bastore, 1)) (hh : ip_h h n = some (.inl (.byte, len, .inl f))) (hin : vp_in i len)
    (kk : ip_Rn l G M d (pc + 1) L st (ip_hs h n (.inl (.byte, len, .inl (upd f i.toNatClampNeg x.toInt8.toInt32)))) r) : ip_Rn l G M d pc L (.int x :: .int i :: .ref n :: st) h r := by
  have et := ip_hs_t (e := .inl (.byte, len, .inl (upd f i.toNatClampNeg x.toInt8.toInt32))) hh rfl
  have k1 := kk.1
  rw [ip_hs_len, et] at k1
  refine ⟨k1, fun p e R s m args below meth c Q H locs cells slots ls Cx hdp hlo hce hsl hL hSt hS kt => ?_⟩
  have hws := ip_ws_at G hh
  refine W.bast Cx.1 Cx.2.1 (hSt.2 (n - 32) _ hws) ((Cx.2.2.2.2.2.2.2.2.2.1.2 1 _ rfl).1 len (fun j => .int (f j))) (fun q => by cases q) (by show ¬ (i < 0 ∨ (arrV _ _ _).slots.size ≤ _); rw [arrV_size]; exact hin) rfl rfl hd fun H1 e1 z oq => ?_
  obtain ⟨a1, a2⟩ := ip_stI hSt hS hh (g := f) e1 z oq
  exact kk.2 p e R s m args below meth c Q H1 _ cells slots ls Cx hdp hlo (by rw [ip_hs_len]; exact hce) (by rw [et]; exact hsl) hL a1 a2 (fun pc' ls' H'' locs' w1 w2 w3 => by rw [ip_hs_len, et]; exact kt pc' ls' H'' locs' w1 w2 w3)
theorem ip_zast {n len : Nat} {f : Nat → Int32} {i x : Int32} (hd : decode M.2.1 pc = .ok (.bastore, 1)) (hh : ip_h h n = some (.inl (.boolean, len, .inl f))) (hin : vp_in i len)
    (kk : ip_Rn l G M d (pc + 1) L st (ip_hs h n (.inl (.boolean, len, .inl (upd f i.toNatClampNeg (x &&& 1))))) r) : ip_Rn l G M d pc L (.int x :: .int i :: .ref n :: st) h r := by
  have et := ip_hs_t (e := .inl (.boolean, len, .inl (upd f i.toNatClampNeg (x &&& 1)))) hh rfl
  have k1 := kk.1
  rw [ip_hs_len, et] at k1
  refine ⟨k1, fun p e R s m args below meth c Q H locs cells slots ls Cx hdp hlo hce hsl hL hSt hS kt => ?_⟩
  have hws := ip_ws_at G hh
  refine W.zast Cx.1 Cx.2.1 (hSt.2 (n - 32) _ hws) ((Cx.2.2.2.2.2.2.2.2.2.1.2 2 _ rfl).1 len (fun j => .int (f j))) (fun q => by cases q) (by show ¬ (i < 0 ∨ (arrV _ _ _).slots.size ≤ _); rw [arrV_size]; exact hin) rfl rfl hd fun H1 e1 z oq => ?_
  obtain ⟨a1, a2⟩ := ip_stI hSt hS hh (g := f) e1 z oq
  exact kk.2 p e R s m args below meth c Q H1 _ cells slots ls Cx hdp hlo (by rw [ip_hs_len]; exact hce) (by rw [et]; exact hsl) hL a1 a2 (fun pc' ls' H'' locs' w1 w2 w3 => by rw [ip_hs_len, et]; exact kt pc' ls' H'' locs' w1 w2 w3)
theorem ip_last {n len : Nat} {f : Nat → Int64} {i : Int32} {x : Int64} (hd : decode M.2.1 pc = .ok (.lastore, 1)) (hh : ip_h h n = some (.inl (.long, len, .inr (.inl f)))) (hin : vp_in i len)
    (kk : ip_Rn l G M d (pc + 1) L st (ip_hs h n (.inl (.long, len, .inr (.inl (vp_updL f i.toNatClampNeg x))))) r) : ip_Rn l G M d pc L (.long x :: .int i :: .ref n :: st) h r := by
  have et := ip_hs_t (e := .inl (.long, len, .inr (.inl (vp_updL f i.toNatClampNeg x)))) hh rfl
  have k1 := kk.1
  rw [ip_hs_len, et] at k1
  refine ⟨k1, fun p e R s m args below meth c Q H locs cells slots ls Cx hdp hlo hce hsl hL hSt hS kt => ?_⟩
  have hws := ip_ws_at G hh
  refine W.last Cx.1 Cx.2.1 (hSt.2 (n - 32) _ hws) ((Cx.2.2.2.2.2.2.2.2.2.1.2 3 _ rfl).1 len (fun j => .long (f j))) (fun q => by cases q) (by show ¬ (i < 0 ∨ (arrV _ _ _).slots.size ≤ _); rw [arrV_size]; exact hin) rfl rfl hd fun H1 e1 z oq => ?_
  have hat : va_at (ip_D G) (ip_C G) (ip_a G n, ip_cv G (.inl (.long, len, .inr (.inl (vp_updL f i.toNatClampNeg x))))) H1 := by
    show H1[ip_a G n]? = some (vp_cell _ _)
    rw [e1]
    rw [vp_cell_l, vp_cell_l, arrV_store]
    congr 2
    funext q
    by_cases hq : q = i.toNatClampNeg
    · subst hq
      simp [updV, vp_updL]
    · simp [updV, vp_updL, hq]
  obtain ⟨a1, a2⟩ := ip_store (k := i.toNatClampNeg) hSt hS hh hat z oq
  exact kk.2 p e R s m args below meth c Q H1 _ cells slots ls Cx hdp hlo (by rw [ip_hs_len]; exact hce) (by rw [et]; exact hsl) hL a1 a2 (fun pc' ls' H'' locs' w1 w2 w3 => by rw [ip_hs_len, et]; exact kt pc' ls' H'' locs' w1 w2 w3)
/-- a new cell -/
theorem ip_grow {s : State} {e : ip_E} {H H1 : Heap} {locs : List Loc} (hSt : ip_St G h H) (hS : ip_S G s H locs) (hU : ip_B G ≤ s.heap.size) (hat : va_at (ip_D G) (ip_C G) (H.size, ip_cv G e) H1) (hz : H1.size = H.size + 1) (oq : ∀ q : Nat, q < H.size → H1[q]? = H[q]?) : ip_St G (h ++ [e]) H1 ∧ ip_S G s H1 locs := by
  refine ⟨⟨by rw [hz, hSt.1, List.length_append]; rfl, ?_⟩, ⟨Nat.le_trans hS.1 (by omega), fun q h1 h2 => (oq q (Nat.lt_of_lt_of_le h1 hS.1)).trans (hS.2.1 q h1 h2), hS.2.2⟩⟩
  rw [ip_ws_push, ← hSt.1]
  refine (hSt.2.kept (fun k x hx => oq x.1 ((hSt.2 k x hx).lt))).app (fun k x hx => ?_)
  have hk : k < 1 := (List.getElem?_eq_some_iff.mp hx).1
  rw [show k = 0 by omega] at hx
  cases hx
  exact hat
theorem ip_new {idx ci : Nat} {fs : List Value} (hd : decode M.2.1 pc = .ok (.new idx, 3)) (hN : ip_N (ip_T G) (ip_C G) M.1.cls idx ci fs)
    (kk : ip_Rn l G M d (pc + 3) L (.ref (32 + h.length) :: st) (h ++ [.inr (ci, fs)]) r) : ip_Rn l G M d pc L st h r := by
  obtain ⟨C, F, N, hc, hw, ⟨ty0, hty, hfs⟩, hcl, hins, hini⟩ := hN
  have hlen : fs.length = N := by rw [hfs]; simp
  have et := ip_t_push h (.inr (ci, fs))
  have ez : ip_z (.inr (ci, fs)) = N := hlen
  rw [ez] at et
  have k1 := kk.1
  rw [List.length_append, et] at k1
  have k1a : h.length + 1 ≤ r.2.length := k1.1
  refine ⟨⟨by omega, by omega⟩, fun p e R s m args below meth c Q H locs cells slots ls Cx hdp hlo hce hsl hL hSt hS kt => ?_⟩
  have Cx0 := Cx
  obtain ⟨hx, hb, -, -, hown, hts, -, -, hU, hK, -⟩ := Cx
  have hKn := hK.1 ci _ hc
  refine W.newcK hx hb hown (hts _ hcl) (hts _ hins) (hts _ hini) rfl hd (by omega) (by omega) hKn.2.1 rfl fun H1 kC hkC e1 z1 o1 => ?_
  have hat : va_at (ip_D G) (ip_C G) (H.size, ip_cv G (.inr (ci, fs))) H1 := by
    refine ⟨_, hc, (u_born ty0 hts hw hKn hkC e1 hty).to (fun j hj => ?_)⟩
    show defaultValue (ty0 j) = vp_V (fs.map (ip_v G)) j
    have : fs[j]? = some (defaultValue (ty0 j)) := by rw [hfs]; simp [hj]
    unfold vp_V
    rw [List.getD_eq_getElem?_getD, List.getElem?_map, this]
    cases ty0 j <;> rfl
  obtain ⟨a1, a2⟩ := ip_grow hSt hS hU hat z1 o1
  have := kk.2 p e R s m args below meth c Q H1 locs (cells + 1) (slots + N) ls Cx0 hdp hlo (by rw [List.length_append]; show cells + 1 + _ ≤ _ + (_ + 1); omega) (by rw [et]; omega) hL a1 a2 (fun pc' ls' H'' locs' w1 w2 w3 => by
    have q := kt pc' ls' H'' locs' w1 w2 w3
    rw [List.length_append, et]
    rw [show cells + 1 + (r.2.length - (h.length + [(.inr (ci, fs) : ip_E)].length)) = cells + (r.2.length - h.length) by show cells + 1 + (r.2.length - (h.length + 1)) = _; omega, show slots + N + (ip_t r.2 - (ip_t h + N)) = slots + (ip_t r.2 - ip_t h) by omega]
    exact q)
  have ea : ip_a G (32 + h.length) = H.size := by unfold ip_a; rw [if_neg (by omega), hSt.1]; omega
  rw [List.map_cons] at this
  rw [show ip_v G (.ref (32 + h.length)) = .ref H.size from by show Value.ref (ip_a G _) = _; rw [ea]] at this
  exact this
def ip_at (ty : FieldType) : ArrayType := match ty with
  | .int => .int
  | .byte => .byte
  | .boolean => .boolean
  | _ => .long
def ip_zr (ty : FieldType) (n : Nat) : vp_A := match ty with
  | .long => (n, .inr (.inl (fun _ => 0)))
  | _ => (n, .inl (fun _ => 0))
theorem ip_newa (ty : FieldType) (hty : (ip_ty G)[ip_tyN ty]? = some (ip_A G ty, ty)) (h4 : ty = .int ∨ ty = .byte ∨ ty = .boolean ∨ ty = .long) {n : Int32} {N : Nat} (hd : decode M.2.1 pc = .ok (.newarray (ip_at ty), 2)) (hw : Cond.arrayClass ty ∈ ip_T G) (hn : ¬ n < 0) (hN : n.toNatClampNeg = N) (hsz : N * 8 ≤ 536870912)
    (kk : ip_Rn l G M d (pc + 2) L (.ref (32 + h.length) :: st) (h ++ [.inl (ty, ip_zr ty N)]) r) : ip_Rn l G M d pc L (.int n :: st) h r := by
  have et := ip_t_push h (.inl (ty, ip_zr ty N))
  have ez : ip_z (.inl (ty, ip_zr ty N)) = N := by cases ty <;> rfl
  rw [ez] at et
  have k1 := kk.1
  rw [List.length_append, et] at k1
  have k1a : h.length + 1 ≤ r.2.length := k1.1
  refine ⟨⟨by omega, by omega⟩, fun p e R s m args below meth c Q H locs cells slots ls Cx hdp hlo hce hsl hL hSt hS kt => ?_⟩
  have Cx0 := Cx
  obtain ⟨hx, hb, -, -, hown, hts, -, -, hU, hK, -⟩ := Cx
  have etp : newarray.typeOf (ip_at ty) = ty := by rcases h4 with rfl | rfl | rfl | rfl <;> rfl
  have hcb : componentBytes ty ≤ 8 := by rcases h4 with rfl | rfl | rfl | rfl <;> decide
  have hmul : N * componentBytes ty ≤ N * 8 := Nat.mul_le_mul_left N hcb
  refine va_newaK hx hb (atype := ip_at ty) (by rw [etp]; exact hts _ hw) rfl hd rfl hn hN (by rw [etp]; omega) (by omega) (by omega) rfl fun H1 cA e1 z1 o1 hAr hNm => ?_
  have hcA : cA = ip_A G ty := by
    have h5 := (hK.2 (ip_tyN ty) _ hty).2
    rw [etp] at hNm
    rcases h4 with rfl | rfl | rfl | rfl <;> exact Option.some.inj (hNm.symm.trans h5)
  have hat : va_at (ip_D G) (ip_C G) (H.size, ip_cv G (.inl (ty, ip_zr ty N))) H1 := by
    show H1[H.size]? = some (vp_cell (ip_A G ty) (ip_zr ty N))
    rw [e1, hcA, etp]
    rcases h4 with rfl | rfl | rfl | rfl <;> rfl
  obtain ⟨a1, a2⟩ := ip_grow hSt hS hU hat z1 o1
  have := kk.2 p e R s m args below meth c Q H1 locs (cells + 1) (slots + N) ls Cx0 hdp hlo (by rw [List.length_append]; show cells + 1 + _ ≤ _ + (_ + 1); omega) (by rw [et]; omega) hL a1 a2 (fun pc' ls' H'' locs' w1 w2 w3 => by
    have q := kt pc' ls' H'' locs' w1 w2 w3
    rw [List.length_append, et]
    rw [show cells + 1 + (r.2.length - (h.length + [(.inl (ty, ip_zr ty N) : ip_E)].length)) = cells + (r.2.length - h.length) by show cells + 1 + (r.2.length - (h.length + 1)) = _; omega, show slots + N + (ip_t r.2 - (ip_t h + N)) = slots + (ip_t r.2 - ip_t h) by omega]
    exact q)
  have ea : ip_a G (32 + h.length) = H.size := by unfold ip_a; rw [if_neg (by omega), hSt.1]; omega
  rw [List.map_cons] at this
  rw [show ip_v G (.ref (32 + h.length)) = .ref H.size from by show Value.ref (ip_a G _) = _; rw [ea]] at this
  exact this
end IPA
