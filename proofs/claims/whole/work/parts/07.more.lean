section IPD
variable {l : Launch} {G : ip_G} {M : ip_M} {d pc : Nat} {L : List (Option Value)} {st : List Value} {h : ip_H} {r : Option Value × ip_H}
/-- a constructor of a nest mate that is not public -/
theorem ip_callIN {idx n : Nat} {host : String} {As : List Value} {M' : ip_M} {r1 : Option Value × ip_H} (hmv : ip_mv G) (hT : ip_okT (ip_T G)) (hM : ip_okM (ip_T G) M') (hd : decode M.2.1 pc = .ok (.invokespecial idx, 3))
    (hln : (∀ U : State, ip_X G U → va_Nw (.methodLinkNest M.1.cls idx M'.1 host) U) ∧ Cond.instanceMethod M'.1 ∈ ip_T G) (hname : M'.1.name = "<init>") (hret : M'.2.2.2 = none) (hpar : (parseMethodDescriptor M'.1.desc).map (fun q => q.parameters.length) = some As.length)
    (hsm : (st.map fun v => v.category).sum ≤ 8) (hm : ip_RnM l G M' d (.ref n :: As) h r1)
    (kk : ip_Rn l G M (d + 1) (pc + 3) L (r1.1.toList ++ st) r1.2 r) : ip_Rn l G M (d + 1) pc L (As.reverse ++ .ref n :: st) h r := by
  refine ⟨⟨Nat.le_trans hm.1.1 kk.1.1, Nat.le_trans hm.1.2 kk.1.2⟩, fun p e R s m args below meth c Q H locs cells slots ls Cx hdp hlo hce hsl hL hSt hS kt => ?_⟩
  have Cx0 := Cx
  obtain ⟨hx, hb, -, hml, hown, hts, -, -, hU⟩ := Cx
  have m1 := hm.1
  have k1 := kk.1
  have hcb : va_CN R s args M.1.cls idx M'.1 host M'.2.1 M'.2.2.1 none (ip_w G M') (ip_rm d h r1) (r1.2.length - h.length) (ip_t r1.2 - ip_t h) As.length :=
    va_cnB As.length hts (ip_goodw hT hM) (ws' := ip_T G) (by unfold ip_w; rw [hret]) rfl rfl (hln.1 s hU.2.2) (hts _ hM.2.2.2.2) ⟨hM.2.1.1, hM.2.1.2, hpar⟩ ⟨hdp, by have := hM.2.2.1; show 8 + (M'.2.2.1 + 11) + 41 * d ≤ R.locals; omega⟩
  have hrun := va_runIN (e := e) (below := below) (meth := meth) (b := ip_a G n) (As := As.map (ip_v G)) (rest := st.map (ip_v G)) (g := F0 m pc ls ((As.reverse ++ .ref n :: st).map (ip_v G))) ⟨hx, hb, hml, hown, hts⟩ hm.2 ⟨hcb, hname, hts _ hln.2⟩
    ⟨ip_blind G hmv _ _, ip_pre (As := .ref n :: As) hmv hU hSt hS⟩ rfl (by rw [List.length_map]) hL.1 (by simp [ip_v]) (lv_room (m := m) (pc := pc) (ls := ls) (rest := []) (by rw [ip_cats]; exact hsm)) hd (locs := locs) (cells := cells) (slots := slots) ⟨by omega, by omega⟩
  refine ip_after hrun hS (fun H1 locs1 a1 a2 => ?_)
  have := kk.2 p e R s m args below meth c Q H1 locs1 (cells + (r1.2.length - h.length)) (slots + (ip_t r1.2 - ip_t h)) ls Cx0 hdp hlo (by omega) (by omega) hL a1 a2 (fun pc' ls' H'' locs' w1 w2 w3 => by
    have q := kt pc' ls' H'' locs' w1 w2 w3
    rw [show cells + (r1.2.length - h.length) + (r.2.length - r1.2.length) = cells + (r.2.length - h.length) by omega, show slots + (ip_t r1.2 - ip_t h) + (ip_t r.2 - ip_t r1.2) = slots + (ip_t r.2 - ip_t h) by omega]
    exact q)
  rw [List.map_append] at this
  cases hv : r1.1 with
  | none => rw [hv] at this; exact this
  | some v => rw [hv] at this; exact this
/-- System.arraycopy between two rows of ints (bytes, booleans); the two may be one -/
theorem ip_acpy {idx a0 a1 n0 n1 : Nat} {f g : Nat → Int32} {ty : FieldType} {sp dp n : Int32} (hd : decode M.2.1 pc = .ok (.invokestatic idx, 3)) (hd1 : 1 ≤ d)
    (hw : Cond.methodLink M.1.cls idx arraycopyName ∈ ip_T G ∧ Cond.native arraycopyName ∈ ip_T G ∧ Cond.static arraycopyName ∈ ip_T G ∧ Cond.initialized "java/lang/System" ∈ ip_T G)
    (hty : (ip_ty G)[ip_tyN ty]? = some (ip_A G ty, ty)) (hprim : refKind ty = false) (h0 : ip_h h a0 = some (.inl (ty, n0, .inl f))) (h1 : ip_h h a1 = some (.inl (ty, n1, .inl g)))
    (g1 : ¬ sp < 0) (g2 : ¬ dp < 0) (g3 : ¬ n < 0) (g4 : sp.toNatClampNeg + n.toNatClampNeg ≤ n0) (g5 : dp.toNatClampNeg + n.toNatClampNeg ≤ n1) (hfit : ∀ i, i < n.toNatClampNeg → fits ty (.int (f (sp.toNatClampNeg + i))) = true) (hsm : (st.map fun v => v.category).sum ≤ 8)
    (kk : ip_Rn l G M d (pc + 3) L st (ip_hs h a1 (.inl (ty, n1, .inl (va_cpy f g sp.toNatClampNeg dp.toNatClampNeg n.toNatClampNeg)))) r) : ip_Rn l G M d pc L (.int n :: .int dp :: .ref a1 :: .int sp :: .ref a0 :: st) h r := by
  have et := ip_hs_t (e := .inl (ty, n1, .inl (va_cpy f g sp.toNatClampNeg dp.toNatClampNeg n.toNatClampNeg))) h1 rfl
  have k1 := kk.1
  rw [ip_hs_len, et] at k1
  refine ⟨k1, fun p e R s m args below meth c Q H locs cells slots ls Cx hdp hlo hce hsl hL hSt hS kt => ?_⟩
  have Cx0 := Cx
  obtain ⟨hx, hb, -, hml, hown, hts, -, -, hU⟩ := Cx
  have hws0 := ip_ws_at G h0
  have hws1 := ip_ws_at G h1
  have hl2 : ((st.map (ip_v G)).map fun v => v.category).sum + (nativeFrameWords "java/lang/System" "arraycopy" 5 + 11) ≤ R.locals := by
    rw [ip_cats]
    have : nativeFrameWords "java/lang/System" "arraycopy" 5 + 11 ≤ 30 := by decide +kernel
    omega
  have hc0 : H[ip_a G a0]? = some (vp_cell (ip_A G ty) (n0, .inl f)) := hSt.2 (a0 - 32) _ hws0
  have hc1 : H[ip_a G a1]? = some (vp_cell (ip_A G ty) (n1, .inl g)) := hSt.2 (a1 - 32) _ hws1
  obtain ⟨-, k0, hk0, cm0, hkk0⟩ := (hU.2.1.2 (ip_tyN ty) _ hty).1 n0 (fun j => .int (f j))
  have nn : ∀ z : Int32, ¬ z < 0 → z.toInt = (z.toNatClampNeg : Int) := by
    intro z hz
    have hz0 : (0 : Int) ≤ z.toInt := by
      have := Int32.not_lt.mp hz
      simpa using Int32.le_iff_toInt_le.mp this
    show z.toInt = ((z.toInt.toNat : Nat) : Int)
    omega
  have eread : ∀ i, i < n.toNatClampNeg → (vp_cell (ip_A G ty) (n0, .inl f)).slots.getD (sp.toNatClampNeg + i) .null = .int (f (sp.toNatClampNeg + i)) := by
    intro i hi
    show (arrV (ip_A G ty) n0 (fun j => .int (f j))).slots.getD _ _ = _
    rw [Array.getD_eq_getD_getElem?, arrV_read _ _ (by omega)]
    rfl
  intro T hT X
  obtain ⟨vm', X', step⟩ := X.arraycopy hx hown (hts _ hw.1) (hts _ hw.2.1) (hts _ hw.2.2.1) (hts _ hw.2.2.2) (src := ip_a G a0) (dst := ip_a G a1) (cs := vp_cell (ip_A G ty) (n0, .inl f)) (cd := vp_cell (ip_A G ty) (n1, .inl g)) (srcPos := sp) (destPos := dp) (n := n) (by rw [hT]; exact hc0) (by rw [hT]; exact hc1)
    (fun _ q => by cases q) (fun _ q => by cases q) (fun q => by cases q) (fun q => by cases q) hk0 hk0 hkk0 hkk0 (by simp [hprim]) g1 g2 g3
    (by rw [nn sp g1, nn n g3]; show ¬ _ > ((arrV (ip_A G ty) n0 (fun j => .int (f j))).slots.size : Int); rw [arrV_size]; omega)
    (by rw [nn dp g2, nn n g3]; show ¬ _ > ((arrV (ip_A G ty) n1 (fun j => .int (g j))).slots.size : Int); rw [arrV_size]; omega)
    (fun vm₁ _ i hi => ⟨by rw [eread i hi]; exact hfit i hi, by rw [eread i hi]; exact trivial⟩)
    (g := F0 m pc ls (.int n :: .int dp :: .ref (ip_a G a1) :: .int sp :: .ref (ip_a G a0) :: st.map (ip_v G))) rfl (by rw [hml]; exact hL.1) (rest := st.map (ip_v G)) rfl (by rw [hb]; exact hd) (by omega) (by show 2 * 0 + _ + _ ≤ _; omega)
  have e1 : copied (vp_cell (ip_A G ty) (n0, .inl f)) (vp_cell (ip_A G ty) (n1, .inl g)) sp dp n = vp_cell (ip_A G ty) (n1, .inl (va_cpy f g sp.toNatClampNeg dp.toNatClampNeg n.toNatClampNeg)) := va_copied (fun z => .int z) _ _ f g g4
  rw [e1] at X' step
  have hlt : ip_a G a1 < H.size := (Array.getElem?_eq_some_iff.mp hc1).1
  have hat : va_at (ip_D G) (ip_C G) (ip_a G a1, ip_cv G (.inl (ty, n1, .inl (va_cpy f g sp.toNatClampNeg dp.toNatClampNeg n.toNatClampNeg)))) (H.setIfInBounds (ip_a G a1) (vp_cell (ip_A G ty) (n1, .inl (va_cpy f g sp.toNatClampNeg dp.toNatClampNeg n.toNatClampNeg)))) := by
    show (H.setIfInBounds (ip_a G a1) _)[ip_a G a1]? = some _
    simp [Array.getElem?_setIfInBounds, hlt]
  obtain ⟨b1, b2⟩ := ip_store (k := 0) hSt hS h1 hat (by simp) (fun q hq => by simp [Array.getElem?_setIfInBounds, Ne.symm hq])
  have b3 : ip_B G ≤ ip_a G a1 := by
    unfold ip_h at h1
    split at h1
    · cases h1
    · next hn => unfold ip_a; rw [if_neg hn]; exact Nat.le_add_right _ _
  obtain ⟨t, c1, c2⟩ := kk.2 p e R s m args below meth c Q _ _ cells slots ls Cx0 hdp hlo (by rw [ip_hs_len]; exact hce) (by rw [et]; exact hsl) hL b1 ⟨b2.1, b2.2.1, fun q hq => by
      rcases List.mem_append.mp hq with z | z
      · exact hS.2.2 q z
      · obtain ⟨y, -, hy⟩ := List.mem_map.mp z
        rw [← hy]
        exact b3⟩ (fun pc' ls' H'' locs' w1 w2 w3 => by rw [ip_hs_len, et]; exact kt pc' ls' H'' locs' w1 w2 w3) _ (by rw [← hT]; rfl) X'
  exact ⟨t, step t c1, c2⟩
end IPD
theorem ip_go {l : Launch} {G : ip_G} {M : ip_M} {d : Nat} {r : Option Value × ip_H} {V : ip_V} {ini : Bool} (hV : ip_okV (ip_T G) (ip_C G) M V) (hini : ini = true → M.1.name = "<init>") (n : Nat) {pc pc' : Nat} {L L' : List (Option Value)} {st st' : List Value} {h h' : ip_H} (hs : ip_sts V M.2.2.1 ini n (pc, L, st, h) = some (pc', L', st', h'))
    (k : ip_Rn l G M d pc' L' st' h' r) : ip_Rn l G M d pc L st h r := ip_sts_ok hV hini n hs k
def ip_max (x y : Int32) : Int32 := if x < y then y else x
def ip_min (x y : Int32) : Int32 := if y < x then y else x
theorem ip_objI {l : Launch} {G : ip_G} {M : ip_M} {d pc : Nat} {L : List (Option Value)} {st : List Value} {h : ip_H} {r : Option Value × ip_H} {idx n : Nat} (hd : decode M.2.1 pc = .ok (.invokespecial idx, 3))
    (hw : Cond.methodLink M.1.cls idx Lib.objectInit ∈ ip_T G ∧ Cond.instanceMethod Lib.objectInit ∈ ip_T G ∧ Cond.code Lib.objectInit ⟨#[0xb1]⟩ 1 none ∈ ip_T G) (hsm : (st.map fun v => v.category).sum ≤ 8) (kk : ip_Rn l G M (d + 1) (pc + 3) L st h r) : ip_Rn l G M (d + 1) pc L (.ref n :: st) h r :=
  ip_pure (fun _ _ _ _ _ _ _ _ _ _ _ _ _ _ _ C hd1 hlo hL k2 => W.objInit C.1 C.2.1 C.2.2.2.2.1 (C.2.2.2.2.2.1 _ hw.1) (C.2.2.2.2.2.1 _ hw.2.1) (C.2.2.2.2.2.1 _ hw.2.2) rfl (by rw [C.2.2.2.1]; exact hL.1) rfl hd (by omega) (by
    have := ip_cats G st
    show 2 * 0 + ((st.map (ip_v G)).map fun v => v.category).sum + 12 ≤ _
    rw [this]
    omega) (k2 _ hL)) kk
theorem ip_maxx {l : Launch} {G : ip_G} {M : ip_M} {d pc : Nat} {L : List (Option Value)} {st : List Value} {h : ip_H} {r : Option Value × ip_H} {idx : Nat} {x y v : Int32} (hv : ip_max x y = v) (hd : decode M.2.1 pc = .ok (.invokestatic idx, 3))
    (hw : Cond.methodLink M.1.cls idx Lib.Math.max.name ∈ ip_T G ∧ Cond.static Lib.Math.max.name ∈ ip_T G ∧ Cond.initialized "java/lang/Math" ∈ ip_T G ∧ Cond.code Lib.Math.max.name Lib.Math.max.code 2 (some .int) ∈ ip_T G) (hsm : (st.map fun v => v.category).sum ≤ 8) (kk : ip_Rn l G M (d + 1) (pc + 3) L (.int v :: st) h r) : ip_Rn l G M (d + 1) pc L (.int y :: .int x :: st) h r := by
  subst hv
  refine ⟨kk.1, fun p e R s m args below meth c Q H locs cells slots ls Cx hdp hlo hce hsl hL hSt hS kt => ?_⟩
  have k1 := kk.1
  exact va_mmax Cx.1 Cx.2.1 (by rw [Cx.2.2.2.1, hL.1]) Cx.2.2.2.2.1 (Cx.2.2.2.2.2.1 _ hw.1) (Cx.2.2.2.2.2.1 _ hw.2.1) (Cx.2.2.2.2.2.1 _ hw.2.2.1) (Cx.2.2.2.2.2.1 _ hw.2.2.2) (by omega) (by rw [ip_cats]; omega) (by omega) (by omega) hd (kk.2 p e R s m args below meth c Q H locs cells slots ls Cx hdp hlo hce hsl hL hSt hS kt)
theorem ip_mixn {l : Launch} {G : ip_G} {M : ip_M} {d pc : Nat} {L : List (Option Value)} {st : List Value} {h : ip_H} {r : Option Value × ip_H} {idx : Nat} {x y v : Int32} (hv : ip_min x y = v) (hd : decode M.2.1 pc = .ok (.invokestatic idx, 3))
    (hw : Cond.methodLink M.1.cls idx Lib.Math.min.name ∈ ip_T G ∧ Cond.static Lib.Math.min.name ∈ ip_T G ∧ Cond.initialized "java/lang/Math" ∈ ip_T G ∧ Cond.code Lib.Math.min.name Lib.Math.min.code 2 (some .int) ∈ ip_T G) (hsm : (st.map fun v => v.category).sum ≤ 8) (kk : ip_Rn l G M (d + 1) (pc + 3) L (.int v :: st) h r) : ip_Rn l G M (d + 1) pc L (.int y :: .int x :: st) h r := by
  subst hv
  refine ⟨kk.1, fun p e R s m args below meth c Q H locs cells slots ls Cx hdp hlo hce hsl hL hSt hS kt => ?_⟩
  have k1 := kk.1
  exact va_mmin Cx.1 Cx.2.1 (by rw [Cx.2.2.2.1, hL.1]) Cx.2.2.2.2.1 (Cx.2.2.2.2.2.1 _ hw.1) (Cx.2.2.2.2.2.1 _ hw.2.1) (Cx.2.2.2.2.2.1 _ hw.2.2.1) (Cx.2.2.2.2.2.1 _ hw.2.2.2) (by omega) (by rw [ip_cats]; omega) (by omega) (by omega) hd (kk.2 p e R s m args below meth c Q H locs cells slots ls Cx hdp hlo hce hsl hL hSt hS kt)
theorem ip_fap {α : Type} {p : α → Prop} {a b : List α} (ha : ∀ q ∈ a, p q) (hb : ∀ q ∈ b, p q) : ∀ q ∈ a ++ b, p q := fun q h => (List.mem_append.mp h).elim (ha q) (hb q)
/-- the script: old cell 0 -/
theorem ip_sld {l : Launch} {G : ip_G} {M : ip_M} {d pc : Nat} {L : List (Option Value)} {st : List Value} {h : ip_H} {r : Option Value × ip_H} {Lx q : Nat} {xs : Nat → Int32} {i : Int32} (hd : decode M.2.1 pc = .ok (.iaload, 1)) (hX : ∀ U : State, ip_X G U → va_X (ip_O G 0) Lx xs U U.heap) (hb : ip_O G 0 < ip_B G) (hi : i = nI q) (hq : q < Lx) (hL : Lx < 2 ^ 31)
    (kk : ip_Rn l G M d (pc + 1) L (.int (xs q) :: st) h r) : ip_Rn l G M d pc L (.int i :: .ref 0 :: st) h r := by
  subst hi
  refine ⟨kk.1, fun p e R s m args below meth c Q H locs cells slots ls Cx hdp hlo hce hsl hL' hSt hS kt => ?_⟩
  have hnext := kk.2 p e R s m args below meth c Q H locs cells slots ls Cx hdp hlo hce hsl hL' hSt hS kt
  have hU := Cx.2.2.2.2.2.2.2.2
  refine va_sld Cx.1 Cx.2.1 (hX s hU.2.2) (Nat.lt_of_lt_of_le hb hU.1) (Nat.not_le.mpr hb) hS (vp_in_nI hq hL) hd ?_
  rw [nI_clamp (Nat.lt_trans hq hL)]
  exact hnext
theorem ip_slen {l : Launch} {G : ip_G} {M : ip_M} {d pc : Nat} {L : List (Option Value)} {st : List Value} {h : ip_H} {r : Option Value × ip_H} {Lx : Nat} {xs : Nat → Int32} (hd : decode M.2.1 pc = .ok (.arraylength, 1)) (hX : ∀ U : State, ip_X G U → va_X (ip_O G 0) Lx xs U U.heap) (hb : ip_O G 0 < ip_B G)
    (kk : ip_Rn l G M d (pc + 1) L (.int (nI Lx) :: st) h r) : ip_Rn l G M d pc L (.ref 0 :: st) h r :=
  ⟨kk.1, fun p e R s m args below meth c Q H locs cells slots ls Cx hdp hlo hce hsl hL' hSt hS kt =>
    va_slen Cx.1 Cx.2.1 (hX s Cx.2.2.2.2.2.2.2.2.2.2) (Nat.lt_of_lt_of_le hb Cx.2.2.2.2.2.2.2.2.1) (Nat.not_le.mpr hb) hS hd (kk.2 p e R s m args below meth c Q H locs cells slots ls Cx hdp hlo hce hsl hL' hSt hS kt)⟩
