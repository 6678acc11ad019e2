/-! a picture of fixed cells: rows and fields are one store of numbers, by cell and place -/
abbrev zS : Type := (Nat → Nat → Int32) × (Nat → Nat → Int64)
abbrev zC : Type := (Nat → Int32) → (Nat → Int64) → Nat → ip_E
abbrev zG : Type := va_G × (FieldType → ClassId) × Nat × (Nat → Nat) × (State → Prop)
abbrev zL : Type := List (Option Value)
def zP (zc : zC) (K : Nat) (S : zS) : ip_H := (List.range K).map (fun c => zc (S.1 c) (S.2 c) c)
def zI (S : zS) (c : Nat) (f : Nat → Int32) : zS := (fun q => if q = c then f else S.1 q, S.2)
def zJ (S : zS) (c : Nat) (g : Nat → Int64) : zS := (S.1, fun q => if q = c then g else S.2 q)
def zi (S : zS) (c k : Nat) (v : Int32) : zS := zI S c (upd (S.1 c) k v)
def zj (S : zS) (c k : Nat) (v : Int64) : zS := zJ S c (vp_updL (S.2 c) k v)
theorem zi_get (S : zS) (c k : Nat) (v : Int32) (c' k' : Nat) : (zi S c k v).1 c' k' = if c' = c ∧ k' = k then v else S.1 c' k' := by
  show (if c' = c then upd (S.1 c) k v else S.1 c') k' = _
  by_cases h : c' = c
  · subst h
    simp [upd]
  · simp [h]
theorem zi_get2 (S : zS) (c k : Nat) (v : Int32) : (zi S c k v).2 = S.2 := rfl
theorem zj_get (S : zS) (c k : Nat) (v : Int64) (c' k' : Nat) : (zj S c k v).2 c' k' = if c' = c ∧ k' = k then v else S.2 c' k' := by
  show (if c' = c then vp_updL (S.2 c) k v else S.2 c') k' = _
  by_cases h : c' = c
  · subst h
    simp [vp_updL]
  · simp [h]
theorem zj_get1 (S : zS) (c k : Nat) (v : Int64) : (zj S c k v).1 = S.1 := rfl
theorem zI_get (S : zS) (c : Nat) (f : Nat → Int32) (c' : Nat) : (zI S c f).1 c' = if c' = c then f else S.1 c' := rfl
theorem zI_get2 (S : zS) (c : Nat) (f : Nat → Int32) : (zI S c f).2 = S.2 := rfl
theorem zJ_get (S : zS) (c : Nat) (f : Nat → Int64) (c' : Nat) : (zJ S c f).2 c' = if c' = c then f else S.2 c' := rfl
theorem zJ_get1 (S : zS) (c : Nat) (f : Nat → Int64) : (zJ S c f).1 = S.1 := rfl
theorem z_h {zc : zC} {K : Nat} {S : zS} {c : Nat} (h : c < K) : ip_h (zP zc K S) (c + 32) = some (zc (S.1 c) (S.2 c) c) := by
  unfold ip_h zP
  rw [if_neg (by omega), Nat.add_sub_cancel, List.getElem?_map, List.getElem?_range h]
  rfl
theorem z_set {zc : zC} {K : Nat} {c : Nat} (h : c < K) (f g : Nat → ip_E) (e : ip_E) (h1 : g c = e) (h2 : ∀ q, q ≠ c → g q = f q) : ip_hs ((List.range K).map f) (c + 32) e = (List.range K).map g := by
  unfold ip_hs
  rw [Nat.add_sub_cancel]
  apply List.ext_getElem?
  intro i
  rw [List.getElem?_set, List.length_map, List.length_range, List.getElem?_map, List.getElem?_map]
  by_cases hi : i < K
  · rw [List.getElem?_range hi]
    by_cases hc : c = i
    · subst hc
      simp [hi, h1]
    · simp [hc, h2 i (Ne.symm hc)]
  · have : (List.range K)[i]? = none := List.getElem?_eq_none (by rw [List.length_range]; omega)
    rw [this]
    simp
    omega
theorem z_hsI {zc : zC} {K : Nat} {S : zS} {c : Nat} (h : c < K) (f : Nat → Int32) : ip_hs (zP zc K S) (c + 32) (zc f (S.2 c) c) = zP zc K (zI S c f) :=
  z_set (zc := zc) h _ _ _ (by show zc (if c = c then f else _) _ _ = _; rw [if_pos rfl]; rfl) (fun q hq => by show zc (if q = c then f else _) _ _ = _; rw [if_neg hq]; rfl)
theorem z_hsJ {zc : zC} {K : Nat} {S : zS} {c : Nat} (h : c < K) (f : Nat → Int64) : ip_hs (zP zc K S) (c + 32) (zc (S.1 c) f c) = zP zc K (zJ S c f) :=
  z_set (zc := zc) h _ _ _ (by show zc _ (if c = c then f else _) _ = _; rw [if_pos rfl]; rfl) (fun q hq => by show zc _ (if q = c then f else _) _ = _; rw [if_neg hq]; rfl)
/-- from here the method comes to its end with an answer and a store of which Q holds -/
def zW (l : Launch) (Gr : zG) (zc : zC) (K : Nat) (M : ip_M) (d pc : Nat) (L : zL) (st : List Value) (S : zS) (Q : Option Value → zS → Prop) : Prop :=
  ∃ (v : Option Value) (S' : zS), Q v S' ∧ ip_Rn l (lg_tbl, vwCl, Gr) M d pc L st (zP zc K S) (v, zP zc K S')
def zM (l : Launch) (Gr : zG) (zc : zC) (K : Nat) (M : ip_M) (d : Nat) (As : List Value) (S : zS) (Q : Option Value → zS → Prop) : Prop :=
  ∃ (v : Option Value) (S' : zS), Q v S' ∧ ip_RnM l (lg_tbl, vwCl, Gr) M d As (zP zc K S) (v, zP zc K S')
def zfg : zL → zL → Prop
  | [], [] => True
  | none :: a, _ :: b => zfg a b
  | some v :: a, some u :: b => v = u ∧ zfg a b
  | _, _ => False
theorem zfg_get : ∀ {a b : zL}, zfg a b → ∀ (i : Nat) (v : Value), a[i]? = some (some v) → b[i]? = some (some v)
  | [], [], _, i, v, h => by simp at h
  | none :: a, x :: b, h, 0, v, q => by simp at q
  | none :: a, x :: b, h, i + 1, v, q => zfg_get (a := a) (b := b) h i v q
  | some u :: a, some x :: b, h, 0, v, q => by
    rw [← h.1]
    exact q
  | some u :: a, some x :: b, h, i + 1, v, q => zfg_get (a := a) (b := b) h.2 i v q
  | some u :: a, none :: b, h, _, _, _ => h.elim
  | [], x :: b, h, _, _, _ => h.elim
  | none :: a, [], h, _, _, _ => h.elim
  | some u :: a, [], h, _, _, _ => h.elim
theorem ip_forget {l : Launch} {G : ip_G} {M : ip_M} {d pc : Nat} {L L' : zL} {st : List Value} {h : ip_H} {r : Option Value × ip_H} (hf : zfg L' L) (k : ip_Rn l G M d pc L' st h r) : ip_Rn l G M d pc L st h r :=
  ⟨k.1, fun p e R s m args below meth c Q H locs cells slots ls Cx hdp hlo hce hsl hL hSt hS kt =>
    k.2 p e R s m args below meth c Q H locs cells slots ls Cx hdp hlo hce hsl ⟨hL.1, hL.2.1, fun i v hi => hL.2.2 i v (zfg_get hf i v hi)⟩ hSt hS kt⟩
section ZA
variable {l : Launch} {Gr : zG} {zc : zC} {K : Nat} {M : ip_M} {d pc : Nat} {L : zL} {st : List Value} {S : zS} {Q : Option Value → zS → Prop}
theorem z_step {pc' : Nat} {L' : zL} {st' : List Value} {S' : zS} (hs : ∀ r, ip_Rn l (lg_tbl, vwCl, Gr) M d pc' L' st' (zP zc K S') r → ip_Rn l (lg_tbl, vwCl, Gr) M d pc L st (zP zc K S) r) (k : zW l Gr zc K M d pc' L' st' S' Q) : zW l Gr zc K M d pc L st S Q := by
  obtain ⟨v, S2, q, r⟩ := k
  exact ⟨v, S2, q, hs _ r⟩
theorem z_forget {L' : zL} (k : zW l Gr zc K M d pc L' st S Q) (hf : zfg L' L) : zW l Gr zc K M d pc L st S Q := z_step (fun _ h => ip_forget hf h) k
theorem z_imp {Q' : Option Value → zS → Prop} (k : zW l Gr zc K M d pc L st S Q') (h : ∀ v S', Q' v S' → Q v S') : zW l Gr zc K M d pc L st S Q := by
  obtain ⟨v, S2, q, r⟩ := k
  exact ⟨v, S2, h _ _ q, r⟩
theorem zM_imp {As : List Value} {Q' : Option Value → zS → Prop} (k : zM l Gr zc K M d As S Q') (h : ∀ v S', Q' v S' → Q v S') : zM l Gr zc K M d As S Q := by
  obtain ⟨v, S2, q, r⟩ := k
  exact ⟨v, S2, h _ _ q, r⟩
theorem z_ret {v : Option Value} (hd : decode M.2.1 pc = .ok (ip_ri v, 1)) (q : Q v S) : zW l Gr zc K M d pc L v.toList S Q := ⟨v, S, q, ip_ret hd⟩
theorem z_ofW {As : List Value} (hM : ip_okM lg_tbl M) (hn : (ip_ent0 As).length ≤ M.2.2.1) (k : zW l Gr zc K M d 0 (ip_ent As M.2.2.1) [] S (fun v S' => ip_rok M.2.2.2 v ∧ Q v S')) : zM l Gr zc K M d As S Q := by
  obtain ⟨v, S2, q, r⟩ := k
  exact ⟨v, S2, q.2, ip_ofRn (G := (lg_tbl, vwCl, Gr)) hM q.1 hn r⟩
theorem z_iald {c len : Nat} {i : Int32} (hd : decode M.2.1 pc = .ok (.iaload, 1)) (hc : c < K) (hz : zc (S.1 c) (S.2 c) c = .inl (.int, len, .inl (S.1 c))) (hin : vp_in i len) (k : zW l Gr zc K M d (pc + 1) L (.int (S.1 c i.toNatClampNeg) :: st) S Q) : zW l Gr zc K M d pc L (.int i :: .ref (c + 32) :: st) S Q :=
  z_step (fun _ h => ip_iald hd (by rw [z_h hc, hz]) hin h) k
theorem z_bald {c len : Nat} {i : Int32} (hd : decode M.2.1 pc = .ok (.baload, 1)) (hc : c < K) (hz : zc (S.1 c) (S.2 c) c = .inl (.byte, len, .inl (S.1 c))) (hin : vp_in i len) (k : zW l Gr zc K M d (pc + 1) L (.int (S.1 c i.toNatClampNeg) :: st) S Q) : zW l Gr zc K M d pc L (.int i :: .ref (c + 32) :: st) S Q :=
  z_step (fun _ h => ip_bald hd (by rw [z_h hc, hz]) hin h) k
theorem z_zald {c len : Nat} {i : Int32} (hd : decode M.2.1 pc = .ok (.baload, 1)) (hc : c < K) (hz : zc (S.1 c) (S.2 c) c = .inl (.boolean, len, .inl (S.1 c))) (hin : vp_in i len) (k : zW l Gr zc K M d (pc + 1) L (.int (S.1 c i.toNatClampNeg) :: st) S Q) : zW l Gr zc K M d pc L (.int i :: .ref (c + 32) :: st) S Q :=
  z_step (fun _ h => ip_zald hd (by rw [z_h hc, hz]) hin h) k
theorem z_lald {c len : Nat} {i : Int32} (hd : decode M.2.1 pc = .ok (.laload, 1)) (hc : c < K) (hz : zc (S.1 c) (S.2 c) c = .inl (.long, len, .inr (.inl (S.2 c)))) (hin : vp_in i len) (k : zW l Gr zc K M d (pc + 1) L (.long (S.2 c i.toNatClampNeg) :: st) S Q) : zW l Gr zc K M d pc L (.int i :: .ref (c + 32) :: st) S Q :=
  z_step (fun _ h => ip_lald hd (by rw [z_h hc, hz]) hin h) k
theorem z_iast {c len : Nat} {i x : Int32} (hd : decode M.2.1 pc = .ok (.iastore, 1)) (hc : c < K) (hz : ∀ I, zc I (S.2 c) c = .inl (.int, len, .inl I)) (hin : vp_in i len) (k : zW l Gr zc K M d (pc + 1) L st (zi S c i.toNatClampNeg x) Q) : zW l Gr zc K M d pc L (.int x :: .int i :: .ref (c + 32) :: st) S Q :=
  z_step (fun _ h => ip_iast hd (by rw [z_h hc, hz]) hin (by rw [← hz, z_hsI hc]; exact h)) k
theorem z_bast {c len : Nat} {i x : Int32} (hd : decode M.2.1 pc = .ok (.bastore, 1)) (hc : c < K) (hz : ∀ I, zc I (S.2 c) c = .inl (.byte, len, .inl I)) (hin : vp_in i len) (k : zW l Gr zc K M d (pc + 1) L st (zi S c i.toNatClampNeg x.toInt8.toInt32) Q) : zW l Gr zc K M d pc L (.int x :: .int i :: .ref (c + 32) :: st) S Q :=
  z_step (fun _ h => ip_bast hd (by rw [z_h hc, hz]) hin (by rw [← hz, z_hsI hc]; exact h)) k
theorem z_zast {c len : Nat} {i x : Int32} (hd : decode M.2.1 pc = .ok (.bastore, 1)) (hc : c < K) (hz : ∀ I, zc I (S.2 c) c = .inl (.boolean, len, .inl I)) (hin : vp_in i len) (k : zW l Gr zc K M d (pc + 1) L st (zi S c i.toNatClampNeg (x &&& 1)) Q) : zW l Gr zc K M d pc L (.int x :: .int i :: .ref (c + 32) :: st) S Q :=
  z_step (fun _ h => ip_zast hd (by rw [z_h hc, hz]) hin (by rw [← hz, z_hsI hc]; exact h)) k
theorem z_last {c len : Nat} {i : Int32} {x : Int64} (hd : decode M.2.1 pc = .ok (.lastore, 1)) (hc : c < K) (hz : ∀ J, zc (S.1 c) J c = .inl (.long, len, .inr (.inl J))) (hin : vp_in i len) (k : zW l Gr zc K M d (pc + 1) L st (zj S c i.toNatClampNeg x) Q) : zW l Gr zc K M d pc L (.long x :: .int i :: .ref (c + 32) :: st) S Q :=
  z_step (fun _ h => ip_last hd (by rw [z_h hc, hz]) hin (by rw [← hz, z_hsJ hc]; exact h)) k
theorem z_putI {idx ci k c : Nat} {fs : List Value} {ty : FieldType} {x : Int32} (hd : decode M.2.1 pc = .ok (.putfield idx, 3)) (hF : ip_F lg_tbl vwCl M.1.cls idx ci k ty false) (hc : c < K) (hz : zc (S.1 c) (S.2 c) c = .inr (ci, fs)) (hz2 : zc (upd (S.1 c) k x) (S.2 c) c = .inr (ci, fs.set k (.int x))) (hfl : k < fs.length) (hfit : fits ty (.int x) = true)
    (kk : zW l Gr zc K M d (pc + 3) L st (zi S c k x) Q) : zW l Gr zc K M d pc L (.int x :: .ref (c + 32) :: st) S Q :=
  z_step (fun _ h => ip_putf (G := (lg_tbl, vwCl, Gr)) hd hF (by rw [z_h hc, hz]) hfl hfit (by rw [← hz2, z_hsI hc]; exact h)) kk
theorem z_putJ {idx ci k c : Nat} {fs : List Value} {ty : FieldType} {x : Int64} (hd : decode M.2.1 pc = .ok (.putfield idx, 3)) (hF : ip_F lg_tbl vwCl M.1.cls idx ci k ty false) (hc : c < K) (hz : zc (S.1 c) (S.2 c) c = .inr (ci, fs)) (hz2 : zc (S.1 c) (vp_updL (S.2 c) k x) c = .inr (ci, fs.set k (.long x))) (hfl : k < fs.length) (hfit : fits ty (.long x) = true)
    (kk : zW l Gr zc K M d (pc + 3) L st (zj S c k x) Q) : zW l Gr zc K M d pc L (.long x :: .ref (c + 32) :: st) S Q :=
  z_step (fun _ h => ip_putf (G := (lg_tbl, vwCl, Gr)) hd hF (by rw [z_h hc, hz]) hfl hfit (by rw [← hz2, z_hsJ hc]; exact h)) kk
theorem z_ifeq {x : Int32} {off : Int} {tgt : Nat} (hd : decode M.2.1 pc = .ok (.ifCond .eq off, 3)) (ht : (pc : Int) + off = (tgt : Int)) (kt : x = 0 → zW l Gr zc K M d tgt L st S Q) (kf : ¬ x = 0 → zW l Gr zc K M d (pc + 3) L st S Q) : zW l Gr zc K M d pc L (.int x :: st) S Q := by
  by_cases q : x = 0
  · exact z_step (fun _ h => ip_if_eq_t hd ht q h) (kt q)
  · exact z_step (fun _ h => ip_if_eq_f hd ht q h) (kf q)
theorem z_ifne {x : Int32} {off : Int} {tgt : Nat} (hd : decode M.2.1 pc = .ok (.ifCond .ne off, 3)) (ht : (pc : Int) + off = (tgt : Int)) (kt : ¬ x = 0 → zW l Gr zc K M d tgt L st S Q) (kf : x = 0 → zW l Gr zc K M d (pc + 3) L st S Q) : zW l Gr zc K M d pc L (.int x :: st) S Q := by
  by_cases q : x = 0
  · exact z_step (fun _ h => ip_if_ne_f hd ht q h) (kf q)
  · exact z_step (fun _ h => ip_if_ne_t hd ht q h) (kt q)
theorem z_iflt {x : Int32} {off : Int} {tgt : Nat} (hd : decode M.2.1 pc = .ok (.ifCond .lt off, 3)) (ht : (pc : Int) + off = (tgt : Int)) (kt : x < 0 → zW l Gr zc K M d tgt L st S Q) (kf : ¬ x < 0 → zW l Gr zc K M d (pc + 3) L st S Q) : zW l Gr zc K M d pc L (.int x :: st) S Q := by
  by_cases q : x < 0
  · exact z_step (fun _ h => ip_if_lt_t hd ht q h) (kt q)
  · exact z_step (fun _ h => ip_if_lt_f hd ht q h) (kf q)
theorem z_ifge {x : Int32} {off : Int} {tgt : Nat} (hd : decode M.2.1 pc = .ok (.ifCond .ge off, 3)) (ht : (pc : Int) + off = (tgt : Int)) (kt : 0 ≤ x → zW l Gr zc K M d tgt L st S Q) (kf : ¬ 0 ≤ x → zW l Gr zc K M d (pc + 3) L st S Q) : zW l Gr zc K M d pc L (.int x :: st) S Q := by
  by_cases q : 0 ≤ x
  · exact z_step (fun _ h => ip_if_ge_t hd ht q h) (kt q)
  · exact z_step (fun _ h => ip_if_ge_f hd ht q h) (kf q)
theorem z_ifgt {x : Int32} {off : Int} {tgt : Nat} (hd : decode M.2.1 pc = .ok (.ifCond .gt off, 3)) (ht : (pc : Int) + off = (tgt : Int)) (kt : 0 < x → zW l Gr zc K M d tgt L st S Q) (kf : ¬ 0 < x → zW l Gr zc K M d (pc + 3) L st S Q) : zW l Gr zc K M d pc L (.int x :: st) S Q := by
  by_cases q : 0 < x
  · exact z_step (fun _ h => ip_if_gt_t hd ht q h) (kt q)
  · exact z_step (fun _ h => ip_if_gt_f hd ht q h) (kf q)
theorem z_ifle {x : Int32} {off : Int} {tgt : Nat} (hd : decode M.2.1 pc = .ok (.ifCond .le off, 3)) (ht : (pc : Int) + off = (tgt : Int)) (kt : x ≤ 0 → zW l Gr zc K M d tgt L st S Q) (kf : ¬ x ≤ 0 → zW l Gr zc K M d (pc + 3) L st S Q) : zW l Gr zc K M d pc L (.int x :: st) S Q := by
  by_cases q : x ≤ 0
  · exact z_step (fun _ h => ip_if_le_t hd ht q h) (kt q)
  · exact z_step (fun _ h => ip_if_le_f hd ht q h) (kf q)
theorem z_iclt {x y : Int32} {off : Int} {tgt : Nat} (hd : decode M.2.1 pc = .ok (.if_icmp .lt off, 3)) (ht : (pc : Int) + off = (tgt : Int)) (kt : x < y → zW l Gr zc K M d tgt L st S Q) (kf : ¬ x < y → zW l Gr zc K M d (pc + 3) L st S Q) : zW l Gr zc K M d pc L (.int y :: .int x :: st) S Q := by
  by_cases q : x < y
  · exact z_step (fun _ h => ip_icmp_lt_t hd ht q h) (kt q)
  · exact z_step (fun _ h => ip_icmp_lt_f hd ht q h) (kf q)
theorem z_icge {x y : Int32} {off : Int} {tgt : Nat} (hd : decode M.2.1 pc = .ok (.if_icmp .ge off, 3)) (ht : (pc : Int) + off = (tgt : Int)) (kt : y ≤ x → zW l Gr zc K M d tgt L st S Q) (kf : ¬ y ≤ x → zW l Gr zc K M d (pc + 3) L st S Q) : zW l Gr zc K M d pc L (.int y :: .int x :: st) S Q := by
  by_cases q : y ≤ x
  · exact z_step (fun _ h => ip_icmp_ge_t hd ht q h) (kt q)
  · exact z_step (fun _ h => ip_icmp_ge_f hd ht q h) (kf q)
theorem z_icgt {x y : Int32} {off : Int} {tgt : Nat} (hd : decode M.2.1 pc = .ok (.if_icmp .gt off, 3)) (ht : (pc : Int) + off = (tgt : Int)) (kt : y < x → zW l Gr zc K M d tgt L st S Q) (kf : ¬ y < x → zW l Gr zc K M d (pc + 3) L st S Q) : zW l Gr zc K M d pc L (.int y :: .int x :: st) S Q := by
  by_cases q : y < x
  · exact z_step (fun _ h => ip_icmp_gt_t hd ht q h) (kt q)
  · exact z_step (fun _ h => ip_icmp_gt_f hd ht q h) (kf q)
theorem z_icle {x y : Int32} {off : Int} {tgt : Nat} (hd : decode M.2.1 pc = .ok (.if_icmp .le off, 3)) (ht : (pc : Int) + off = (tgt : Int)) (kt : x ≤ y → zW l Gr zc K M d tgt L st S Q) (kf : ¬ x ≤ y → zW l Gr zc K M d (pc + 3) L st S Q) : zW l Gr zc K M d pc L (.int y :: .int x :: st) S Q := by
  by_cases q : x ≤ y
  · exact z_step (fun _ h => ip_icmp_le_t hd ht q h) (kt q)
  · exact z_step (fun _ h => ip_icmp_le_f hd ht q h) (kf q)
theorem z_iceq {x y : Int32} {off : Int} {tgt : Nat} (hd : decode M.2.1 pc = .ok (.if_icmp .eq off, 3)) (ht : (pc : Int) + off = (tgt : Int)) (kt : x = y → zW l Gr zc K M d tgt L st S Q) (kf : ¬ x = y → zW l Gr zc K M d (pc + 3) L st S Q) : zW l Gr zc K M d pc L (.int y :: .int x :: st) S Q := by
  by_cases q : x = y
  · exact z_step (fun _ h => ip_icmp_eq_t hd ht q h) (kt q)
  · exact z_step (fun _ h => ip_icmp_eq_f hd ht q h) (kf q)
theorem z_icne {x y : Int32} {off : Int} {tgt : Nat} (hd : decode M.2.1 pc = .ok (.if_icmp .ne off, 3)) (ht : (pc : Int) + off = (tgt : Int)) (kt : ¬ x = y → zW l Gr zc K M d tgt L st S Q) (kf : x = y → zW l Gr zc K M d (pc + 3) L st S Q) : zW l Gr zc K M d pc L (.int y :: .int x :: st) S Q := by
  by_cases q : x = y
  · exact z_step (fun _ h => ip_icmp_ne_f hd ht q h) (kf q)
  · exact z_step (fun _ h => ip_icmp_ne_t hd ht q h) (kt q)
theorem z_tabI {dflt lo hi : Int} {offs : Array Int} {len : Nat} {x : Int32} {off : Int} {tgt : Nat} (hd : decode M.2.1 pc = .ok (.tableswitch dflt lo hi offs, len)) (h1 : ¬ x.toInt < lo) (h2 : ¬ hi < x.toInt) (ho : offs[(x.toInt - lo).toNat]? = some off) (ht : (pc : Int) + off = (tgt : Int)) (k : zW l Gr zc K M d tgt L st S Q) : zW l Gr zc K M d pc L (.int x :: st) S Q :=
  z_step (fun _ h => ip_tabI hd h1 h2 ho ht h) k
theorem z_tabO {dflt lo hi : Int} {offs : Array Int} {len : Nat} {x : Int32} {tgt : Nat} (hd : decode M.2.1 pc = .ok (.tableswitch dflt lo hi offs, len)) (hx : x.toInt < lo ∨ hi < x.toInt) (ht : (pc : Int) + dflt = (tgt : Int)) (k : zW l Gr zc K M d tgt L st S Q) : zW l Gr zc K M d pc L (.int x :: st) S Q :=
  z_step (fun _ h => ip_tabO hd hx ht h) k
theorem z_lkp {dflt : Int} {ps : Array (Int × Int)} {len : Nat} {x : Int32} {off : Int} {tgt : Nat} (hd : decode M.2.1 pc = .ok (.lookupswitch dflt ps, len)) (hp : (ps.toList.zip (ps.toList.drop 1)).all (fun (a, next) => a.1 < next.1) = true) (ho : Op.lookupswitch.offset ps.toList dflt x.toInt = off) (ht : (pc : Int) + off = (tgt : Int)) (k : zW l Gr zc K M d tgt L st S Q) : zW l Gr zc K M d pc L (.int x :: st) S Q :=
  z_step (fun _ h => ip_lkp hd hp ho ht h) k
/-! calls -/
theorem z_callV {idx c ci N : Nat} {C : String} {F : u_T} {fs As : List Value} {M' : ip_M} {Q' : Option Value → zS → Prop} (hmv : ip_mv (lg_tbl, vwCl, Gr)) (hT : ip_okT lg_tbl) (hM : ip_okM lg_tbl M') (hd : decode M.2.1 pc = .ok (.invokevirtual idx, 3))
    (hln : Cond.methodLink M.1.cls idx M'.1 ∈ lg_tbl ∧ Cond.instanceMethod M'.1 ∈ lg_tbl ∧ Cond.selects M'.1.cls M'.1 M'.1 ∈ lg_tbl) (hpar : (parseMethodDescriptor M'.1.desc).map (fun q => q.parameters.length) = some As.length)
    (hcl : vwCl[ci]? = some (C, F, N)) (hC : C = M'.1.cls) (hc : c < K) (hz : zc (S.1 c) (S.2 c) c = .inr (ci, fs)) (hsm : (st.map fun v => v.category).sum ≤ 8) (hm : zM l Gr zc K M' d (.ref (c + 32) :: As) S Q')
    (kk : ∀ (v : Option Value) (S' : zS), Q' v S' → zW l Gr zc K M (d + 1) (pc + 3) L (v.toList ++ st) S' Q) : zW l Gr zc K M (d + 1) pc L (As.reverse ++ .ref (c + 32) :: st) S Q := by
  obtain ⟨v, S1, q, r⟩ := hm
  exact z_step (fun _ h => ip_callV (G := (lg_tbl, vwCl, Gr)) hmv hT hM hd hln hpar hcl hC (by rw [z_h hc, hz]) hsm r h) (kk v S1 q)
theorem z_callS {idx : Nat} {As : List Value} {M' : ip_M} {Q' : Option Value → zS → Prop} (hmv : ip_mv (lg_tbl, vwCl, Gr)) (hT : ip_okT lg_tbl) (hM : ip_okM lg_tbl M') (hd : decode M.2.1 pc = .ok (.invokestatic idx, 3))
    (hln : Cond.methodLink M.1.cls idx M'.1 ∈ lg_tbl ∧ Cond.static M'.1 ∈ lg_tbl) (hpar : (parseMethodDescriptor M'.1.desc).map (fun q => q.parameters.length) = some As.length)
    (hsm : (st.map fun v => v.category).sum ≤ 8) (hm : zM l Gr zc K M' d As S Q')
    (kk : ∀ (v : Option Value) (S' : zS), Q' v S' → zW l Gr zc K M (d + 1) (pc + 3) L (v.toList ++ st) S' Q) : zW l Gr zc K M (d + 1) pc L (As.reverse ++ st) S Q := by
  obtain ⟨v, S1, q, r⟩ := hm
  exact z_step (fun _ h => ip_callS (G := (lg_tbl, vwCl, Gr)) hmv hT hM hd hln hpar hsm r h) (kk v S1 q)
theorem z_callSN {idx : Nat} {host : String} {As : List Value} {M' : ip_M} {Q' : Option Value → zS → Prop} (hmv : ip_mv (lg_tbl, vwCl, Gr)) (hT : ip_okT lg_tbl) (hM : ip_okM lg_tbl M') (hd : decode M.2.1 pc = .ok (.invokestatic idx, 3))
    (hln : (∀ U : State, ip_X (lg_tbl, vwCl, Gr) U → va_Nw (.methodLinkNest M.1.cls idx M'.1 host) U) ∧ Cond.static M'.1 ∈ lg_tbl) (hpar : (parseMethodDescriptor M'.1.desc).map (fun q => q.parameters.length) = some As.length)
    (hsm : (st.map fun v => v.category).sum ≤ 8) (hm : zM l Gr zc K M' d As S Q')
    (kk : ∀ (v : Option Value) (S' : zS), Q' v S' → zW l Gr zc K M (d + 1) (pc + 3) L (v.toList ++ st) S' Q) : zW l Gr zc K M (d + 1) pc L (As.reverse ++ st) S Q := by
  obtain ⟨v, S1, q, r⟩ := hm
  exact z_step (fun _ h => ip_callSN (G := (lg_tbl, vwCl, Gr)) hmv hT hM hd hln hpar hsm r h) (kk v S1 q)
end ZA
/-! n steps that leave the store as it is, as a function -/
def zget (zc : zC) (K : Nat) (S : zS) (a ci k : Nat) : Option Value := bif Nat.ble 32 a && Nat.blt a (K + 32) then match zc (S.1 (a - 32)) (S.2 (a - 32)) (a - 32) with
    | .inr (cj, fs) => bif Nat.beq ci cj then fs[k]? else none
    | _ => none
  else none
def zlen (zc : zC) (K : Nat) (S : zS) (a : Nat) : Option Nat := bif Nat.ble 32 a && Nat.blt a (K + 32) then match zc (S.1 (a - 32)) (S.2 (a - 32)) (a - 32) with
    | .inl (.int, x) => some x.1
    | .inl (.byte, x) => some x.1
    | .inl (.boolean, x) => some x.1
    | .inl (.long, x) => some x.1
    | _ => none
  else none
abbrev zK : Type := Nat × zL × List Value
def zins (zc : zC) (K : Nat) (V : ip_V) (mL : Nat) (ins : Instr) (pc : Nat) (L : zL) (st : List Value) (S : zS) : Option zK :=
  match ins with
  | .getfield i => match st with
    | .ref a :: st => match ip_lk i V.2.1 with
      | some (ci, k, _, _) => match zget zc K S a ci k with
        | some v => some (pc + 3, L, v :: st)
        | none => none
      | none => none
    | _ => none
  | .arraylength => match st with
    | .ref a :: st => match zlen zc K S a with
      | some v => some (pc + 1, L, .int (Int32.ofNat v) :: st)
      | none => none
    | _ => none
  | i => match ip_ins V mL false i pc L st [] with
    | some (pc', L', st', []) => some (pc', L', st')
    | _ => none
def zsts (zc : zC) (K : Nat) (V : ip_V) (mL : Nat) (S : zS) : Nat → zK → Option zK
  | 0, σ => some σ
  | n + 1, σ => match ip_lk σ.1 V.1 with
    | some i => match zins zc K V mL i σ.1 σ.2.1 σ.2.2 S with
      | some σ' => zsts zc K V mL S n σ'
      | none => none
    | none => none
