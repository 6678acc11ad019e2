section
abbrev ip_E : Type := (FieldType × vp_A) ⊕ (Nat × List Value)
abbrev ip_H : Type := List ip_E
abbrev ip_M : Type := MethodName × ByteArray × Nat × Option FieldType
abbrev ip_G : Type := List Cond × List vw_C × va_G × (FieldType → ClassId) × Nat × (Nat → Nat) × (State → Prop)
def ip_T (G : ip_G) : List Cond := G.1
def ip_C (G : ip_G) : List vw_C := G.2.1
def ip_D (G : ip_G) : va_G := G.2.2.1
def ip_A (G : ip_G) : FieldType → ClassId := G.2.2.2.1
def ip_B (G : ip_G) : Nat := G.2.2.2.2.1
def ip_O (G : ip_G) : Nat → Nat := G.2.2.2.2.2.1
def ip_X (G : ip_G) : State → Prop := G.2.2.2.2.2.2
/-- a reference n of the picture: below 32 one of the old cells, else the cell n - 32 behind the base -/
def ip_a (G : ip_G) (n : Nat) : Nat := if n < 32 then ip_O G n else ip_B G + (n - 32)
def ip_v (G : ip_G) (v : Value) : Value := match v with
  | .ref n => .ref (ip_a G n)
  | w => w
def ip_cv (G : ip_G) (e : ip_E) : va_E := match e with
  | .inl a => .inl (ip_A G a.1, a.2)
  | .inr o => .inr (o.1, o.2.map (ip_v G))
def ip_ws (G : ip_G) : Nat → ip_H → va_W
  | _, [] => []
  | b, e :: h => (b, ip_cv G e) :: ip_ws G (b + 1) h
def ip_z (e : ip_E) : Nat := match e with
  | .inl a => a.2.1
  | .inr o => o.2.length
def ip_t (h : ip_H) : Nat := (h.map ip_z).sum
def ip_h (h : ip_H) (n : Nat) : Option ip_E := if n < 32 then none else h[n - 32]?
def ip_hs (h : ip_H) (n : Nat) (e : ip_E) : ip_H := h.set (n - 32) e
theorem ip_v_cat (G : ip_G) (v : Value) : (ip_v G v).category = v.category := by cases v <;> rfl
theorem ip_cats (G : ip_G) (st : List Value) : ((st.map (ip_v G)).map fun v => v.category) = st.map fun v => v.category := by
  rw [List.map_map]
  exact List.map_congr_left (fun v _ => ip_v_cat G v)
theorem ip_ws_get (G : ip_G) : ∀ (h : ip_H) (b k : Nat), (ip_ws G b h)[k]? = (h[k]?).map (fun e => (b + k, ip_cv G e))
  | [], _, _ => rfl
  | e :: h, b, 0 => rfl
  | e :: h, b, k + 1 => by
    show (ip_ws G (b + 1) h)[k]? = _
    rw [ip_ws_get G h (b + 1) k]
    show _ = (h[k]?).map _
    rw [show b + 1 + k = b + (k + 1) by omega]
theorem ip_ws_set (G : ip_G) (e : ip_E) : ∀ (h : ip_H) (b k : Nat), ip_ws G b (h.set k e) = (ip_ws G b h).set k (b + k, ip_cv G e)
  | [], _, _ => rfl
  | x :: h, b, 0 => rfl
  | x :: h, b, k + 1 => by
    show (b, ip_cv G x) :: ip_ws G (b + 1) (h.set k e) = (b, ip_cv G x) :: (ip_ws G (b + 1) h).set k _
    rw [ip_ws_set G e h (b + 1) k, show b + 1 + k = b + (k + 1) by omega]
theorem ip_ws_push (G : ip_G) (e : ip_E) : ∀ (h : ip_H) (b : Nat), ip_ws G b (h ++ [e]) = ip_ws G b h ++ [(b + h.length, ip_cv G e)]
  | [], _ => rfl
  | x :: h, b => by
    show (b, ip_cv G x) :: ip_ws G (b + 1) (h ++ [e]) = (b, ip_cv G x) :: (ip_ws G (b + 1) h ++ [(b + (h.length + 1), ip_cv G e)])
    rw [ip_ws_push G e h (b + 1), show b + 1 + h.length = b + (h.length + 1) by omega]
theorem ip_ws_at (G : ip_G) {h : ip_H} {n : Nat} {e : ip_E} (hh : ip_h h n = some e) : (ip_ws G (ip_B G) h)[n - 32]? = some (ip_a G n, ip_cv G e) := by
  unfold ip_h at hh
  split at hh
  · cases hh
  · next hn =>
    rw [ip_ws_get, hh]
    show some (ip_B G + (n - 32), _) = some (ip_a G n, _)
    unfold ip_a
    rw [if_neg hn]
theorem ip_ws_D (G : ip_G) (h : ip_H) (b : Nat) : va_D (fun q => b ≤ q) (ip_ws G b h) := by
  refine ⟨fun i j p q hi hj e => ?_, fun k q hk => ?_⟩
  · rw [ip_ws_get] at hi hj
    obtain ⟨x, -, rfl⟩ := Option.map_eq_some_iff.mp hi
    obtain ⟨y, -, rfl⟩ := Option.map_eq_some_iff.mp hj
    exact Nat.add_left_cancel e
  · rw [ip_ws_get] at hk
    obtain ⟨x, -, rfl⟩ := Option.map_eq_some_iff.mp hk
    exact Nat.le_add_right b k
theorem ip_hs_len (h : ip_H) (n : Nat) (e : ip_E) : (ip_hs h n e).length = h.length := List.length_set
theorem ip_t_set : ∀ (h : ip_H) (k : Nat) (e x : ip_E), h[k]? = some x → ip_z e = ip_z x → ip_t (h.set k e) = ip_t h
  | [], _, _, _, h, _ => by simp at h
  | y :: h, 0, e, x, hx, hz => by
    have hx : y = x := Option.some.inj hx
    subst hx
    show ip_z e + _ = ip_z y + _
    rw [hz]
  | y :: h, k + 1, e, x, hx, hz => by
    show ip_z y + ip_t (h.set k e) = ip_z y + ip_t h
    rw [ip_t_set h k e x hx hz]
theorem ip_hs_t {h : ip_H} {n : Nat} {e x : ip_E} (hx : ip_h h n = some x) (hz : ip_z e = ip_z x) : ip_t (ip_hs h n e) = ip_t h := by
  unfold ip_h at hx
  split at hx
  · cases hx
  · exact ip_t_set h _ e x hx hz
theorem ip_t_push (h : ip_H) (e : ip_E) : ip_t (h ++ [e]) = ip_t h + ip_z e := by
  unfold ip_t
  rw [List.map_append, List.sum_append]
  simp
def ip_ty (G : ip_G) : List (ClassId × FieldType) := [(ip_A G .int, .int), (ip_A G .byte, .byte), (ip_A G .boolean, .boolean), (ip_A G .long, .long)]
def ip_U (G : ip_G) (U : State) : Prop := ip_B G ≤ U.heap.size ∧ va_K (ip_D G) (ip_C G) (ip_ty G) U ∧ ip_X G U
def ip_mv (G : ip_G) : Prop := ∀ U U' : State, U.vm.Alike U'.vm → (∀ q : Nat, q < ip_B G → U'.heap[q]? = U.heap[q]?) → ip_X G U → ip_X G U'
def ip_Cx (G : ip_G) (M : ip_M) (p : Program) (s : State) (m : MethodId) (args : Array Value) (meth : Method) (c : Code) : Prop :=
  p.tables.exec = Jvm.exec ∧ c.code = M.2.1 ∧ meth.sig.returnType = M.2.2.2 ∧ c.maxLocals = M.2.2.1 ∧ s.vm.findClass M.1.cls = some m.cls ∧ (∀ w ∈ ip_T G, w.before args s = true) ∧ meth.locks = false ∧ meth.name = M.1.name ∧ ip_U G s
def ip_St (G : ip_G) (h : ip_H) (H : Heap) : Prop := H.size = ip_B G + h.length ∧ va_P (ip_D G) (ip_C G) (ip_ws G (ip_B G) h) H
def ip_ri (v : Option Value) : Instr := match v with
  | none => .return_
  | some (.int _) => .ireturn
  | some (.long _) => .lreturn
  | some _ => .areturn
def ip_L (G : ip_G) (ls : Array Slot) (n : Nat) (L : List (Option Value)) : Prop := ls.size = n ∧ lv_wf ls ∧ ∀ (i : Nat) (v : Value), L[i]? = some (some v) → ls[i]? = some (.val (ip_v G v))
abbrev ip_S (G : ip_G) (s : State) (H : Heap) (locs : List Loc) : Prop := va_S (fun q => ip_B G ≤ q) s.heap H locs
def ip_Rn (l : Launch) (G : ip_G) (M : ip_M) (d pc : Nat) (L : List (Option Value)) (st : List Value) (h : ip_H) (r : Option Value × ip_H) : Prop :=
  (h.length ≤ r.2.length ∧ ip_t h ≤ ip_t r.2) ∧
  ∀ (p : Program) (e : Env) (R : Room) (s : State) (m : MethodId) (args : Array Value) (below : List Frame) (meth : Method) (c : Code) (Q : State → Prop) (H : Heap) (locs : List Loc) (cells slots : Nat) (ls : Array Slot),
    ip_Cx G M p s m args meth c → d ≤ R.frames → 41 * d ≤ R.locals → cells + r.2.length ≤ R.cells + h.length → slots + ip_t r.2 ≤ R.slots + ip_t h →
    ip_L G ls M.2.2.1 L → ip_St G h H → ip_S G s H locs →
    (∀ (pc' : Nat) (ls' : Array Slot) (H' : Heap) (locs' : List Loc), decode M.2.1 pc' = .ok (ip_ri r.1, 1) → ip_St G r.2 H' → ip_S G s H' locs' →
      W p l e R s m args below meth c H' locs' (cells + (r.2.length - h.length)) (slots + (ip_t r.2 - ip_t h)) Q (F0 m pc' ls' (r.1.toList.map (ip_v G)))) →
    W p l e R s m args below meth c H locs cells slots Q (F0 m pc ls (st.map (ip_v G)))
/-! the words of the picture's local variables -/
def ip_lv (G : ip_G) : Nat → List (Option Value) → List (Nat × Value)
  | _, [] => []
  | i, none :: L => ip_lv G (i + 1) L
  | i, some v :: L => (i, ip_v G v) :: ip_lv G (i + 1) L
theorem ip_lv_mem (G : ip_G) : ∀ (L : List (Option Value)) (b : Nat) (q : Nat × Value), q ∈ ip_lv G b L → ∃ (i : Nat) (v : Value), L[i]? = some (some v) ∧ q = (b + i, ip_v G v)
  | [], _, q, h => by simp [ip_lv] at h
  | none :: L, b, q, h => by
    obtain ⟨i, v, h1, h2⟩ := ip_lv_mem G L (b + 1) q h
    exact ⟨i + 1, v, h1, by rw [h2, show b + 1 + i = b + (i + 1) by omega]⟩
  | some w :: L, b, q, h => by
    rcases List.mem_cons.mp h with h | h
    · exact ⟨0, w, rfl, h⟩
    · obtain ⟨i, v, h1, h2⟩ := ip_lv_mem G L (b + 1) q h
      exact ⟨i + 1, v, h1, by rw [h2, show b + 1 + i = b + (i + 1) by omega]⟩
theorem ip_lv_in (G : ip_G) : ∀ (L : List (Option Value)) (b i : Nat) (v : Value), L[i]? = some (some v) → (b + i, ip_v G v) ∈ ip_lv G b L
  | [], _, i, v, h => by simp at h
  | none :: L, b, 0, v, h => by simp at h
  | none :: L, b, i + 1, v, h => by
    have := ip_lv_in G L (b + 1) i v h
    rw [show b + 1 + i = b + (i + 1) by omega] at this
    exact this
  | some w :: L, b, 0, v, h => by
    have : w = v := by simpa using h
    subst this
    exact List.mem_cons_self
  | some w :: L, b, i + 1, v, h => by
    have := ip_lv_in G L (b + 1) i v h
    rw [show b + 1 + i = b + (i + 1) by omega] at this
    exact List.mem_cons_of_mem _ this
theorem ip_L.has {G : ip_G} {ls : Array Slot} {n : Nat} {L : List (Option Value)} (h : ip_L G ls n L) : lv_has ls n (ip_lv G 0 L) := by
  refine ⟨h.1, h.2.1, fun q hq => ?_⟩
  obtain ⟨i, v, h1, rfl⟩ := ip_lv_mem G L 0 q hq
  rw [Nat.zero_add]
  exact h.2.2 i v h1
def ip_cl (L : List (Option Value)) (i : Nat) : List (Option Value) := match i with
  | 0 => L
  | j + 1 => match L[j]? with
    | some (some v) => if v.category = 2 then L.set j none else L
    | _ => L
def ip_s1 (L : List (Option Value)) (i : Nat) (v : Value) : List (Option Value) := (ip_cl L i).set i (some v)
def ip_s2 (L : List (Option Value)) (i : Nat) (v : Value) : List (Option Value) := ((ip_cl L i).set i (some v)).set (i + 1) none
theorem ip_cl_get {L : List (Option Value)} {i j : Nat} {v : Value} (h : (ip_cl L i)[j]? = some (some v)) : L[j]? = some (some v) ∧ ¬ (j + 1 = i ∧ v.category = 2) := by
  cases i with
  | zero => exact ⟨h, fun q => by omega⟩
  | succ i =>
    unfold ip_cl at h
    cases hL : L[i]? with
    | none =>
      simp only [hL] at h
      refine ⟨h, fun q => ?_⟩
      obtain ⟨q1, q2⟩ := q
      have : j = i := by omega
      subst this
      rw [hL] at h
      cases h
    | some o =>
      cases o with
      | none =>
        simp only [hL] at h
        refine ⟨h, fun q => ?_⟩
        obtain ⟨q1, q2⟩ := q
        have : j = i := by omega
        subst this
        rw [hL] at h
        cases h
      | some w =>
        simp only [hL] at h
        by_cases hw : w.category = 2
        · rw [if_pos hw] at h
          by_cases hj : j = i
          · subst hj
            rw [List.getElem?_set] at h
            simp at h
          · rw [List.getElem?_set_ne (Ne.symm hj)] at h
            exact ⟨h, fun q => hj (by omega)⟩
        · rw [if_neg hw] at h
          refine ⟨h, fun q => ?_⟩
          obtain ⟨q1, q2⟩ := q
          have : j = i := by omega
          subst this
          rw [hL] at h
          have : w = v := by simpa using h
          subst this
          exact hw q2
theorem ip_L_s1 {G : ip_G} {ls' : Array Slot} {n i : Nat} {L : List (Option Value)} {v w : Value} (hw : w = ip_v G v)
    (h : lv_has ls' n ((i, w) :: (ip_lv G 0 L).filter (fun q => !(q.1 == i) && !(q.1 + 1 == i && q.2.category == 2)))) : ip_L G ls' n (ip_s1 L i v) := by
  refine ⟨h.1, h.2.1, fun j x hj => ?_⟩
  unfold ip_s1 at hj
  by_cases hji : j = i
  · subst hji
    rw [List.getElem?_set] at hj
    have hx : v = x := by
      split at hj
      · split at hj
        · simpa using hj
        · cases hj
      · next hne => exact absurd rfl hne
    subst hx
    rw [← hw]
    exact h.2.2 (j, w) List.mem_cons_self
  · rw [List.getElem?_set_ne (Ne.symm hji)] at hj
    obtain ⟨h1, h2⟩ := ip_cl_get hj
    have hm := ip_lv_in G L 0 j x h1
    rw [Nat.zero_add] at hm
    refine h.2.2 (j, ip_v G x) (List.mem_cons_of_mem _ (List.mem_filter.mpr ⟨hm, ?_⟩))
    simp only [ip_v_cat, Bool.and_eq_true, Bool.not_eq_true', beq_eq_false_iff_ne, ne_eq, Bool.and_eq_false_iff]
    refine ⟨hji, ?_⟩
    by_cases q1 : j + 1 = i
    · exact Or.inr (fun q2 => h2 ⟨q1, q2⟩)
    · exact Or.inl q1
theorem ip_L_s2 {G : ip_G} {ls' : Array Slot} {n i : Nat} {L : List (Option Value)} {v w : Value} (hw : w = ip_v G v)
    (h : lv_has ls' n ((i, w) :: (ip_lv G 0 L).filter (fun q => !(q.1 == i) && (!(q.1 == i + 1) && !(q.1 + 1 == i && q.2.category == 2))))) : ip_L G ls' n (ip_s2 L i v) := by
  refine ⟨h.1, h.2.1, fun j x hj => ?_⟩
  unfold ip_s2 at hj
  by_cases hj1 : j = i + 1
  · subst hj1
    rw [List.getElem?_set] at hj
    simp at hj
  · rw [List.getElem?_set_ne (Ne.symm hj1)] at hj
    by_cases hji : j = i
    · subst hji
      rw [List.getElem?_set] at hj
      have hx : v = x := by
        split at hj
        · split at hj
          · simpa using hj
          · cases hj
        · next hne => exact absurd rfl hne
      subst hx
      rw [← hw]
      exact h.2.2 (j, w) List.mem_cons_self
    · rw [List.getElem?_set_ne (Ne.symm hji)] at hj
      obtain ⟨h1, h2⟩ := ip_cl_get hj
      have hm := ip_lv_in G L 0 j x h1
      rw [Nat.zero_add] at hm
      refine h.2.2 (j, ip_v G x) (List.mem_cons_of_mem _ (List.mem_filter.mpr ⟨hm, ?_⟩))
      simp only [ip_v_cat, Bool.and_eq_true, Bool.not_eq_true', beq_eq_false_iff_ne, ne_eq, Bool.and_eq_false_iff]
      refine ⟨hji, hj1, ?_⟩
      by_cases q1 : j + 1 = i
      · exact Or.inr (fun q2 => h2 ⟨q1, q2⟩)
      · exact Or.inl q1
end
section
section IPP
variable {l : Launch} {G : ip_G} {M : ip_M} {d pc : Nat} {L : List (Option Value)} {st : List Value} {h : ip_H} {r : Option Value × ip_H}
theorem ip_pure {pc' : Nat} {L' : List (Option Value)} {st' : List Value}
    (hs : ∀ (p : Program) (e : Env) (R : Room) (s : State) (m : MethodId) (args : Array Value) (below : List Frame) (meth : Method) (c : Code) (Q : State → Prop) (H : Heap) (locs : List Loc) (cells slots : Nat) (ls : Array Slot),
      ip_Cx G M p s m args meth c → d ≤ R.frames → 41 * d ≤ R.locals → ip_L G ls M.2.2.1 L → (∀ ls' : Array Slot, ip_L G ls' M.2.2.1 L' → W p l e R s m args below meth c H locs cells slots Q (F0 m pc' ls' (st'.map (ip_v G)))) → W p l e R s m args below meth c H locs cells slots Q (F0 m pc ls (st.map (ip_v G))))
    (k : ip_Rn l G M d pc' L' st' h r) : ip_Rn l G M d pc L st h r :=
  ⟨k.1, fun p e R s m args below meth c Q H locs cells slots ls C hd hl hc hsl hL hSt hS kk =>
    hs p e R s m args below meth c Q H locs cells slots ls C hd hl hL (fun ls' hL' => k.2 p e R s m args below meth c Q H locs cells slots ls' C hd hl hc hsl hL' hSt hS kk)⟩
theorem ip_iconst {n : Int} {v : Int32} (hd : decode M.2.1 pc = .ok (.iconst n, 1)) (hv : Int32.ofInt n = v) (k : ip_Rn l G M d (pc + 1) L (.int v :: st) h r) : ip_Rn l G M d pc L st h r :=
  ip_pure (fun _ _ _ _ _ _ _ _ _ _ _ _ _ _ _ C _ _ hL kk => lv_iconst C.1 C.2.1 hd hv (kk _ hL)) k
theorem ip_bipush {n : Int} {v : Int32} (hd : decode M.2.1 pc = .ok (.bipush n, 2)) (hv : (Int8.ofInt n).toInt32 = v) (k : ip_Rn l G M d (pc + 2) L (.int v :: st) h r) : ip_Rn l G M d pc L st h r :=
  ip_pure (fun _ _ _ _ _ _ _ _ _ _ _ _ _ _ _ C _ _ hL kk => lv_bipush C.1 C.2.1 hd hv (kk _ hL)) k
theorem ip_sipush {n : Int} {v : Int32} (hd : decode M.2.1 pc = .ok (.sipush n, 3)) (hv : (Int16.ofInt n).toInt32 = v) (k : ip_Rn l G M d (pc + 3) L (.int v :: st) h r) : ip_Rn l G M d pc L st h r :=
  ip_pure (fun _ _ _ _ _ _ _ _ _ _ _ _ _ _ _ C _ _ hL kk => lv_sipush C.1 C.2.1 hd hv (kk _ hL)) k
theorem ip_lconst {n : Fin 2} {v : Int64} (hd : decode M.2.1 pc = .ok (.lconst n, 1)) (hv : Int64.ofNat (n : Nat) = v) (k : ip_Rn l G M d (pc + 1) L (.long v :: st) h r) : ip_Rn l G M d pc L st h r :=
  ip_pure (fun _ _ _ _ _ _ _ _ _ _ _ _ _ _ _ C _ _ hL kk => lv_lconst C.1 C.2.1 hd hv (kk _ hL)) k
theorem ip_ldc {i : Nat} {v : Int32} (hd : decode M.2.1 pc = .ok (.ldc i, 2)) (hw : Cond.constant M.1.cls i v ∈ ip_T G) (k : ip_Rn l G M d (pc + 2) L (.int v :: st) h r) : ip_Rn l G M d pc L st h r :=
  ip_pure (fun _ _ _ _ _ _ _ _ _ _ _ _ _ _ _ C _ _ hL kk => lv_ldc C.1 C.2.1 C.2.2.2.2.1 (C.2.2.2.2.2.1 _ hw) hd (kk _ hL)) k
theorem ip_ldcw {i : Nat} {v : Int32} (hd : decode M.2.1 pc = .ok (.ldc_w i, 3)) (hw : Cond.constant M.1.cls i v ∈ ip_T G) (k : ip_Rn l G M d (pc + 3) L (.int v :: st) h r) : ip_Rn l G M d pc L st h r :=
  ip_pure (fun _ _ _ _ _ _ _ _ _ _ _ _ _ _ _ C _ _ hL kk => lv_ldcw C.1 C.2.1 C.2.2.2.2.1 (C.2.2.2.2.2.1 _ hw) hd (kk _ hL)) k
theorem ip_ldc2 {i : Nat} {v : Int64} (hd : decode M.2.1 pc = .ok (.ldc2_w i, 3)) (hw : Cond.constantLong M.1.cls i v ∈ ip_T G) (k : ip_Rn l G M d (pc + 3) L (.long v :: st) h r) : ip_Rn l G M d pc L st h r :=
  ip_pure (fun _ _ _ _ _ _ _ _ _ _ _ _ _ _ _ C _ _ hL kk => lv_ldc2 C.1 C.2.1 C.2.2.2.2.1 (C.2.2.2.2.2.1 _ hw) hd (kk _ hL)) k
theorem ip_iload {i : Nat} {x : Int32} (hd : decode M.2.1 pc = .ok (.iload i, 2)) (hv : L[i]? = some (some (.int x))) (k : ip_Rn l G M d (pc + 2) L (.int x :: st) h r) : ip_Rn l G M d pc L st h r :=
  ip_pure (fun _ _ _ _ _ _ _ _ _ _ _ _ _ _ _ C _ _ hL kk => lv_iload C.1 C.2.1 hd (hL.2.2 _ _ hv) (kk _ hL)) k
theorem ip_iload_n {i : Fin 4} {x : Int32} (hd : decode M.2.1 pc = .ok (.iload_n i, 1)) (hv : L[i.val]? = some (some (.int x))) (k : ip_Rn l G M d (pc + 1) L (.int x :: st) h r) : ip_Rn l G M d pc L st h r :=
  ip_pure (fun _ _ _ _ _ _ _ _ _ _ _ _ _ _ _ C _ _ hL kk => lv_iload_n C.1 C.2.1 hd rfl (hL.2.2 _ _ hv) (kk _ hL)) k
theorem ip_lload {i : Nat} {x : Int64} (hd : decode M.2.1 pc = .ok (.lload i, 2)) (hv : L[i]? = some (some (.long x))) (k : ip_Rn l G M d (pc + 2) L (.long x :: st) h r) : ip_Rn l G M d pc L st h r :=
  ip_pure (fun _ _ _ _ _ _ _ _ _ _ _ _ _ _ _ C _ _ hL kk => lv_lload C.1 C.2.1 hd (hL.2.2 _ _ hv) (kk _ hL)) k
theorem ip_lload_n {i : Fin 4} {x : Int64} (hd : decode M.2.1 pc = .ok (.lload_n i, 1)) (hv : L[i.val]? = some (some (.long x))) (k : ip_Rn l G M d (pc + 1) L (.long x :: st) h r) : ip_Rn l G M d pc L st h r :=
  ip_pure (fun _ _ _ _ _ _ _ _ _ _ _ _ _ _ _ C _ _ hL kk => lv_lload_n C.1 C.2.1 hd rfl (hL.2.2 _ _ hv) (kk _ hL)) k
theorem ip_aload {i : Nat} {x : Nat} (hd : decode M.2.1 pc = .ok (.aload i, 2)) (hv : L[i]? = some (some (.ref x))) (k : ip_Rn l G M d (pc + 2) L (.ref x :: st) h r) : ip_Rn l G M d pc L st h r :=
  ip_pure (fun _ _ _ _ _ _ _ _ _ _ _ _ _ _ _ C _ _ hL kk => lv_aload C.1 C.2.1 hd (hL.2.2 _ _ hv) (kk _ hL)) k
theorem ip_aload_n {i : Fin 4} {x : Nat} (hd : decode M.2.1 pc = .ok (.aload_n i, 1)) (hv : L[i.val]? = some (some (.ref x))) (k : ip_Rn l G M d (pc + 1) L (.ref x :: st) h r) : ip_Rn l G M d pc L st h r :=
  ip_pure (fun _ _ _ _ _ _ _ _ _ _ _ _ _ _ _ C _ _ hL kk => lv_aload_n C.1 C.2.1 hd rfl (hL.2.2 _ _ hv) (kk _ hL)) k
theorem ip_istore {i : Nat} {x : Int32} (hd : decode M.2.1 pc = .ok (.istore i, 2)) (hi : i < M.2.2.1) (k : ip_Rn l G M d (pc + 2) (ip_s1 L i (.int x)) st h r) : ip_Rn l G M d pc L (.int x :: st) h r :=
  ip_pure (fun _ _ _ _ _ _ _ _ _ _ _ _ _ _ _ C _ _ hL kk => lv_istore C.1 C.2.1 hd hL.has hi rfl (fun ls' h' => kk ls' (ip_L_s1 rfl h'))) k
theorem ip_istore_n {i : Fin 4} {x : Int32} (hd : decode M.2.1 pc = .ok (.istore_n i, 1)) (hi : i.val < M.2.2.1) (k : ip_Rn l G M d (pc + 1) (ip_s1 L i.val (.int x)) st h r) : ip_Rn l G M d pc L (.int x :: st) h r :=
  ip_pure (fun _ _ _ _ _ _ _ _ _ _ _ _ _ _ _ C _ _ hL kk => lv_istore_n C.1 C.2.1 hd rfl hL.has hi rfl (fun ls' h' => kk ls' (ip_L_s1 rfl h'))) k
theorem ip_lstore {i : Nat} {x : Int64} (hd : decode M.2.1 pc = .ok (.lstore i, 2)) (hi : i + 1 < M.2.2.1) (k : ip_Rn l G M d (pc + 2) (ip_s2 L i (.long x)) st h r) : ip_Rn l G M d pc L (.long x :: st) h r :=
  ip_pure (fun _ _ _ _ _ _ _ _ _ _ _ _ _ _ _ C _ _ hL kk => lv_lstore C.1 C.2.1 hd hL.has hi rfl (fun ls' h' => kk ls' (ip_L_s2 rfl h'))) k
theorem ip_lstore_n {i : Fin 4} {x : Int64} (hd : decode M.2.1 pc = .ok (.lstore_n i, 1)) (hi : i.val + 1 < M.2.2.1) (k : ip_Rn l G M d (pc + 1) (ip_s2 L i.val (.long x)) st h r) : ip_Rn l G M d pc L (.long x :: st) h r :=
  ip_pure (fun _ _ _ _ _ _ _ _ _ _ _ _ _ _ _ C _ _ hL kk => lv_lstore_n C.1 C.2.1 hd rfl hL.has hi rfl (fun ls' h' => kk ls' (ip_L_s2 rfl h'))) k
theorem ip_astore {i : Nat} {x : Nat} (hd : decode M.2.1 pc = .ok (.astore i, 2)) (hi : i < M.2.2.1) (k : ip_Rn l G M d (pc + 2) (ip_s1 L i (.ref x)) st h r) : ip_Rn l G M d pc L (.ref x :: st) h r :=
  ip_pure (fun _ _ _ _ _ _ _ _ _ _ _ _ _ _ _ C _ _ hL kk => lv_astore C.1 C.2.1 hd hL.has hi rfl (fun ls' h' => kk ls' (ip_L_s1 rfl h'))) k
theorem ip_astore_n {i : Fin 4} {x : Nat} (hd : decode M.2.1 pc = .ok (.astore_n i, 1)) (hi : i.val < M.2.2.1) (k : ip_Rn l G M d (pc + 1) (ip_s1 L i.val (.ref x)) st h r) : ip_Rn l G M d pc L (.ref x :: st) h r :=
  ip_pure (fun _ _ _ _ _ _ _ _ _ _ _ _ _ _ _ C _ _ hL kk => lv_astore_n C.1 C.2.1 hd rfl hL.has hi rfl (fun ls' h' => kk ls' (ip_L_s1 rfl h'))) k
theorem ip_iinc {i : Nat} {n : Int} {x : Int32} (hd : decode M.2.1 pc = .ok (.iinc i n, 3)) (hv : L[i]? = some (some (.int x))) (hi : i < M.2.2.1) (k : ip_Rn l G M d (pc + 3) (ip_s1 L i (.int (x + Int32.ofInt n))) st h r) : ip_Rn l G M d pc L st h r :=
  ip_pure (fun _ _ _ _ _ _ _ _ _ _ _ _ _ _ _ C _ _ hL kk => by
    obtain ⟨q, hq⟩ := List.getElem?_of_mem (ip_lv_in G L 0 i _ hv)
    rw [Nat.zero_add] at hq
    exact lv_iinc C.1 C.2.1 hd hL.has hq rfl hi rfl (fun ls' h' => kk ls' (ip_L_s1 rfl h'))) k
theorem ip_iadd {x y : Int32} (hd : decode M.2.1 pc = .ok (.iadd, 1)) (k : ip_Rn l G M d (pc + 1) L (.int (x + y) :: st) h r) : ip_Rn l G M d pc L (.int y :: .int x :: st) h r :=
  ip_pure (fun _ _ _ _ _ _ _ _ _ _ _ _ _ _ _ C _ _ hL kk => lv_iadd C.1 C.2.1 hd (kk _ hL)) k
theorem ip_isub {x y : Int32} (hd : decode M.2.1 pc = .ok (.isub, 1)) (k : ip_Rn l G M d (pc + 1) L (.int (x - y) :: st) h r) : ip_Rn l G M d pc L (.int y :: .int x :: st) h r :=
  ip_pure (fun _ _ _ _ _ _ _ _ _ _ _ _ _ _ _ C _ _ hL kk => lv_isub C.1 C.2.1 hd (kk _ hL)) k
theorem ip_imul {x y : Int32} (hd : decode M.2.1 pc = .ok (.imul, 1)) (k : ip_Rn l G M d (pc + 1) L (.int (x * y) :: st) h r) : ip_Rn l G M d pc L (.int y :: .int x :: st) h r :=
  ip_pure (fun _ _ _ _ _ _ _ _ _ _ _ _ _ _ _ C _ _ hL kk => lv_imul C.1 C.2.1 hd (kk _ hL)) k
theorem ip_iand {x y : Int32} (hd : decode M.2.1 pc = .ok (.iand, 1)) (k : ip_Rn l G M d (pc + 1) L (.int (x &&& y) :: st) h r) : ip_Rn l G M d pc L (.int y :: .int x :: st) h r :=
  ip_pure (fun _ _ _ _ _ _ _ _ _ _ _ _ _ _ _ C _ _ hL kk => lv_iand C.1 C.2.1 hd (kk _ hL)) k
theorem ip_ior {x y : Int32} (hd : decode M.2.1 pc = .ok (.ior, 1)) (k : ip_Rn l G M d (pc + 1) L (.int (x ||| y) :: st) h r) : ip_Rn l G M d pc L (.int y :: .int x :: st) h r :=
  ip_pure (fun _ _ _ _ _ _ _ _ _ _ _ _ _ _ _ C _ _ hL kk => lv_ior C.1 C.2.1 hd (kk _ hL)) k
theorem ip_ixor {x y : Int32} (hd : decode M.2.1 pc = .ok (.ixor, 1)) (k : ip_Rn l G M d (pc + 1) L (.int (x ^^^ y) :: st) h r) : ip_Rn l G M d pc L (.int y :: .int x :: st) h r :=
  ip_pure (fun _ _ _ _ _ _ _ _ _ _ _ _ _ _ _ C _ _ hL kk => lv_ixor C.1 C.2.1 hd (kk _ hL)) k
theorem ip_idiv {x y : Int32} (hd : decode M.2.1 pc = .ok (.idiv, 1)) (hne : ¬ y = 0) (k : ip_Rn l G M d (pc + 1) L (.int (x / y) :: st) h r) : ip_Rn l G M d pc L (.int y :: .int x :: st) h r :=
  ip_pure (fun _ _ _ _ _ _ _ _ _ _ _ _ _ _ _ C _ _ hL kk => lv_idiv C.1 C.2.1 hd hne (kk _ hL)) k
theorem ip_irem {x y : Int32} (hd : decode M.2.1 pc = .ok (.irem, 1)) (hne : ¬ y = 0) (k : ip_Rn l G M d (pc + 1) L (.int (x - x / y * y) :: st) h r) : ip_Rn l G M d pc L (.int y :: .int x :: st) h r :=
  ip_pure (fun _ _ _ _ _ _ _ _ _ _ _ _ _ _ _ C _ _ hL kk => lv_irem C.1 C.2.1 hd hne (kk _ hL)) k
theorem ip_ineg {x : Int32} (hd : decode M.2.1 pc = .ok (.ineg, 1)) (k : ip_Rn l G M d (pc + 1) L (.int (-x) :: st) h r) : ip_Rn l G M d pc L (.int x :: st) h r :=
  ip_pure (fun _ _ _ _ _ _ _ _ _ _ _ _ _ _ _ C _ _ hL kk => lv_ineg C.1 C.2.1 hd (kk _ hL)) k
theorem ip_ishl {x y : Int32} (hd : decode M.2.1 pc = .ok (.ishl, 1)) (k : ip_Rn l G M d (pc + 1) L (.int (x <<< (y &&& 31)) :: st) h r) : ip_Rn l G M d pc L (.int y :: .int x :: st) h r :=
  ip_pure (fun _ _ _ _ _ _ _ _ _ _ _ _ _ _ _ C _ _ hL kk => lv_ishl C.1 C.2.1 hd (kk _ hL)) k
theorem ip_ishr {x y : Int32} (hd : decode M.2.1 pc = .ok (.ishr, 1)) (k : ip_Rn l G M d (pc + 1) L (.int (x >>> (y &&& 31)) :: st) h r) : ip_Rn l G M d pc L (.int y :: .int x :: st) h r :=
  ip_pure (fun _ _ _ _ _ _ _ _ _ _ _ _ _ _ _ C _ _ hL kk => lv_ishr C.1 C.2.1 hd (kk _ hL)) k
theorem ip_iushr {x y v : Int32} (hd : decode M.2.1 pc = .ok (.iushr, 1)) (hv : (x.toUInt32 >>> (y.toUInt32 &&& Int32.toUInt32 31)).toInt32 = v) (k : ip_Rn l G M d (pc + 1) L (.int v :: st) h r) : ip_Rn l G M d pc L (.int y :: .int x :: st) h r :=
  ip_pure (fun _ _ _ _ _ _ _ _ _ _ _ _ _ _ _ C _ _ hL kk => lv_iushr C.1 C.2.1 hd hv (kk _ hL)) k
theorem ip_ladd {x y : Int64} (hd : decode M.2.1 pc = .ok (.ladd, 1)) (k : ip_Rn l G M d (pc + 1) L (.long (x + y) :: st) h r) : ip_Rn l G M d pc L (.long y :: .long x :: st) h r :=
  ip_pure (fun _ _ _ _ _ _ _ _ _ _ _ _ _ _ _ C _ _ hL kk => lv_ladd C.1 C.2.1 hd (kk _ hL)) k
theorem ip_lsub {x y : Int64} (hd : decode M.2.1 pc = .ok (.lsub, 1)) (k : ip_Rn l G M d (pc + 1) L (.long (x - y) :: st) h r) : ip_Rn l G M d pc L (.long y :: .long x :: st) h r :=
  ip_pure (fun _ _ _ _ _ _ _ _ _ _ _ _ _ _ _ C _ _ hL kk => lv_lsub C.1 C.2.1 hd (kk _ hL)) k
theorem ip_lmul {x y : Int64} (hd : decode M.2.1 pc = .ok (.lmul, 1)) (k : ip_Rn l G M d (pc + 1) L (.long (x * y) :: st) h r) : ip_Rn l G M d pc L (.long y :: .long x :: st) h r :=
  ip_pure (fun _ _ _ _ _ _ _ _ _ _ _ _ _ _ _ C _ _ hL kk => lv_lmul C.1 C.2.1 hd (kk _ hL)) k
theorem ip_land {x y : Int64} (hd : decode M.2.1 pc = .ok (.land, 1)) (k : ip_Rn l G M d (pc + 1) L (.long (x &&& y) :: st) h r) : ip_Rn l G M d pc L (.long y :: .long x :: st) h r :=
  ip_pure (fun _ _ _ _ _ _ _ _ _ _ _ _ _ _ _ C _ _ hL kk => lv_land C.1 C.2.1 hd (kk _ hL)) k
theorem ip_lor {x y : Int64} (hd : decode M.2.1 pc = .ok (.lor, 1)) (k : ip_Rn l G M d (pc + 1) L (.long (x ||| y) :: st) h r) : ip_Rn l G M d pc L (.long y :: .long x :: st) h r :=
  ip_pure (fun _ _ _ _ _ _ _ _ _ _ _ _ _ _ _ C _ _ hL kk => lv_lor C.1 C.2.1 hd (kk _ hL)) k
theorem ip_lxor {x y : Int64} (hd : decode M.2.1 pc = .ok (.lxor, 1)) (k : ip_Rn l G M d (pc + 1) L (.long (x ^^^ y) :: st) h r) : ip_Rn l G M d pc L (.long y :: .long x :: st) h r :=
  ip_pure (fun _ _ _ _ _ _ _ _ _ _ _ _ _ _ _ C _ _ hL kk => lv_lxor C.1 C.2.1 hd (kk _ hL)) k
theorem ip_ldiv {x y : Int64} (hd : decode M.2.1 pc = .ok (.ldiv, 1)) (hne : ¬ y = 0) (k : ip_Rn l G M d (pc + 1) L (.long (x / y) :: st) h r) : ip_Rn l G M d pc L (.long y :: .long x :: st) h r :=
  ip_pure (fun _ _ _ _ _ _ _ _ _ _ _ _ _ _ _ C _ _ hL kk => lv_ldiv C.1 C.2.1 hd hne (kk _ hL)) k
theorem ip_lrem {x y : Int64} (hd : decode M.2.1 pc = .ok (.lrem, 1)) (hne : ¬ y = 0) (k : ip_Rn l G M d (pc + 1) L (.long (x - x / y * y) :: st) h r) : ip_Rn l G M d pc L (.long y :: .long x :: st) h r :=
  ip_pure (fun _ _ _ _ _ _ _ _ _ _ _ _ _ _ _ C _ _ hL kk => lv_lrem C.1 C.2.1 hd hne (kk _ hL)) k
theorem ip_lneg {x : Int64} (hd : decode M.2.1 pc = .ok (.lneg, 1)) (k : ip_Rn l G M d (pc + 1) L (.long (-x) :: st) h r) : ip_Rn l G M d pc L (.long x :: st) h r :=
  ip_pure (fun _ _ _ _ _ _ _ _ _ _ _ _ _ _ _ C _ _ hL kk => lv_lneg C.1 C.2.1 hd (kk _ hL)) k
theorem ip_lshl {x : Int64} {y : Int32} (hd : decode M.2.1 pc = .ok (.lshl, 1)) (k : ip_Rn l G M d (pc + 1) L (.long (x <<< (y.toInt64 &&& 63)) :: st) h r) : ip_Rn l G M d pc L (.int y :: .long x :: st) h r :=
  ip_pure (fun _ _ _ _ _ _ _ _ _ _ _ _ _ _ _ C _ _ hL kk => lv_lshl C.1 C.2.1 hd rfl (kk _ hL)) k
theorem ip_lshr {x : Int64} {y : Int32} (hd : decode M.2.1 pc = .ok (.lshr, 1)) (k : ip_Rn l G M d (pc + 1) L (.long (x >>> (y.toInt64 &&& 63)) :: st) h r) : ip_Rn l G M d pc L (.int y :: .long x :: st) h r :=
  ip_pure (fun _ _ _ _ _ _ _ _ _ _ _ _ _ _ _ C _ _ hL kk => lv_lshr C.1 C.2.1 hd rfl (kk _ hL)) k
theorem ip_lushr {x : Int64} {y : Int32} (hd : decode M.2.1 pc = .ok (.lushr, 1)) (k : ip_Rn l G M d (pc + 1) L (.long (x.toUInt64 >>> (y.toInt64.toUInt64 &&& Int64.toUInt64 63)).toInt64 :: st) h r) : ip_Rn l G M d pc L (.int y :: .long x :: st) h r :=
  ip_pure (fun _ _ _ _ _ _ _ _ _ _ _ _ _ _ _ C _ _ hL kk => lv_lushr C.1 C.2.1 hd rfl (kk _ hL)) k
theorem ip_lcmp {x y : Int64} (hd : decode M.2.1 pc = .ok (.lcmp, 1)) (k : ip_Rn l G M d (pc + 1) L (.int (lg_cmp x y) :: st) h r) : ip_Rn l G M d pc L (.long y :: .long x :: st) h r :=
  ip_pure (fun _ _ _ _ _ _ _ _ _ _ _ _ _ _ _ C _ _ hL kk => W.lcmp C.1 C.2.1 hd (kk _ hL)) k
theorem ip_i2l {x : Int32} (hd : decode M.2.1 pc = .ok (.i2l, 1)) (k : ip_Rn l G M d (pc + 1) L (.long x.toInt64 :: st) h r) : ip_Rn l G M d pc L (.int x :: st) h r :=
  ip_pure (fun _ _ _ _ _ _ _ _ _ _ _ _ _ _ _ C _ _ hL kk => lv_i2l C.1 C.2.1 hd rfl (kk _ hL)) k
theorem ip_l2i {x : Int64} (hd : decode M.2.1 pc = .ok (.l2i, 1)) (k : ip_Rn l G M d (pc + 1) L (.int x.toInt32 :: st) h r) : ip_Rn l G M d pc L (.long x :: st) h r :=
  ip_pure (fun _ _ _ _ _ _ _ _ _ _ _ _ _ _ _ C _ _ hL kk => lv_l2i C.1 C.2.1 hd rfl (kk _ hL)) k
theorem ip_i2b {x : Int32} (hd : decode M.2.1 pc = .ok (.i2b, 1)) (k : ip_Rn l G M d (pc + 1) L (.int x.toInt8.toInt32 :: st) h r) : ip_Rn l G M d pc L (.int x :: st) h r :=
  ip_pure (fun _ _ _ _ _ _ _ _ _ _ _ _ _ _ _ C _ _ hL kk => lv_i2b C.1 C.2.1 hd rfl (kk _ hL)) k
theorem ip_i2c {x : Int32} (hd : decode M.2.1 pc = .ok (.i2c, 1)) (k : ip_Rn l G M d (pc + 1) L (.int (x.toUInt32 % 65536).toInt32 :: st) h r) : ip_Rn l G M d pc L (.int x :: st) h r :=
  ip_pure (fun _ _ _ _ _ _ _ _ _ _ _ _ _ _ _ C _ _ hL kk => lv_i2c C.1 C.2.1 hd rfl (kk _ hL)) k
theorem ip_dup {v : Value} (hd : decode M.2.1 pc = .ok (.dup, 1)) (hc : v.category = 1) (k : ip_Rn l G M d (pc + 1) L (v :: v :: st) h r) : ip_Rn l G M d pc L (v :: st) h r :=
  ip_pure (fun _ _ _ _ _ _ _ _ _ _ _ _ _ _ _ C _ _ hL kk => lv_dup C.1 C.2.1 hd ((ip_v_cat G v).trans hc) (kk _ hL)) k
theorem ip_pop {v : Value} (hd : decode M.2.1 pc = .ok (.pop, 1)) (hc : v.category = 1) (k : ip_Rn l G M d (pc + 1) L st h r) : ip_Rn l G M d pc L (v :: st) h r :=
  ip_pure (fun _ _ _ _ _ _ _ _ _ _ _ _ _ _ _ C _ _ hL kk => lv_pop C.1 C.2.1 hd ((ip_v_cat G v).trans hc) (kk _ hL)) k
theorem ip_dup_x1 {v w : Value} (hd : decode M.2.1 pc = .ok (.dup_x1, 1)) (hc : v.category = 1) (hc2 : w.category = 1) (k : ip_Rn l G M d (pc + 1) L (v :: w :: v :: st) h r) : ip_Rn l G M d pc L (v :: w :: st) h r :=
  ip_pure (fun _ _ _ _ _ _ _ _ _ _ _ _ _ _ _ C _ _ hL kk => lv_dup_x1 C.1 C.2.1 hd ((ip_v_cat G v).trans hc) ((ip_v_cat G w).trans hc2) (kk _ hL)) k
theorem ip_dup2_11 {v w : Value} (hd : decode M.2.1 pc = .ok (.dup2, 1)) (hc : v.category = 1) (hc2 : w.category = 1) (k : ip_Rn l G M d (pc + 1) L (v :: w :: v :: w :: st) h r) : ip_Rn l G M d pc L (v :: w :: st) h r :=
  ip_pure (fun _ _ _ _ _ _ _ _ _ _ _ _ _ _ _ C _ _ hL kk => lv_dup2_11 C.1 C.2.1 hd ((ip_v_cat G v).trans hc) ((ip_v_cat G w).trans hc2) (kk _ hL)) k
theorem ip_dup2_2 {v : Value} (hd : decode M.2.1 pc = .ok (.dup2, 1)) (hc : v.category = 2) (k : ip_Rn l G M d (pc + 1) L (v :: v :: st) h r) : ip_Rn l G M d pc L (v :: st) h r :=
  ip_pure (fun _ _ _ _ _ _ _ _ _ _ _ _ _ _ _ C _ _ hL kk => lv_dup2_2 C.1 C.2.1 hd ((ip_v_cat G v).trans hc) (kk _ hL)) k
theorem ip_goto {off : Int} {tgt : Nat} (hd : decode M.2.1 pc = .ok (.goto off, 3)) (ht : (pc : Int) + off = (tgt : Int)) (k : ip_Rn l G M d tgt L st h r) : ip_Rn l G M d pc L st h r :=
  ip_pure (fun _ _ _ _ _ _ _ _ _ _ _ _ _ _ _ C _ _ hL kk => lv_goto C.1 C.2.1 hd ht (kk _ hL)) k
end IPP
end
section
section IPB
variable {l : Launch} {G : ip_G} {M : ip_M} {d pc : Nat} {L : List (Option Value)} {st : List Value} {h : ip_H} {r : Option Value × ip_H}
theorem ip_if_eq_t {x : Int32} {off : Int} {tgt : Nat} (hd : decode M.2.1 pc = .ok (.ifCond .eq off, 3)) (ht : (pc : Int) + off = (tgt : Int)) (hc : x = 0) (k : ip_Rn l G M d tgt L st h r) : ip_Rn l G M d pc L (.int x :: st) h r :=
  ip_pure (fun _ _ _ _ _ _ _ _ _ _ _ _ _ _ _ C _ _ hL kk => lv_if_eq C.1 C.2.1 hd ht (fun _ => kk _ hL) (fun q => (q hc).elim)) k
theorem ip_if_eq_f {x : Int32} {off : Int} {tgt : Nat} (hd : decode M.2.1 pc = .ok (.ifCond .eq off, 3)) (ht : (pc : Int) + off = (tgt : Int)) (hc : ¬ x = 0) (k : ip_Rn l G M d (pc + 3) L st h r) : ip_Rn l G M d pc L (.int x :: st) h r :=
  ip_pure (fun _ _ _ _ _ _ _ _ _ _ _ _ _ _ _ C _ _ hL kk => lv_if_eq C.1 C.2.1 hd ht (fun q => (hc q).elim) (fun _ => kk _ hL)) k
theorem ip_icmp_eq_t {x y : Int32} {off : Int} {tgt : Nat} (hd : decode M.2.1 pc = .ok (.if_icmp .eq off, 3)) (ht : (pc : Int) + off = (tgt : Int)) (hc : x = y) (k : ip_Rn l G M d tgt L st h r) : ip_Rn l G M d pc L (.int y :: .int x :: st) h r :=
  ip_pure (fun _ _ _ _ _ _ _ _ _ _ _ _ _ _ _ C _ _ hL kk => lv_icmp_eq C.1 C.2.1 hd ht (fun _ => kk _ hL) (fun q => (q hc).elim)) k
theorem ip_icmp_eq_f {x y : Int32} {off : Int} {tgt : Nat} (hd : decode M.2.1 pc = .ok (.if_icmp .eq off, 3)) (ht : (pc : Int) + off = (tgt : Int)) (hc : ¬ x = y) (k : ip_Rn l G M d (pc + 3) L st h r) : ip_Rn l G M d pc L (.int y :: .int x :: st) h r :=
  ip_pure (fun _ _ _ _ _ _ _ _ _ _ _ _ _ _ _ C _ _ hL kk => lv_icmp_eq C.1 C.2.1 hd ht (fun q => (hc q).elim) (fun _ => kk _ hL)) k
theorem ip_if_ne_t {x : Int32} {off : Int} {tgt : Nat} (hd : decode M.2.1 pc = .ok (.ifCond .ne off, 3)) (ht : (pc : Int) + off = (tgt : Int)) (hc : ¬ x = 0) (k : ip_Rn l G M d tgt L st h r) : ip_Rn l G M d pc L (.int x :: st) h r :=
  ip_pure (fun _ _ _ _ _ _ _ _ _ _ _ _ _ _ _ C _ _ hL kk => lv_if_ne C.1 C.2.1 hd ht (fun _ => kk _ hL) (fun q => (hc q).elim)) k
theorem ip_if_ne_f {x : Int32} {off : Int} {tgt : Nat} (hd : decode M.2.1 pc = .ok (.ifCond .ne off, 3)) (ht : (pc : Int) + off = (tgt : Int)) (hc : x = 0) (k : ip_Rn l G M d (pc + 3) L st h r) : ip_Rn l G M d pc L (.int x :: st) h r :=
  ip_pure (fun _ _ _ _ _ _ _ _ _ _ _ _ _ _ _ C _ _ hL kk => lv_if_ne C.1 C.2.1 hd ht (fun q => (q hc).elim) (fun _ => kk _ hL)) k
theorem ip_icmp_ne_t {x y : Int32} {off : Int} {tgt : Nat} (hd : decode M.2.1 pc = .ok (.if_icmp .ne off, 3)) (ht : (pc : Int) + off = (tgt : Int)) (hc : ¬ x = y) (k : ip_Rn l G M d tgt L st h r) : ip_Rn l G M d pc L (.int y :: .int x :: st) h r :=
  ip_pure (fun _ _ _ _ _ _ _ _ _ _ _ _ _ _ _ C _ _ hL kk => lv_icmp_ne C.1 C.2.1 hd ht (fun _ => kk _ hL) (fun q => (hc q).elim)) k
theorem ip_icmp_ne_f {x y : Int32} {off : Int} {tgt : Nat} (hd : decode M.2.1 pc = .ok (.if_icmp .ne off, 3)) (ht : (pc : Int) + off = (tgt : Int)) (hc : x = y) (k : ip_Rn l G M d (pc + 3) L st h r) : ip_Rn l G M d pc L (.int y :: .int x :: st) h r :=
  ip_pure (fun _ _ _ _ _ _ _ _ _ _ _ _ _ _ _ C _ _ hL kk => lv_icmp_ne C.1 C.2.1 hd ht (fun q => (q hc).elim) (fun _ => kk _ hL)) k
theorem ip_if_lt_t {x : Int32} {off : Int} {tgt : Nat} (hd : decode M.2.1 pc = .ok (.ifCond .lt off, 3)) (ht : (pc : Int) + off = (tgt : Int)) (hc : x < 0) (k : ip_Rn l G M d tgt L st h r) : ip_Rn l G M d pc L (.int x :: st) h r :=
  ip_pure (fun _ _ _ _ _ _ _ _ _ _ _ _ _ _ _ C _ _ hL kk => lv_if_lt C.1 C.2.1 hd ht (fun _ => kk _ hL) (fun q => (q hc).elim)) k
theorem ip_if_lt_f {x : Int32} {off : Int} {tgt : Nat} (hd : decode M.2.1 pc = .ok (.ifCond .lt off, 3)) (ht : (pc : Int) + off = (tgt : Int)) (hc : ¬ x < 0) (k : ip_Rn l G M d (pc + 3) L st h r) : ip_Rn l G M d pc L (.int x :: st) h r :=
  ip_pure (fun _ _ _ _ _ _ _ _ _ _ _ _ _ _ _ C _ _ hL kk => lv_if_lt C.1 C.2.1 hd ht (fun q => (hc q).elim) (fun _ => kk _ hL)) k
theorem ip_icmp_lt_t {x y : Int32} {off : Int} {tgt : Nat} (hd : decode M.2.1 pc = .ok (.if_icmp .lt off, 3)) (ht : (pc : Int) + off = (tgt : Int)) (hc : x < y) (k : ip_Rn l G M d tgt L st h r) : ip_Rn l G M d pc L (.int y :: .int x :: st) h r :=
  ip_pure (fun _ _ _ _ _ _ _ _ _ _ _ _ _ _ _ C _ _ hL kk => lv_icmp_lt C.1 C.2.1 hd ht (fun _ => kk _ hL) (fun q => (q hc).elim)) k
theorem ip_icmp_lt_f {x y : Int32} {off : Int} {tgt : Nat} (hd : decode M.2.1 pc = .ok (.if_icmp .lt off, 3)) (ht : (pc : Int) + off = (tgt : Int)) (hc : ¬ x < y) (k : ip_Rn l G M d (pc + 3) L st h r) : ip_Rn l G M d pc L (.int y :: .int x :: st) h r :=
  ip_pure (fun _ _ _ _ _ _ _ _ _ _ _ _ _ _ _ C _ _ hL kk => lv_icmp_lt C.1 C.2.1 hd ht (fun q => (hc q).elim) (fun _ => kk _ hL)) k
theorem ip_if_ge_t {x : Int32} {off : Int} {tgt : Nat} (hd : decode M.2.1 pc = .ok (.ifCond .ge off, 3)) (ht : (pc : Int) + off = (tgt : Int)) (hc : 0 ≤ x) (k : ip_Rn l G M d tgt L st h r) : ip_Rn l G M d pc L (.int x :: st) h r :=
  ip_pure (fun _ _ _ _ _ _ _ _ _ _ _ _ _ _ _ C _ _ hL kk => lv_if_ge C.1 C.2.1 hd ht (fun _ => kk _ hL) (fun q => (q hc).elim)) k
theorem ip_if_ge_f {x : Int32} {off : Int} {tgt : Nat} (hd : decode M.2.1 pc = .ok (.ifCond .ge off, 3)) (ht : (pc : Int) + off = (tgt : Int)) (hc : ¬ 0 ≤ x) (k : ip_Rn l G M d (pc + 3) L st h r) : ip_Rn l G M d pc L (.int x :: st) h r :=
  ip_pure (fun _ _ _ _ _ _ _ _ _ _ _ _ _ _ _ C _ _ hL kk => lv_if_ge C.1 C.2.1 hd ht (fun q => (hc q).elim) (fun _ => kk _ hL)) k
theorem ip_icmp_ge_t {x y : Int32} {off : Int} {tgt : Nat} (hd : decode M.2.1 pc = .ok (.if_icmp .ge off, 3)) (ht : (pc : Int) + off = (tgt : Int)) (hc : y ≤ x) (k : ip_Rn l G M d tgt L st h r) : ip_Rn l G M d pc L (.int y :: .int x :: st) h r :=
  ip_pure (fun _ _ _ _ _ _ _ _ _ _ _ _ _ _ _ C _ _ hL kk => lv_icmp_ge C.1 C.2.1 hd ht (fun _ => kk _ hL) (fun q => (q hc).elim)) k
theorem ip_icmp_ge_f {x y : Int32} {off : Int} {tgt : Nat} (hd : decode M.2.1 pc = .ok (.if_icmp .ge off, 3)) (ht : (pc : Int) + off = (tgt : Int)) (hc : ¬ y ≤ x) (k : ip_Rn l G M d (pc + 3) L st h r) : ip_Rn l G M d pc L (.int y :: .int x :: st) h r :=
  ip_pure (fun _ _ _ _ _ _ _ _ _ _ _ _ _ _ _ C _ _ hL kk => lv_icmp_ge C.1 C.2.1 hd ht (fun q => (hc q).elim) (fun _ => kk _ hL)) k
theorem ip_if_gt_t {x : Int32} {off : Int} {tgt : Nat} (hd : decode M.2.1 pc = .ok (.ifCond .gt off, 3)) (ht : (pc : Int) + off = (tgt : Int)) (hc : 0 < x) (k : ip_Rn l G M d tgt L st h r) : ip_Rn l G M d pc L (.int x :: st) h r :=
  ip_pure (fun _ _ _ _ _ _ _ _ _ _ _ _ _ _ _ C _ _ hL kk => lv_if_gt C.1 C.2.1 hd ht (fun _ => kk _ hL) (fun q => (q hc).elim)) k
theorem ip_if_gt_f {x : Int32} {off : Int} {tgt : Nat} (hd : decode M.2.1 pc = .ok (.ifCond .gt off, 3)) (ht : (pc : Int) + off = (tgt : Int)) (hc : ¬ 0 < x) (k : ip_Rn l G M d (pc + 3) L st h r) : ip_Rn l G M d pc L (.int x :: st) h r :=
  ip_pure (fun _ _ _ _ _ _ _ _ _ _ _ _ _ _ _ C _ _ hL kk => lv_if_gt C.1 C.2.1 hd ht (fun q => (hc q).elim) (fun _ => kk _ hL)) k
theorem ip_icmp_gt_t {x y : Int32} {off : Int} {tgt : Nat} (hd : decode M.2.1 pc = .ok (.if_icmp .gt off, 3)) (ht : (pc : Int) + off = (tgt : Int)) (hc : y < x) (k : ip_Rn l G M d tgt L st h r) : ip_Rn l G M d pc L (.int y :: .int x :: st) h r :=
  ip_pure (fun _ _ _ _ _ _ _ _ _ _ _ _ _ _ _ C _ _ hL kk => lv_icmp_gt C.1 C.2.1 hd ht (fun _ => kk _ hL) (fun q => (q hc).elim)) k
theorem ip_icmp_gt_f {x y : Int32} {off : Int} {tgt : Nat} (hd : decode M.2.1 pc = .ok (.if_icmp .gt off, 3)) (ht : (pc : Int) + off = (tgt : Int)) (hc : ¬ y < x) (k : ip_Rn l G M d (pc + 3) L st h r) : ip_Rn l G M d pc L (.int y :: .int x :: st) h r :=
  ip_pure (fun _ _ _ _ _ _ _ _ _ _ _ _ _ _ _ C _ _ hL kk => lv_icmp_gt C.1 C.2.1 hd ht (fun q => (hc q).elim) (fun _ => kk _ hL)) k
theorem ip_if_le_t {x : Int32} {off : Int} {tgt : Nat} (hd : decode M.2.1 pc = .ok (.ifCond .le off, 3)) (ht : (pc : Int) + off = (tgt : Int)) (hc : x ≤ 0) (k : ip_Rn l G M d tgt L st h r) : ip_Rn l G M d pc L (.int x :: st) h r :=
  ip_pure (fun _ _ _ _ _ _ _ _ _ _ _ _ _ _ _ C _ _ hL kk => lv_if_le C.1 C.2.1 hd ht (fun _ => kk _ hL) (fun q => (q hc).elim)) k
theorem ip_if_le_f {x : Int32} {off : Int} {tgt : Nat} (hd : decode M.2.1 pc = .ok (.ifCond .le off, 3)) (ht : (pc : Int) + off = (tgt : Int)) (hc : ¬ x ≤ 0) (k : ip_Rn l G M d (pc + 3) L st h r) : ip_Rn l G M d pc L (.int x :: st) h r :=
  ip_pure (fun _ _ _ _ _ _ _ _ _ _ _ _ _ _ _ C _ _ hL kk => lv_if_le C.1 C.2.1 hd ht (fun q => (hc q).elim) (fun _ => kk _ hL)) k
theorem ip_icmp_le_t {x y : Int32} {off : Int} {tgt : Nat} (hd : decode M.2.1 pc = .ok (.if_icmp .le off, 3)) (ht : (pc : Int) + off = (tgt : Int)) (hc : x ≤ y) (k : ip_Rn l G M d tgt L st h r) : ip_Rn l G M d pc L (.int y :: .int x :: st) h r :=
  ip_pure (fun _ _ _ _ _ _ _ _ _ _ _ _ _ _ _ C _ _ hL kk => lv_icmp_le C.1 C.2.1 hd ht (fun _ => kk _ hL) (fun q => (q hc).elim)) k
theorem ip_icmp_le_f {x y : Int32} {off : Int} {tgt : Nat} (hd : decode M.2.1 pc = .ok (.if_icmp .le off, 3)) (ht : (pc : Int) + off = (tgt : Int)) (hc : ¬ x ≤ y) (k : ip_Rn l G M d (pc + 3) L st h r) : ip_Rn l G M d pc L (.int y :: .int x :: st) h r :=
  ip_pure (fun _ _ _ _ _ _ _ _ _ _ _ _ _ _ _ C _ _ hL kk => lv_icmp_le C.1 C.2.1 hd ht (fun q => (hc q).elim) (fun _ => kk _ hL)) k
theorem ip_tabO {dflt lo hi : Int} {offs : Array Int} {len : Nat} {x : Int32} {tgt : Nat} (hd : decode M.2.1 pc = .ok (.tableswitch dflt lo hi offs, len)) (hx : x.toInt < lo ∨ hi < x.toInt) (ht : (pc : Int) + dflt = (tgt : Int)) (k : ip_Rn l G M d tgt L st h r) : ip_Rn l G M d pc L (.int x :: st) h r :=
  ip_pure (fun _ _ _ _ _ _ _ _ _ _ _ _ _ _ _ C _ _ hL kk => lv_tableOut C.1 C.2.1 hd hx ht (kk _ hL)) k
theorem ip_tabI {dflt lo hi : Int} {offs : Array Int} {len : Nat} {x : Int32} {off : Int} {tgt : Nat} (hd : decode M.2.1 pc = .ok (.tableswitch dflt lo hi offs, len)) (h1 : ¬ x.toInt < lo) (h2 : ¬ hi < x.toInt) (ho : offs[(x.toInt - lo).toNat]? = some off) (ht : (pc : Int) + off = (tgt : Int)) (k : ip_Rn l G M d tgt L st h r) : ip_Rn l G M d pc L (.int x :: st) h r :=
  ip_pure (fun _ _ _ _ _ _ _ _ _ _ _ _ _ _ _ C _ _ hL kk => lv_tableIn C.1 C.2.1 hd h1 h2 ho ht (kk _ hL)) k
theorem ip_lkp {dflt : Int} {ps : Array (Int × Int)} {len : Nat} {x : Int32} {off : Int} {tgt : Nat} (hd : decode M.2.1 pc = .ok (.lookupswitch dflt ps, len)) (hp : (ps.toList.zip (ps.toList.drop 1)).all (fun (a, next) => a.1 < next.1) = true) (ho : Op.lookupswitch.offset ps.toList dflt x.toInt = off) (ht : (pc : Int) + off = (tgt : Int)) (k : ip_Rn l G M d tgt L st h r) : ip_Rn l G M d pc L (.int x :: st) h r :=
  ip_pure (fun _ _ _ _ _ _ _ _ _ _ _ _ _ _ _ C _ _ hL kk => lv_lookup C.1 C.2.1 hd hp ho ht (kk _ hL)) k
end IPB
def ip_F (T : List Cond) (cl : List vw_C) (own : String) (idx ci k : Nat) (ty : FieldType) (fin : Bool) : Prop :=
  ∃ (C : String) (F : u_T) (N : Nat), cl[ci]? = some (C, F, N) ∧ (∀ w ∈ u_ws C F N, w ∈ T) ∧ k < N ∧ (F k).1 = C ∧ parseFieldDescriptor (F k).2.2.1 = some ty ∧ (F k).2.2.2 = fin ∧ (∃ ty0 : Nat → FieldType, ∀ j, j < N → parseFieldDescriptor (F j).2.2.1 = some (ty0 j)) ∧ (∀ a, a < N → ∀ b, b < N → a ≠ b → (F a).2.1 ≠ (F b).2.1) ∧
    (Cond.fieldLink own idx C (F k).2.1 (F k).2.2.1 ∈ T ∨ ∃ host, Cond.fieldLinkNest own idx C (F k).2.1 (F k).2.2.1 host ∈ T)
def ip_Fp (T : List Cond) (cl : List vw_C) (own : String) (idx ci k : Nat) (ty : FieldType) : Prop :=
  ∃ (F : u_T) (N : Nat), cl[ci]? = some (own, F, N) ∧ (∀ w ∈ u_ws own F N, w ∈ T) ∧ k < N ∧ (F k).1 = own ∧ parseFieldDescriptor (F k).2.2.1 = some ty ∧ (F k).2.2.2 = true ∧ (∃ ty0 : Nat → FieldType, ∀ j, j < N → parseFieldDescriptor (F j).2.2.1 = some (ty0 j)) ∧ (∀ a, a < N → ∀ b, b < N → a ≠ b → (F a).2.1 ≠ (F b).2.1) ∧
    Cond.fieldLink own idx own (F k).2.1 (F k).2.2.1 ∈ T
def ip_N (T : List Cond) (cl : List vw_C) (own : String) (idx ci : Nat) (fs : List Value) : Prop :=
  ∃ (C : String) (F : u_T) (N : Nat), cl[ci]? = some (C, F, N) ∧ (∀ w ∈ u_ws C F N, w ∈ T) ∧ (∃ ty0 : Nat → FieldType, (∀ j, j < N → parseFieldDescriptor (F j).2.2.1 = some (ty0 j)) ∧ fs = (List.range N).map (fun j => defaultValue (ty0 j))) ∧ Cond.classLink own idx C ∈ T ∧ Cond.instantiable C N ∈ T ∧ Cond.initialized C ∈ T
theorem ip_fits {G : ip_G} {ty : FieldType} {v : Value} (hf : fits ty v = true) : narrow ty (ip_v G v) = ip_v G v ∧ fits ty (ip_v G v) = true := by
  have h2 : fits ty (ip_v G v) = true := by
    cases v <;> first | exact hf | (cases ty <;> first | exact hf | rfl)
  refine ⟨?_, h2⟩
  cases v with
  | int x =>
    cases ty with
    | boolean =>
      have h3 : (x == 0 || x == 1) = true := hf
      rcases Bool.or_eq_true _ _ |>.mp h3 with q | q
      · rw [eq_of_beq q]; rfl
      · rw [eq_of_beq q]; rfl
    | byte =>
      have h3 : (decide (-128 ≤ x) && decide (x ≤ 127)) = true := hf
      simp only [Bool.and_eq_true, decide_eq_true_eq] at h3
      show Value.int x.toInt8.toInt32 = .int x
      congr 1
      have q1 : (-128 : Int) ≤ x.toInt := Int32.le_iff_toInt_le.mp h3.1
      have q2 : x.toInt ≤ 127 := Int32.le_iff_toInt_le.mp h3.2
      apply Int32.toInt_inj.mp
      rw [Int8.toInt_toInt32, Int32.toInt_toInt8]
      exact Int.bmod_eq_of_le (by omega) (by omega)
    | char =>
      have h3 : (decide (0 ≤ x) && decide (x ≤ 65535)) = true := hf
      simp only [Bool.and_eq_true, decide_eq_true_eq] at h3
      obtain ⟨n, hn, rfl⟩ := nI_of2 (M := 65535) (n := 65535) rfl (fun q => by
        have q1 : (0 : Int) ≤ x.toInt := Int32.le_iff_toInt_le.mp h3.1
        have q2 : x.toInt < 0 := Int32.lt_iff_toInt_lt.mp q
        omega) h3.2
      exact (pk_charN (by omega)).1
    | short =>
      have h3 : (decide (-32768 ≤ x) && decide (x ≤ 32767)) = true := hf
      simp only [Bool.and_eq_true, decide_eq_true_eq] at h3
      show Value.int x.toInt16.toInt32 = .int x
      congr 1
      have q1 : (-32768 : Int) ≤ x.toInt := Int32.le_iff_toInt_le.mp h3.1
      have q2 : x.toInt ≤ 32767 := Int32.le_iff_toInt_le.mp h3.2
      apply Int32.toInt_inj.mp
      rw [Int16.toInt_toInt32, Int32.toInt_toInt16]
      exact Int.bmod_eq_of_le (by omega) (by omega)
    | _ => rfl
  | _ => cases ty <;> rfl
section IPH
variable {l : Launch} {G : ip_G} {M : ip_M} {d pc : Nat} {L : List (Option Value)} {st : List Value} {h : ip_H} {r : Option Value × ip_H}
theorem ip_getf {idx ci k n : Nat} {fs : List Value} {ty : FieldType} {fin : Bool} {v : Value} (hd : decode M.2.1 pc = .ok (.getfield idx, 3)) (hF : ip_F (ip_T G) (ip_C G) M.1.cls idx ci k ty fin) (hh : ip_h h n = some (.inr (ci, fs))) (hv : fs[k]? = some v)
    (kk : ip_Rn l G M d (pc + 3) L (v :: st) h r) : ip_Rn l G M d pc L (.ref n :: st) h r := by
  obtain ⟨C, F, N, hc, hw, hk, hC, -, -, -, -, hl⟩ := hF
  refine ⟨kk.1, fun p e R s m args below meth c Q H locs cells slots ls Cx hdp hlo hce hsl hL hSt hS kt => ?_⟩
  have hnext := kk.2 p e R s m args below meth c Q H locs cells slots ls Cx hdp hlo hce hsl hL hSt hS kt
  have hws := ip_ws_at G hh
  have hv' : (fs.map (ip_v G))[k]? = some (ip_v G v) := by rw [List.getElem?_map, hv]; rfl
  obtain ⟨hx, hb, -, -, hown, hts, -, -, -, hK, -⟩ := Cx
  rcases hl with hl | ⟨host, hl⟩
  · exact va_get hx hb hts hw hown hK hSt.2 (n - 32) hws hc k hk (hts _ hl) (fun x q => by rw [hC] at q; exact q) hv' hd hnext
  · exact va_getN hx hb hts hw hown hK hSt.2 (n - 32) hws hc k hk (hts _ hl) (fun x q => by rw [hC] at q; exact q) hv' hd hnext
theorem ip_store {s : State} {n k : Nat} {e0 e : ip_E} {H H1 : Heap} {locs : List Loc} (hSt : ip_St G h H) (hS : ip_S G s H locs) (hh : ip_h h n = some e0) (hat : va_at (ip_D G) (ip_C G) (ip_a G n, ip_cv G e) H1) (hz : H1.size = H.size) (oq : ∀ q : Nat, q ≠ ip_a G n → H1[q]? = H[q]?) :
    ip_St G (ip_hs h n e) H1 ∧ ip_S G s H1 (locs ++ [⟨ip_a G n, k⟩]) := by
  have hD := ip_ws_D G h (ip_B G)
  have hws := ip_ws_at G hh
  have ha : ip_a G n = ip_B G + (n - 32) := by
    unfold ip_h at hh
    split at hh
    · cases hh
    · next hn => unfold ip_a; rw [if_neg hn]
  have h1 := hSt.2.set hD hws hat oq
  refine ⟨⟨by rw [hz, hSt.1, ip_hs_len], ?_⟩, hS.put hz oq (by rw [ha]; exact Nat.le_add_right _ _)⟩
  unfold ip_hs
  rw [ip_ws_set, ← ha]
  exact h1
theorem ip_putf {idx ci k n : Nat} {fs : List Value} {ty : FieldType} {v : Value} (hd : decode M.2.1 pc = .ok (.putfield idx, 3)) (hF : ip_F (ip_T G) (ip_C G) M.1.cls idx ci k ty false) (hh : ip_h h n = some (.inr (ci, fs))) (hfl : k < fs.length) (hfit : fits ty v = true)
    (kk : ip_Rn l G M d (pc + 3) L st (ip_hs h n (.inr (ci, fs.set k v))) r) : ip_Rn l G M d pc L (v :: .ref n :: st) h r := by
  obtain ⟨C, F, N, hc, hw, hk, hC, hpar, hfin, ⟨ty0, hty⟩, hnm, hl⟩ := hF
  have hz : ip_z (.inr (ci, fs.set k v)) = ip_z (.inr (ci, fs)) := by show (fs.set k v).length = fs.length; exact List.length_set
  have et := ip_hs_t hh hz
  have k1 := kk.1
  rw [ip_hs_len, et] at k1
  refine ⟨k1, fun p e R s m args below meth c Q H locs cells slots ls Cx hdp hlo hce hsl hL hSt hS kt => ?_⟩
  have hws := ip_ws_at G hh
  have Cx0 := Cx
  obtain ⟨hx, hb, -, -, hown, hts, -, -, -, hK, -⟩ := Cx
  obtain ⟨hn2, hf2⟩ := ip_fits (G := G) hfit
  have hap := va_apart (own := M.1.cls) hts hw ty0 hty hnm hK hc
  obtain ⟨r', h1, cell, q1, q2, q3, q4⟩ := hSt.2 (n - 32) _ hws
  have hr : r' = (C, F, N) := Option.some.inj (h1.symm.trans hc)
  subst hr
  obtain ⟨hS1, hfc, kC, hkC, hkind⟩ := hK.1 ci _ hc
  obtain ⟨cf, kf, fi, f, hi, hsl1⟩ := hS1 k hk
  have hlay := hts _ (hw _ (u_in_lay hk))
  unfold u_lay at hlay
  rw [if_neg (by rw [hfin]; decide)] at hlay
  have hst := (u_facts hfc hkC (u_lays hts hw hk) hi).1
  have h6 := u_store hfc hkC hkind hlay hi hpar hn2 hf2
  have hi2 : s.fieldFound? C (F k).2.1 (F k).2.2.1 = some (cf, kf, fi, f) := by rw [← hC]; exact hi
  have fin : ∀ (H' : Heap), H'[ip_a G n]? = some (cell.setSlot f.slot (ip_v G v)) → H'.size = H.size → (∀ q, q ≠ ip_a G n → H'[q]? = H[q]?) → W p l e R s m args below meth c H' (locs ++ [⟨ip_a G n, f.slot⟩]) cells slots Q (F0 m (pc + 3) ls (st.map (ip_v G))) := by
    intro H' e1 e2 e3
    rw [hsl1] at e1
    have hat : va_at (ip_D G) (ip_C G) (ip_a G n, ip_cv G (.inr (ci, fs.set k v))) H' := by
      refine ⟨_, hc, t_OB.to (V := updV (vp_V (fs.map (ip_v G))) k (ip_v G v)) ⟨_, e1, q2, q3, t_set q4 hap hk (ip_v G v)⟩ (fun j _ => ?_)⟩
      show _ = vp_V ((fs.set k v).map (ip_v G)) j
      rw [List.map_set]
      exact vp_updV_set (by rw [List.length_map]; exact hfl) (ip_v G v) j
    obtain ⟨a1, a2⟩ := ip_store (k := f.slot) hSt hS hh hat e2 e3
    exact kk.2 p e R s m args below meth c Q H' _ cells slots ls Cx0 hdp hlo (by rw [ip_hs_len]; exact hce) (by rw [et]; exact hsl) hL a1 a2 (fun pc' ls' H'' locs' w1 w2 w3 => by rw [ip_hs_len, et]; exact kt pc' ls' H'' locs' w1 w2 w3)
  rcases hl with hl | ⟨host, hl⟩
  · exact W.putK hx hb (f := f) ⟨hown, hts _ hl, ⟨_, _, _, hi2⟩, hst⟩ (by rw [q2]; exact h6) q1 q3 (by rw [hsl1]; exact k2_hasslot (q4 k hk)) rfl rfl hd fin
  · exact va_WputK hx hb (f := f) hown (hts _ hl) hi2 hst (by rw [q2]; exact h6) q1 q3 (by rw [hsl1]; exact k2_hasslot (q4 k hk)) rfl rfl hd fin
theorem ip_putF {idx ci k n : Nat} {fs : List Value} {ty : FieldType} {v : Value} (hd : decode M.2.1 pc = .ok (.putfield idx, 3)) (hF : ip_Fp (ip_T G) (ip_C G) M.1.cls idx ci k ty) (hname : M.1.name = "<init>") (hh : ip_h h n = some (.inr (ci, fs))) (hfl : k < fs.length) (hfit : fits ty v = true)
    (kk : ip_Rn l G M d (pc + 3) L st (ip_hs h n (.inr (ci, fs.set k v))) r) : ip_Rn l G M d pc L (v :: .ref n :: st) h r := by
  obtain ⟨F, N, hc, hw, hk, hC, hpar, hfin, ⟨ty0, hty⟩, hnm, hl⟩ := hF
  have hz : ip_z (.inr (ci, fs.set k v)) = ip_z (.inr (ci, fs)) := by show (fs.set k v).length = fs.length; exact List.length_set
  have et := ip_hs_t hh hz
  have k1 := kk.1
  rw [ip_hs_len, et] at k1
  refine ⟨k1, fun p e R s m args below meth c Q H locs cells slots ls Cx hdp hlo hce hsl hL hSt hS kt => ?_⟩
  have hws := ip_ws_at G hh
  have Cx0 := Cx
  obtain ⟨hx, hb, -, -, hown, hts, -, hin2, -, hK, -⟩ := Cx
  obtain ⟨hn2, hf2⟩ := ip_fits (G := G) hfit
  have hap := va_apart (own := M.1.cls) hts hw ty0 hty hnm hK hc
  obtain ⟨r', h1, cell, q1, q2, q3, q4⟩ := hSt.2 (n - 32) _ hws
  have hr : r' = (M.1.cls, F, N) := Option.some.inj (h1.symm.trans hc)
  subst hr
  obtain ⟨hS1, hfc, kC, hkC, hkind⟩ := hK.1 ci _ hc
  obtain ⟨cf, kf, fi, f, hi, hsl1⟩ := hS1 k hk
  have hlay := hts _ (hw _ (u_in_lay hk))
  unfold u_lay at hlay
  rw [if_pos hfin] at hlay
  have hst := (u_facts hfc hkC (u_lays hts hw hk) hi).1
  have hcf : m.cls = cf := by
    obtain ⟨_, _, c', _, _, _, -, -, hf', -, -, -, hown2, -⟩ := Cond.laysFinal_spec hlay
    have e1 : c' = cf := by have := hi.symm.trans hf'; simp at this; exact this.1.symm
    rw [hC] at hown2
    rw [← e1]; exact Option.some.inj (hown.symm.trans hown2)
  have h6 := u_fits hfc hkC hkind (Or.inr hlay) hi hpar hn2 hf2
  have hi2 : s.fieldFound? M.1.cls (F k).2.1 (F k).2.2.1 = some (cf, kf, fi, f) := by rw [← hC]; exact hi
  have fin : ∀ (H' : Heap), H'[ip_a G n]? = some (cell.setSlot f.slot (ip_v G v)) → H'.size = H.size → (∀ q, q ≠ ip_a G n → H'[q]? = H[q]?) → W p l e R s m args below meth c H' (locs ++ [⟨ip_a G n, f.slot⟩]) cells slots Q (F0 m (pc + 3) ls (st.map (ip_v G))) := by
    intro H' e1 e2 e3
    rw [hsl1] at e1
    have hat : va_at (ip_D G) (ip_C G) (ip_a G n, ip_cv G (.inr (ci, fs.set k v))) H' := by
      refine ⟨_, hc, t_OB.to (V := updV (vp_V (fs.map (ip_v G))) k (ip_v G v)) ⟨_, e1, q2, q3, t_set q4 hap hk (ip_v G v)⟩ (fun j _ => ?_)⟩
      show _ = vp_V ((fs.set k v).map (ip_v G)) j
      rw [List.map_set]
      exact vp_updV_set (by rw [List.length_map]; exact hfl) (ip_v G v) j
    obtain ⟨a1, a2⟩ := ip_store (k := f.slot) hSt hS hh hat e2 e3
    exact kk.2 p e R s m args below meth c Q H' _ cells slots ls Cx0 hdp hlo (by rw [ip_hs_len]; exact hce) (by rw [et]; exact hsl) hL a1 a2 (fun pc' ls' H'' locs' w1 w2 w3 => by rw [ip_hs_len, et]; exact kt pc' ls' H'' locs' w1 w2 w3)
  exact W.putFinK hx hb hown (hts _ hl) hi2 hst hcf (hin2.trans hname) (by rw [q2]; exact h6) q1 q3 (by rw [hsl1]; exact k2_hasslot (q4 k hk)) rfl rfl hd fin
end IPH
end
section
section IPA
variable {l : Launch} {G : ip_G} {M : ip_M} {d pc : Nat} {L : List (Option Value)} {st : List Value} {h : ip_H} {r : Option Value × ip_H}
theorem ip_iald {n len : Nat} {f : Nat → Int32} {i : Int32} (hd : decode M.2.1 pc = .ok (.iaload, 1)) (hh : ip_h h n = some (.inl (.int, len, .inl f))) (hin : vp_in i len) (kk : ip_Rn l G M d (pc + 1) L (.int (f i.toNatClampNeg) :: st) h r) : ip_Rn l G M d pc L (.int i :: .ref n :: st) h r :=
  ⟨kk.1, fun p e R s m args below meth c Q H locs cells slots ls Cx hdp hlo hce hsl hL hSt hS kt =>
    va_iald (D := ip_D G) (cl := ip_C G) (tys := ip_ty G) Cx.1 Cx.2.1 Cx.2.2.2.2.2.2.2.2.2.1 hSt.2 (n - 32) 0 (ip_ws_at G hh) rfl hin hd (kk.2 p e R s m args below meth c Q H locs cells slots ls Cx hdp hlo hce hsl hL hSt hS kt)⟩
theorem ip_bald {n len : Nat} {f : Nat → Int32} {i : Int32} (hd : decode M.2.1 pc = .ok (.baload, 1)) (hh : ip_h h n = some (.inl (.byte, len, .inl f))) (hin : vp_in i len) (kk : ip_Rn l G M d (pc + 1) L (.int (f i.toNatClampNeg) :: st) h r) : ip_Rn l G M d pc L (.int i :: .ref n :: st) h r :=
  ⟨kk.1, fun p e R s m args below meth c Q H locs cells slots ls Cx hdp hlo hce hsl hL hSt hS kt =>
    va_bald (D := ip_D G) (cl := ip_C G) (tys := ip_ty G) Cx.1 Cx.2.1 Cx.2.2.2.2.2.2.2.2.2.1 hSt.2 (n - 32) 1 (ip_ws_at G hh) rfl hin hd (kk.2 p e R s m args below meth c Q H locs cells slots ls Cx hdp hlo hce hsl hL hSt hS kt)⟩
theorem ip_zald {n len : Nat} {f : Nat → Int32} {i : Int32} (hd : decode M.2.1 pc = .ok (.baload, 1)) (hh : ip_h h n = some (.inl (.boolean, len, .inl f))) (hin : vp_in i len) (kk : ip_Rn l G M d (pc + 1) L (.int (f i.toNatClampNeg) :: st) h r) : ip_Rn l G M d pc L (.int i :: .ref n :: st) h r :=
  ⟨kk.1, fun p e R s m args below meth c Q H locs cells slots ls Cx hdp hlo hce hsl hL hSt hS kt =>
    va_zald (D := ip_D G) (cl := ip_C G) (tys := ip_ty G) Cx.1 Cx.2.1 Cx.2.2.2.2.2.2.2.2.2.1 hSt.2 (n - 32) 2 (ip_ws_at G hh) rfl hin hd (kk.2 p e R s m args below meth c Q H locs cells slots ls Cx hdp hlo hce hsl hL hSt hS kt)⟩
theorem ip_lald {n len : Nat} {f : Nat → Int64} {i : Int32} (hd : decode M.2.1 pc = .ok (.laload, 1)) (hh : ip_h h n = some (.inl (.long, len, .inr (.inl f)))) (hin : vp_in i len) (kk : ip_Rn l G M d (pc + 1) L (.long (f i.toNatClampNeg) :: st) h r) : ip_Rn l G M d pc L (.int i :: .ref n :: st) h r :=
  ⟨kk.1, fun p e R s m args below meth c Q H locs cells slots ls Cx hdp hlo hce hsl hL hSt hS kt =>
    va_lald (D := ip_D G) (cl := ip_C G) (tys := ip_ty G) Cx.1 Cx.2.1 Cx.2.2.2.2.2.2.2.2.2.1 hSt.2 (n - 32) 3 (ip_ws_at G hh) rfl hin hd (kk.2 p e R s m args below meth c Q H locs cells slots ls Cx hdp hlo hce hsl hL hSt hS kt)⟩
def ip_tyN (ty : FieldType) : Nat := match ty with
  | .int => 0
  | .byte => 1
  | .boolean => 2
  | _ => 3
theorem ip_alen {n : Nat} {ty : FieldType} {x : vp_A} {v : Int32} (hd : decode M.2.1 pc = .ok (.arraylength, 1)) (hh : ip_h h n = some (.inl (ty, x))) (hty : (ip_ty G)[ip_tyN ty]? = some (ip_A G ty, ty)) (hv : Int32.ofNat x.1 = v) (kk : ip_Rn l G M d (pc + 1) L (.int v :: st) h r) : ip_Rn l G M d pc L (.ref n :: st) h r :=
  ⟨kk.1, fun p e R s m args below meth c Q H locs cells slots ls Cx hdp hlo hce hsl hL hSt hS kt =>
    va_alen (D := ip_D G) (cl := ip_C G) (tys := ip_ty G) Cx.1 Cx.2.1 Cx.2.2.2.2.2.2.2.2.2.1 hSt.2 (n - 32) (ip_tyN ty) (ip_ws_at G hh) hty hv hd (kk.2 p e R s m args below meth c Q H locs cells slots ls Cx hdp hlo hce hsl hL hSt hS kt)⟩
theorem ip_stI {s : State} {n len : Nat} {ty : FieldType} {f g : Nat → Int32} {H H1 : Heap} {locs : List Loc} {j : Nat} {w : Int32} (hSt : ip_St G h H) (hS : ip_S G s H locs) (hh : ip_h h n = some (.inl (ty, len, .inl f)))
    (e : H1[ip_a G n]? = some ((vp_cell (ip_A G ty) (len, .inl f)).setSlot j (.int w))) (z : H1.size = H.size) (oq : ∀ q, q ≠ ip_a G n → H1[q]? = H[q]?) : ip_St G (ip_hs h n (.inl (ty, len, .inl (upd f j w)))) H1 ∧ ip_S G s H1 (locs ++ [⟨ip_a G n, j⟩]) := by
  refine ip_store hSt hS hh ?_ z oq
  show H1[ip_a G n]? = some (vp_cell _ _)
  rw [e, vp_cell_i, vp_cell_i, arrV_store]
  congr 2
  funext q
  by_cases hq : q = j
  · subst hq
    simp [updV, upd]
  · simp [updV, upd, hq]
theorem ip_iast {n len : Nat} {f : Nat → Int32} {i x : Int32} (hd : decode M.2.1 pc = .ok (.iastore, 1)) (hh : ip_h h n = some (.inl (.int, len, .inl f))) (hin : vp_in i len)
    (kk : ip_Rn l G M d (pc + 1) L st (ip_hs h n (.inl (.int, len, .inl (upd f i.toNatClampNeg x)))) r) : ip_Rn l G M d pc L (.int x :: .int i :: .ref n :: st) h r := by
  have et := ip_hs_t (e := .inl (.int, len, .inl (upd f i.toNatClampNeg x))) hh rfl
  have k1 := kk.1
  rw [ip_hs_len, et] at k1
  refine ⟨k1, fun p e R s m args below meth c Q H locs cells slots ls Cx hdp hlo hce hsl hL hSt hS kt => ?_⟩
  have hws := ip_ws_at G hh
  refine W.iast Cx.1 Cx.2.1 (hSt.2 (n - 32) _ hws) ((Cx.2.2.2.2.2.2.2.2.2.1.2 0 _ rfl).1 len (fun j => .int (f j))) (fun q => by cases q) (by show ¬ (i < 0 ∨ (arrV _ _ _).slots.size ≤ _); rw [arrV_size]; exact hin) rfl rfl hd fun H1 e1 z oq => ?_
  obtain ⟨a1, a2⟩ := ip_stI hSt hS hh (g := f) e1 z oq
  exact kk.2 p e R s m args below meth c Q H1 _ cells slots ls Cx hdp hlo (by rw [ip_hs_len]; exact hce) (by rw [et]; exact hsl) hL a1 a2 (fun pc' ls' H'' locs' w1 w2 w3 => by rw [ip_hs_len, et]; exact kt pc' ls' H'' locs' w1 w2 w3)
theorem ip_bast {n len : Nat} {f : Nat → Int32} {i x : Int32} (hd : decode M.2.1 pc = .ok (.bastore, 1)) (hh : ip_h h n = some (.inl (.byte, len, .inl f))) (hin : vp_in i len)
    (kk : ip_Rn l G M d (pc + 1) L st (ip_hs h n (.inl (.byte, len, .inl (upd f i.toNatClampNeg x.toInt8.toInt32)))) r) : ip_Rn l G M d pc L (.int x :: .int i :: .ref n :: st) h r := by
  have et := ip_hs_t (e := .inl (.byte, len, .inl (upd f i.toNatClampNeg x.toInt8.toInt32))) hh rfl
  have k1 := kk.1
  rw [ip_hs_len, et] at k1
  refine ⟨k1, fun p e R s m args below meth c Q H locs cells slots ls Cx hdp hlo hce hsl hL hSt hS kt => ?_⟩
  have hws := ip_ws_at G hh
  refine W.bast Cx.1 Cx.2.1 (hSt.2 (n - 32) _ hws) ((Cx.2.2.2.2.2.2.2.2.2.1.2 1 _ rfl).1 len (fun j => .int (f j))) (fun q => by cases q) (by show ¬ (i < 0 ∨ (arrV _ _ _).slots.size ≤ _); rw [arrV_size]; exact hin) rfl rfl hd fun H1 e1 z oq => ?_
  obtain ⟨a1, a2⟩ := ip_stI hSt hS hh (g := f) e1 z oq
  exact kk.2 p e R s m args below meth c Q H1 _ cells slots ls Cx hdp hlo (by rw [ip_hs_len]; exact hce) (by rw [et]; exact hsl) hL a1 a2 (fun pc' ls' H'' locs' w1 w2 w3 => by rw [ip_hs_len, et]; exact kt pc' ls' H'' locs' w1 w2 w3)
theorem ip_zast {n len : Nat} {f : Nat → Int32} {i x : Int32} (hd : decode M.2.1 pc = .ok (.bastore, 1)) (hh : ip_h h n = some (.inl (.boolean, len, .inl f))) (hin : vp_in i len)
    (kk : ip_Rn l G M d (pc + 1) L st (ip_hs h n (.inl (.boolean, len, .inl (upd f i.toNatClampNeg (x &&& 1))))) r) : ip_Rn l G M d pc L (.int x :: .int i :: .ref n :: st) h r := by
  have et := ip_hs_t (e := .inl (.boolean, len, .inl (upd f i.toNatClampNeg (x &&& 1)))) hh rfl
  have k1 := kk.1
  rw [ip_hs_len, et] at k1
  refine ⟨k1, fun p e R s m args below meth c Q H locs cells slots ls Cx hdp hlo hce hsl hL hSt hS kt => ?_⟩
  have hws := ip_ws_at G hh
  refine W.zast Cx.1 Cx.2.1 (hSt.2 (n - 32) _ hws) ((Cx.2.2.2.2.2.2.2.2.2.1.2 2 _ rfl).1 len (fun j => .int (f j))) (fun q => by cases q) (by show ¬ (i < 0 ∨ (arrV _ _ _).slots.size ≤ _); rw [arrV_size]; exact hin) rfl rfl hd fun H1 e1 z oq => ?_
  obtain ⟨a1, a2⟩ := ip_stI hSt hS hh (g := f) e1 z oq
  exact kk.2 p e R s m args below meth c Q H1 _ cells slots ls Cx hdp hlo (by rw [ip_hs_len]; exact hce) (by rw [et]; exact hsl) hL a1 a2 (fun pc' ls' H'' locs' w1 w2 w3 => by rw [ip_hs_len, et]; exact kt pc' ls' H'' locs' w1 w2 w3)
theorem ip_last {n len : Nat} {f : Nat → Int64} {i : Int32} {x : Int64} (hd : decode M.2.1 pc = .ok (.lastore, 1)) (hh : ip_h h n = some (.inl (.long, len, .inr (.inl f)))) (hin : vp_in i len)
    (kk : ip_Rn l G M d (pc + 1) L st (ip_hs h n (.inl (.long, len, .inr (.inl (vp_updL f i.toNatClampNeg x))))) r) : ip_Rn l G M d pc L (.long x :: .int i :: .ref n :: st) h r := by
  have et := ip_hs_t (e := .inl (.long, len, .inr (.inl (vp_updL f i.toNatClampNeg x)))) hh rfl
  have k1 := kk.1
  rw [ip_hs_len, et] at k1
  refine ⟨k1, fun p e R s m args below meth c Q H locs cells slots ls Cx hdp hlo hce hsl hL hSt hS kt => ?_⟩
  have hws := ip_ws_at G hh
  refine W.last Cx.1 Cx.2.1 (hSt.2 (n - 32) _ hws) ((Cx.2.2.2.2.2.2.2.2.2.1.2 3 _ rfl).1 len (fun j => .long (f j))) (fun q => by cases q) (by show ¬ (i < 0 ∨ (arrV _ _ _).slots.size ≤ _); rw [arrV_size]; exact hin) rfl rfl hd fun H1 e1 z oq => ?_
  have hat : va_at (ip_D G) (ip_C G) (ip_a G n, ip_cv G (.inl (.long, len, .inr (.inl (vp_updL f i.toNatClampNeg x))))) H1 := by
    show H1[ip_a G n]? = some (vp_cell _ _)
    rw [e1]
    rw [vp_cell_l, vp_cell_l, arrV_store]
    congr 2
    funext q
    by_cases hq : q = i.toNatClampNeg
    · subst hq
      simp [updV, vp_updL]
    · simp [updV, vp_updL, hq]
  obtain ⟨a1, a2⟩ := ip_store (k := i.toNatClampNeg) hSt hS hh hat z oq
  exact kk.2 p e R s m args below meth c Q H1 _ cells slots ls Cx hdp hlo (by rw [ip_hs_len]; exact hce) (by rw [et]; exact hsl) hL a1 a2 (fun pc' ls' H'' locs' w1 w2 w3 => by rw [ip_hs_len, et]; exact kt pc' ls' H'' locs' w1 w2 w3)
/-- a new cell -/
theorem ip_grow {s : State} {e : ip_E} {H H1 : Heap} {locs : List Loc} (hSt : ip_St G h H) (hS : ip_S G s H locs) (hU : ip_B G ≤ s.heap.size) (hat : va_at (ip_D G) (ip_C G) (H.size, ip_cv G e) H1) (hz : H1.size = H.size + 1) (oq : ∀ q : Nat, q < H.size → H1[q]? = H[q]?) : ip_St G (h ++ [e]) H1 ∧ ip_S G s H1 locs := by
  refine ⟨⟨by rw [hz, hSt.1, List.length_append]; rfl, ?_⟩, ⟨Nat.le_trans hS.1 (by omega), fun q h1 h2 => (oq q (Nat.lt_of_lt_of_le h1 hS.1)).trans (hS.2.1 q h1 h2), hS.2.2⟩⟩
  rw [ip_ws_push, ← hSt.1]
  refine (hSt.2.kept (fun k x hx => oq x.1 ((hSt.2 k x hx).lt))).app (fun k x hx => ?_)
  have hk : k < 1 := (List.getElem?_eq_some_iff.mp hx).1
  rw [show k = 0 by omega] at hx
  cases hx
  exact hat
theorem ip_new {idx ci : Nat} {fs : List Value} (hd : decode M.2.1 pc = .ok (.new idx, 3)) (hN : ip_N (ip_T G) (ip_C G) M.1.cls idx ci fs)
    (kk : ip_Rn l G M d (pc + 3) L (.ref (32 + h.length) :: st) (h ++ [.inr (ci, fs)]) r) : ip_Rn l G M d pc L st h r := by
  obtain ⟨C, F, N, hc, hw, ⟨ty0, hty, hfs⟩, hcl, hins, hini⟩ := hN
  have hlen : fs.length = N := by rw [hfs]; simp
  have et := ip_t_push h (.inr (ci, fs))
  have ez : ip_z (.inr (ci, fs)) = N := hlen
  rw [ez] at et
  have k1 := kk.1
  rw [List.length_append, et] at k1
  have k1a : h.length + 1 ≤ r.2.length := k1.1
  refine ⟨⟨by omega, by omega⟩, fun p e R s m args below meth c Q H locs cells slots ls Cx hdp hlo hce hsl hL hSt hS kt => ?_⟩
  have Cx0 := Cx
  obtain ⟨hx, hb, -, -, hown, hts, -, -, hU, hK, -⟩ := Cx
  have hKn := hK.1 ci _ hc
  refine W.newcK hx hb hown (hts _ hcl) (hts _ hins) (hts _ hini) rfl hd (by omega) (by omega) hKn.2.1 rfl fun H1 kC hkC e1 z1 o1 => ?_
  have hat : va_at (ip_D G) (ip_C G) (H.size, ip_cv G (.inr (ci, fs))) H1 := by
    refine ⟨_, hc, (u_born ty0 hts hw hKn hkC e1 hty).to (fun j hj => ?_)⟩
    show defaultValue (ty0 j) = vp_V (fs.map (ip_v G)) j
    have : fs[j]? = some (defaultValue (ty0 j)) := by rw [hfs]; simp [hj]
    unfold vp_V
    rw [List.getD_eq_getElem?_getD, List.getElem?_map, this]
    cases ty0 j <;> rfl
  obtain ⟨a1, a2⟩ := ip_grow hSt hS hU hat z1 o1
  have := kk.2 p e R s m args below meth c Q H1 locs (cells + 1) (slots + N) ls Cx0 hdp hlo (by rw [List.length_append]; show cells + 1 + _ ≤ _ + (_ + 1); omega) (by rw [et]; omega) hL a1 a2 (fun pc' ls' H'' locs' w1 w2 w3 => by
    have q := kt pc' ls' H'' locs' w1 w2 w3
    rw [List.length_append, et]
    rw [show cells + 1 + (r.2.length - (h.length + [(.inr (ci, fs) : ip_E)].length)) = cells + (r.2.length - h.length) by show cells + 1 + (r.2.length - (h.length + 1)) = _; omega, show slots + N + (ip_t r.2 - (ip_t h + N)) = slots + (ip_t r.2 - ip_t h) by omega]
    exact q)
  have ea : ip_a G (32 + h.length) = H.size := by unfold ip_a; rw [if_neg (by omega), hSt.1]; omega
  rw [List.map_cons] at this
  rw [show ip_v G (.ref (32 + h.length)) = .ref H.size from by show Value.ref (ip_a G _) = _; rw [ea]] at this
  exact this
def ip_at (ty : FieldType) : ArrayType := match ty with
  | .int => .int
  | .byte => .byte
  | .boolean => .boolean
  | _ => .long
def ip_zr (ty : FieldType) (n : Nat) : vp_A := match ty with
  | .long => (n, .inr (.inl (fun _ => 0)))
  | _ => (n, .inl (fun _ => 0))
theorem ip_newa (ty : FieldType) (hty : (ip_ty G)[ip_tyN ty]? = some (ip_A G ty, ty)) (h4 : ty = .int ∨ ty = .byte ∨ ty = .boolean ∨ ty = .long) {n : Int32} {N : Nat} (hd : decode M.2.1 pc = .ok (.newarray (ip_at ty), 2)) (hw : Cond.arrayClass ty ∈ ip_T G) (hn : ¬ n < 0) (hN : n.toNatClampNeg = N) (hsz : N * 8 ≤ 536870912)
    (kk : ip_Rn l G M d (pc + 2) L (.ref (32 + h.length) :: st) (h ++ [.inl (ty, ip_zr ty N)]) r) : ip_Rn l G M d pc L (.int n :: st) h r := by
  have et := ip_t_push h (.inl (ty, ip_zr ty N))
  have ez : ip_z (.inl (ty, ip_zr ty N)) = N := by cases ty <;> rfl
  rw [ez] at et
  have k1 := kk.1
  rw [List.length_append, et] at k1
  have k1a : h.length + 1 ≤ r.2.length := k1.1
  refine ⟨⟨by omega, by omega⟩, fun p e R s m args below meth c Q H locs cells slots ls Cx hdp hlo hce hsl hL hSt hS kt => ?_⟩
  have Cx0 := Cx
  obtain ⟨hx, hb, -, -, hown, hts, -, -, hU, hK, -⟩ := Cx
  have etp : newarray.typeOf (ip_at ty) = ty := by rcases h4 with rfl | rfl | rfl | rfl <;> rfl
  have hcb : componentBytes ty ≤ 8 := by rcases h4 with rfl | rfl | rfl | rfl <;> decide
  have hmul : N * componentBytes ty ≤ N * 8 := Nat.mul_le_mul_left N hcb
  refine va_newaK hx hb (atype := ip_at ty) (by rw [etp]; exact hts _ hw) rfl hd rfl hn hN (by rw [etp]; omega) (by omega) (by omega) rfl fun H1 cA e1 z1 o1 hAr hNm => ?_
  have hcA : cA = ip_A G ty := by
    have h5 := (hK.2 (ip_tyN ty) _ hty).2
    rw [etp] at hNm
    rcases h4 with rfl | rfl | rfl | rfl <;> exact Option.some.inj (hNm.symm.trans h5)
  have hat : va_at (ip_D G) (ip_C G) (H.size, ip_cv G (.inl (ty, ip_zr ty N))) H1 := by
    show H1[H.size]? = some (vp_cell (ip_A G ty) (ip_zr ty N))
    rw [e1, hcA, etp]
    rcases h4 with rfl | rfl | rfl | rfl <;> rfl
  obtain ⟨a1, a2⟩ := ip_grow hSt hS hU hat z1 o1
  have := kk.2 p e R s m args below meth c Q H1 locs (cells + 1) (slots + N) ls Cx0 hdp hlo (by rw [List.length_append]; show cells + 1 + _ ≤ _ + (_ + 1); omega) (by rw [et]; omega) hL a1 a2 (fun pc' ls' H'' locs' w1 w2 w3 => by
    have q := kt pc' ls' H'' locs' w1 w2 w3
    rw [List.length_append, et]
    rw [show cells + 1 + (r.2.length - (h.length + [(.inl (ty, ip_zr ty N) : ip_E)].length)) = cells + (r.2.length - h.length) by show cells + 1 + (r.2.length - (h.length + 1)) = _; omega, show slots + N + (ip_t r.2 - (ip_t h + N)) = slots + (ip_t r.2 - ip_t h) by omega]
    exact q)
  have ea : ip_a G (32 + h.length) = H.size := by unfold ip_a; rw [if_neg (by omega), hSt.1]; omega
  rw [List.map_cons] at this
  rw [show ip_v G (.ref (32 + h.length)) = .ref H.size from by show Value.ref (ip_a G _) = _; rw [ea]] at this
  exact this
end IPA
end
section
/-! returns -/
def ip_rok (ret : Option FieldType) (v : Option Value) : Prop := match ret, v with
  | none, none => True
  | some .long, some (.long _) => True
  | some (.object _), some (.ref _) => True
  | some (.array _), some (.ref _) => True
  | some ty, some (.int x) => narrow ty (.int x) = .int x ∧ ty ≠ .long
  | _, _ => False
def ip_w (G : ip_G) (M : ip_M) : List Cond := Cond.code M.1 M.2.1 M.2.2.1 M.2.2.2 :: ip_T G
def ip_rm (d : Nat) (h : ip_H) (r : Option Value × ip_H) : Room := { frames := d, cells := r.2.length - h.length, slots := ip_t r.2 - ip_t h, locals := 41 * d }
def ip_Pc (G : ip_G) (As : List Value) (h : ip_H) : Array Value → State → Prop := va_Pc (As.map (ip_v G)) (fun U => ip_U G U ∧ ip_St G h U.heap)
def ip_Qc (G : ip_G) (r : Option Value × ip_H) : Array Value → State → Outcome → State → Prop := fun _ st o t => o = .returned (r.1.map (ip_v G)) ∧ ip_St G r.2 t.heap ∧ va_F (fun q => ip_B G ≤ q) st t
def ip_RnM (l : Launch) (G : ip_G) (M : ip_M) (d : Nat) (As : List Value) (h : ip_H) (r : Option Value × ip_H) : Prop :=
  (h.length ≤ r.2.length ∧ ip_t h ≤ ip_t r.2) ∧ Met l M.1 (ip_w G M) (ip_rm d h r) (ip_Pc G As h) (ip_Qc G r) (r.2.length - h.length) (ip_t r.2 - ip_t h) (fun q => ip_B G ≤ q)
/-- what the tables must say of a method that is called -/
def ip_okM (T : List Cond) (M : ip_M) : Prop := plainName M.1.cls = true ∧ (M.1.cls ≠ "java/lang/invoke/MethodHandle" ∧ M.1.cls ≠ "java/lang/invoke/VarHandle") ∧ M.2.2.1 ≤ 22 ∧ Cond.code M.1 M.2.1 M.2.2.1 M.2.2.2 ∈ T ∧ Cond.initialized M.1.cls ∈ T
def ip_okT (T : List Cond) : Prop := ∀ w ∈ T, (w.onTables && w.keeps) = true ∨ ∃ ty, w = .arrayClass ty
def ip_ent0 (As : List Value) : List (Option Value) := As.flatMap (fun v => if v.category = 2 then [some v, none] else [some v])
def ip_ent (As : List Value) (n : Nat) : List (Option Value) := ip_ent0 As ++ List.replicate (n - (ip_ent0 As).length) none
def ip_sl (G : ip_G) (o : Option Value) : Slot := match o with
  | some v => .val (ip_v G v)
  | none => .second
theorem ip_lg_sl (G : ip_G) : ∀ As : List Value, lg_sl (As.map (ip_v G)) = (ip_ent0 As).map (ip_sl G)
  | [] => rfl
  | v :: As => by
    have ih := ip_lg_sl G As
    show (if (ip_v G v).category = 2 then [Slot.val (ip_v G v), .second] else [.val (ip_v G v)]) ++ lg_sl (As.map (ip_v G)) = ((if v.category = 2 then [some v, none] else [some v]) ++ ip_ent0 As).map (ip_sl G)
    rw [ih, List.map_append, ip_v_cat]
    split <;> rfl
theorem ip_entry (G : ip_G) (As : List Value) (n : Nat) (hn : (ip_ent0 As).length ≤ n) : ip_L G ((lg_sl (As.map (ip_v G)) ++ List.replicate (n - (lg_sl (As.map (ip_v G))).length) Slot.unset).toArray) n (ip_ent As n) := by
  have hlen : (lg_sl (As.map (ip_v G))).length = (ip_ent0 As).length := by rw [ip_lg_sl, List.length_map]
  have h0 := lv_entry (As.map (ip_v G)) (n := n) (by rw [hlen]; exact hn)
  refine ⟨h0.1, h0.2.1, fun i v hi => ?_⟩
  rw [List.getElem?_toArray]
  unfold ip_ent at hi
  by_cases hl : i < (ip_ent0 As).length
  · rw [List.getElem?_append_left hl] at hi
    rw [List.getElem?_append_left (by rw [hlen]; exact hl), ip_lg_sl, List.getElem?_map, hi]
    rfl
  · rw [List.getElem?_append_right (by omega)] at hi
    have := List.eq_of_mem_replicate (List.mem_of_getElem? hi)
    cases this
theorem ip_ofRn {l : Launch} {G : ip_G} {M : ip_M} {d : Nat} {As : List Value} {h : ip_H} {r : Option Value × ip_H} (hM : ip_okM (ip_T G) M) (hr : ip_rok M.2.2.2 r.1) (hn : (ip_ent0 As).length ≤ M.2.2.1) (k : ip_Rn l G M d 0 (ip_ent As M.2.2.1) [] h r) : ip_RnM l G M d As h r := by
  refine ⟨k.1, Met.ofW (cc := M.2.1) (maxL := M.2.2.1) (ret := M.2.2.2) hM.1 rfl ?_⟩
  intro p e s m args below meth c s₁ B hml hv
  obtain ⟨rfl, hU, hSt⟩ := hv
  have hts : ∀ w ∈ ip_T G, w.before (As.map (ip_v G)).toArray s = true := fun w hw => atoms_spec (ws := ip_w G M) B.pre w (List.mem_cons_of_mem _ hw)
  have hlocks := B.notSynchronized
  have Cx : ip_Cx G M p s m (As.map (ip_v G)).toArray meth c := ⟨B.exec, B.bytes, B.returns, hml, findClass_of_methodNamed B.named, hts, B.notSynchronized, (name_of_methodNamed B.named B.method).1, hU⟩
  rw [lg_entry_eq]
  have hr0 : meth.sig.returnType = M.2.2.2 := B.returns
  refine k.2 p e (ip_rm d h r) s m _ below meth c _ s.heap [] 0 0 _ Cx (Nat.le_refl _) (Nat.le_refl _) (by show 0 + _ ≤ (r.2.length - h.length) + _; have := k.1.1; omega) (by show 0 + _ ≤ (ip_t r.2 - ip_t h) + _; have := k.1.2; omega) (ip_entry G As _ hn) hSt va_S.rf ?_
  intro pc' ls' H' locs' hdg hSt' hS'
  rw [Nat.zero_add, Nat.zero_add]
  have hq : ∀ t : State, t.heap = H' → s.WarmedH t.vm → ip_Qc G r (As.map (ip_v G)).toArray s (.returned (r.1.map (ip_v G))) t := fun t ht _ => ⟨rfl, by rw [ht]; exact hSt', hS'.F ht⟩
  obtain ⟨v, h'⟩ := r
  cases v with
  | none =>
    cases hret : M.2.2.2 with
    | none =>
      rw [hret] at hr0
      exact W.vret B.exec B.bytes hr0 hq hS'.2.2 hdg
    | some ty =>
      rw [hret] at hr
      cases ty <;> exact hr.elim
  | some v =>
    cases hret : M.2.2.2 with
    | none =>
      rw [hret] at hr
      exact hr.elim
    | some ty =>
      rw [hret] at hr hr0
      cases v with
      | int x =>
        have hx : narrow ty (.int x) = .int x ∧ ty ≠ .long := by
          cases ty <;> first | exact hr | exact hr.elim
        exact W.zret (v := x) B.exec B.bytes hr0 hx.1 hq hS'.2.2 hdg
      | long x =>
        have hx : ty = .long := by cases ty <;> first | rfl | exact hr.elim
        subst hx
        exact W.lret (v := x) B.exec B.bytes hr0 hq hS'.2.2 hdg
      | ref x =>
        have hx : (∃ n, ty = .object n) ∨ ∃ t, ty = .array t := by
          cases ty <;> first | exact Or.inl ⟨_, rfl⟩ | exact Or.inr ⟨_, rfl⟩ | exact hr.elim
        exact W.aret (v := .ref (ip_a G x)) B.exec B.bytes hr0 hx (Or.inr ⟨_, rfl⟩) hq hS'.2.2 hdg
      | null => cases ty <;> exact hr.elim
      | float x => cases ty <;> exact hr.elim
      | double x => cases ty <;> exact hr.elim
      | retAddr x => cases ty <;> exact hr.elim
section IPC
variable {l : Launch} {G : ip_G} {M : ip_M} {d pc : Nat} {L : List (Option Value)} {st : List Value} {h : ip_H} {r : Option Value × ip_H}
theorem ip_ret {v : Option Value} (hd : decode M.2.1 pc = .ok (ip_ri v, 1)) : ip_Rn l G M d pc L v.toList h (v, h) :=
  ⟨⟨Nat.le_refl _, Nat.le_refl _⟩, fun p e R s m args below meth c Q H locs cells slots ls Cx hdp hlo hce hsl hL hSt hS kt => by
    have := kt pc ls H locs hd hSt hS
    rw [Nat.sub_self, Nat.sub_self] at this
    exact this⟩
theorem ip_blind (G : ip_G) (hmv : ip_mv G) (As : List Value) (h : ip_H) : FrameBlind (ip_Pc G As h) := fun a U g mk q => by
  obtain ⟨q0, ⟨q1, q2, q3⟩, q4⟩ := q
  exact ⟨q0, ⟨q1, va_K.moved (u := U) (U := U.calling g mk a) (Vm.Alike.refl U.vm) q2, hmv U (U.calling g mk a) (Vm.Alike.refl U.vm) (fun _ _ => rfl) q3⟩, q4⟩
theorem ip_pre {s : State} {H : Heap} {locs : List Loc} {As : List Value} (hmv : ip_mv G) (hU : ip_U G s) (hSt : ip_St G h H) (hS : ip_S G s H locs) : ∀ U : State, U.heap = H → s.WarmedH U.vm → ip_Pc G As h (As.map (ip_v G)).toArray U := fun U hH hW =>
  ⟨rfl, ⟨by rw [hH, hSt.1]; exact Nat.le_add_right _ _, va_K.moved hW.alike hU.2.1, hmv s U hW.alike (fun q hq => by rw [hH]; exact hS.2.1 q (Nat.lt_of_lt_of_le hq hU.1) (Nat.not_le.mpr hq)) hU.2.2⟩, by rw [hH]; exact hSt⟩
theorem ip_goodw (hT : ip_okT (ip_T G)) {M' : ip_M} (hM : ip_okM (ip_T G) M') : GoodIn (ip_T G) (ip_w G M') := fun w hw => by
  rcases List.mem_cons.mp hw with rfl | hw
  · exact ⟨hM.2.2.2.1, hT _ hM.2.2.2.1⟩
  · exact ⟨hw, hT w hw⟩
theorem ip_after {p : Program} {e : Env} {R : Room} {s : State} {m : MethodId} {args : Array Value} {below : List Frame} {meth : Method} {c : Code} {H : Heap} {locs : List Loc} {cells slots mc ms : Nat} {Q : State → Prop} {ls : Array Slot} {st0 rest : List Value} {a : Array Value} {r1 : Option Value × ip_H}
    (hr : va_Run p l e R s m args below meth c H locs cells slots mc ms (F0 m pc ls st0) rest (ip_Qc G r1 a) (fun q => ip_B G ≤ q)) (hS : ip_S G s H locs)
    (kk : ∀ (H1 : Heap) (locs1 : List Loc), ip_St G r1.2 H1 → ip_S G s H1 locs1 → W p l e R s m args below meth c H1 locs1 (cells + mc) (slots + ms) Q (F0 m (pc + 3) ls ((r1.1.map (ip_v G)).toList ++ rest))) : W p l e R s m args below meth c H locs cells slots Q (F0 m pc ls st0) := by
  intro T hT X
  obtain ⟨v, st₀, t, T', L', h0, X', hL', e1, e2, ⟨hv, hSt1, hz, hk⟩, stp⟩ := hr T hT X
  cases hv
  rw [h0] at hz hk
  obtain ⟨t2, a1, b1⟩ := kk T'.heap (locs ++ L') (by rw [e1]; exact hSt1)
    ⟨Nat.le_trans hS.1 (by rw [e1]; exact hz), fun q h1 h2 => by rw [e1, hk q (Nat.lt_of_lt_of_le h1 hS.1) h2]; exact hS.2.1 q h1 h2, fun q hq => by
      rcases List.mem_append.mp hq with h | h
      · exact hS.2.2 q h
      · exact hL' q h⟩ T' rfl X'
  exact ⟨t2, stp t2 a1, b1⟩
/-- the numbers behind a call -/
theorem ip_nums {a b c x y z w u v : Nat} (h1 : a ≤ b) (h2 : b ≤ c) : x + (b - a) + (c - b) = x + (c - a) := by omega
theorem ip_callV {idx n ci N : Nat} {C : String} {F : u_T} {fs As : List Value} {M' : ip_M} {r1 : Option Value × ip_H} (hmv : ip_mv G) (hT : ip_okT (ip_T G)) (hM : ip_okM (ip_T G) M') (hd : decode M.2.1 pc = .ok (.invokevirtual idx, 3))
    (hln : Cond.methodLink M.1.cls idx M'.1 ∈ ip_T G ∧ Cond.instanceMethod M'.1 ∈ ip_T G ∧ Cond.selects M'.1.cls M'.1 M'.1 ∈ ip_T G) (hpar : (parseMethodDescriptor M'.1.desc).map (fun q => q.parameters.length) = some As.length)
    (hc : (ip_C G)[ci]? = some (C, F, N)) (hC : C = M'.1.cls) (hh : ip_h h n = some (.inr (ci, fs))) (hsm : (st.map fun v => v.category).sum ≤ 8) (hm : ip_RnM l G M' d (.ref n :: As) h r1)
    (kk : ip_Rn l G M (d + 1) (pc + 3) L (r1.1.toList ++ st) r1.2 r) : ip_Rn l G M (d + 1) pc L (As.reverse ++ .ref n :: st) h r := by
  refine ⟨⟨Nat.le_trans hm.1.1 kk.1.1, Nat.le_trans hm.1.2 kk.1.2⟩, fun p e R s m args below meth c Q H locs cells slots ls Cx hdp hlo hce hsl hL hSt hS kt => ?_⟩
  have Cx0 := Cx
  obtain ⟨hx, hb, -, hml, hown, hts, -, -, hU⟩ := Cx
  have m1 := hm.1
  have k1 := kk.1
  have hcb : CallB R s args M.1.cls idx M'.1 M'.2.1 M'.2.2.1 M'.2.2.2 (ip_w G M') (ip_rm d h r1) (r1.2.length - h.length) (ip_t r1.2 - ip_t h) As.length :=
    callB_of As.length hts (ip_goodw hT hM) rfl rfl rfl (hts _ hM.2.2.2.2) (hts _ hln.1) ⟨hM.2.1.1, hM.2.1.2, hpar⟩ ⟨hdp, by have := hM.2.2.1; show 8 + (M'.2.2.1 + 11) + 41 * d ≤ R.locals; omega⟩
  have hrun := va_runV (e := e) (below := below) (meth := meth) (As := As.map (ip_v G)) (rest := st.map (ip_v G)) (g := F0 m pc ls ((As.reverse ++ .ref n :: st).map (ip_v G))) ⟨hx, hb, hml, hown, hts⟩ hm.2 ⟨hcb, hts _ hln.2.1, hts _ hln.2.2⟩
    ⟨ip_blind G hmv _ _, by
      obtain ⟨cell, g1, g2, g3⟩ := va_recv hU.2.1 hSt.2 hc (ip_ws_at G hh)
      rw [← hC]
      exact ⟨cell, g1, g2, g3⟩, ip_pre (As := .ref n :: As) hmv hU hSt hS⟩ rfl (by rw [List.length_map]) hL.1 (by simp [ip_v]) (lv_room (m := m) (pc := pc) (ls := ls) (rest := []) (by rw [ip_cats]; exact hsm)) hd (locs := locs) (cells := cells) (slots := slots) ⟨by omega, by omega⟩
  refine ip_after hrun hS (fun H1 locs1 a1 a2 => ?_)
  have := kk.2 p e R s m args below meth c Q H1 locs1 (cells + (r1.2.length - h.length)) (slots + (ip_t r1.2 - ip_t h)) ls Cx0 hdp hlo (by omega) (by omega) hL a1 a2 (fun pc' ls' H'' locs' w1 w2 w3 => by
    have q := kt pc' ls' H'' locs' w1 w2 w3
    rw [show cells + (r1.2.length - h.length) + (r.2.length - r1.2.length) = cells + (r.2.length - h.length) by omega, show slots + (ip_t r1.2 - ip_t h) + (ip_t r.2 - ip_t r1.2) = slots + (ip_t r.2 - ip_t h) by omega]
    exact q)
  rw [List.map_append] at this
  cases hv : r1.1 with
  | none => rw [hv] at this; exact this
  | some v => rw [hv] at this; exact this
theorem ip_callI {idx n : Nat} {As : List Value} {M' : ip_M} {r1 : Option Value × ip_H} (hmv : ip_mv G) (hT : ip_okT (ip_T G)) (hM : ip_okM (ip_T G) M') (hd : decode M.2.1 pc = .ok (.invokespecial idx, 3))
    (hln : Cond.methodLink M.1.cls idx M'.1 ∈ ip_T G ∧ Cond.instanceMethod M'.1 ∈ ip_T G) (hname : M'.1.name = "<init>") (hret : M'.2.2.2 = none) (hpar : (parseMethodDescriptor M'.1.desc).map (fun q => q.parameters.length) = some As.length)
    (hsm : (st.map fun v => v.category).sum ≤ 8) (hm : ip_RnM l G M' d (.ref n :: As) h r1)
    (kk : ip_Rn l G M (d + 1) (pc + 3) L (r1.1.toList ++ st) r1.2 r) : ip_Rn l G M (d + 1) pc L (As.reverse ++ .ref n :: st) h r := by
  refine ⟨⟨Nat.le_trans hm.1.1 kk.1.1, Nat.le_trans hm.1.2 kk.1.2⟩, fun p e R s m args below meth c Q H locs cells slots ls Cx hdp hlo hce hsl hL hSt hS kt => ?_⟩
  have Cx0 := Cx
  obtain ⟨hx, hb, -, hml, hown, hts, -, -, hU⟩ := Cx
  have m1 := hm.1
  have k1 := kk.1
  have hcb : CallB R s args M.1.cls idx M'.1 M'.2.1 M'.2.2.1 none (ip_w G M') (ip_rm d h r1) (r1.2.length - h.length) (ip_t r1.2 - ip_t h) As.length :=
    callB_of As.length hts (ip_goodw hT hM) (ws' := ip_T G) (by unfold ip_w; rw [hret]) rfl rfl (hts _ hM.2.2.2.2) (hts _ hln.1) ⟨hM.2.1.1, hM.2.1.2, hpar⟩ ⟨hdp, by have := hM.2.2.1; show 8 + (M'.2.2.1 + 11) + 41 * d ≤ R.locals; omega⟩
  have hrun := va_runI (e := e) (below := below) (meth := meth) (b := ip_a G n) (As := As.map (ip_v G)) (rest := st.map (ip_v G)) (g := F0 m pc ls ((As.reverse ++ .ref n :: st).map (ip_v G))) ⟨hx, hb, hml, hown, hts⟩ hm.2 ⟨hcb, hname, hts _ hln.2⟩
    ⟨ip_blind G hmv _ _, ip_pre (As := .ref n :: As) hmv hU hSt hS⟩ rfl (by rw [List.length_map]) hL.1 (by simp [ip_v]) (lv_room (m := m) (pc := pc) (ls := ls) (rest := []) (by rw [ip_cats]; exact hsm)) hd (locs := locs) (cells := cells) (slots := slots) ⟨by omega, by omega⟩
  refine ip_after hrun hS (fun H1 locs1 a1 a2 => ?_)
  have := kk.2 p e R s m args below meth c Q H1 locs1 (cells + (r1.2.length - h.length)) (slots + (ip_t r1.2 - ip_t h)) ls Cx0 hdp hlo (by omega) (by omega) hL a1 a2 (fun pc' ls' H'' locs' w1 w2 w3 => by
    have q := kt pc' ls' H'' locs' w1 w2 w3
    rw [show cells + (r1.2.length - h.length) + (r.2.length - r1.2.length) = cells + (r.2.length - h.length) by omega, show slots + (ip_t r1.2 - ip_t h) + (ip_t r.2 - ip_t r1.2) = slots + (ip_t r.2 - ip_t h) by omega]
    exact q)
  rw [List.map_append] at this
  cases hv : r1.1 with
  | none => rw [hv] at this; exact this
  | some v => rw [hv] at this; exact this
theorem ip_callS {idx : Nat} {As : List Value} {M' : ip_M} {r1 : Option Value × ip_H} (hmv : ip_mv G) (hT : ip_okT (ip_T G)) (hM : ip_okM (ip_T G) M') (hd : decode M.2.1 pc = .ok (.invokestatic idx, 3))
    (hln : Cond.methodLink M.1.cls idx M'.1 ∈ ip_T G ∧ Cond.static M'.1 ∈ ip_T G) (hpar : (parseMethodDescriptor M'.1.desc).map (fun q => q.parameters.length) = some As.length)
    (hsm : (st.map fun v => v.category).sum ≤ 8) (hm : ip_RnM l G M' d As h r1)
    (kk : ip_Rn l G M (d + 1) (pc + 3) L (r1.1.toList ++ st) r1.2 r) : ip_Rn l G M (d + 1) pc L (As.reverse ++ st) h r := by
  refine ⟨⟨Nat.le_trans hm.1.1 kk.1.1, Nat.le_trans hm.1.2 kk.1.2⟩, fun p e R s m args below meth c Q H locs cells slots ls Cx hdp hlo hce hsl hL hSt hS kt => ?_⟩
  have Cx0 := Cx
  obtain ⟨hx, hb, -, hml, hown, hts, -, -, hU⟩ := Cx
  have m1 := hm.1
  have k1 := kk.1
  have hcb : CallB R s args M.1.cls idx M'.1 M'.2.1 M'.2.2.1 M'.2.2.2 (ip_w G M') (ip_rm d h r1) (r1.2.length - h.length) (ip_t r1.2 - ip_t h) As.length :=
    callB_of As.length hts (ip_goodw hT hM) rfl rfl rfl (hts _ hM.2.2.2.2) (hts _ hln.1) ⟨hM.2.1.1, hM.2.1.2, hpar⟩ ⟨hdp, by have := hM.2.2.1; show 8 + (M'.2.2.1 + 11) + 41 * d ≤ R.locals; omega⟩
  have hrun := va_runS (e := e) (below := below) (meth := meth) (As := As.map (ip_v G)) (rest := st.map (ip_v G)) (g := F0 m pc ls ((As.reverse ++ st).map (ip_v G))) ⟨hx, hb, hml, hown, hts⟩ hm.2 ⟨hcb, hts _ hln.2⟩
    ⟨ip_blind G hmv _ _, ip_pre (As := As) hmv hU hSt hS⟩ rfl (by rw [List.length_map]) hL.1 (by simp) (lv_room (m := m) (pc := pc) (ls := ls) (rest := []) (by rw [ip_cats]; exact hsm)) hd (locs := locs) (cells := cells) (slots := slots) ⟨by omega, by omega⟩
  refine ip_after hrun hS (fun H1 locs1 a1 a2 => ?_)
  have := kk.2 p e R s m args below meth c Q H1 locs1 (cells + (r1.2.length - h.length)) (slots + (ip_t r1.2 - ip_t h)) ls Cx0 hdp hlo (by omega) (by omega) hL a1 a2 (fun pc' ls' H'' locs' w1 w2 w3 => by
    have q := kt pc' ls' H'' locs' w1 w2 w3
    rw [show cells + (r1.2.length - h.length) + (r.2.length - r1.2.length) = cells + (r.2.length - h.length) by omega, show slots + (ip_t r1.2 - ip_t h) + (ip_t r.2 - ip_t r1.2) = slots + (ip_t r.2 - ip_t h) by omega]
    exact q)
  rw [List.map_append] at this
  cases hv : r1.1 with
  | none => rw [hv] at this; exact this
  | some v => rw [hv] at this; exact this
/-- a private static method of a nest mate -/
theorem ip_callSN {idx : Nat} {host : String} {As : List Value} {M' : ip_M} {r1 : Option Value × ip_H} (hmv : ip_mv G) (hT : ip_okT (ip_T G)) (hM : ip_okM (ip_T G) M') (hd : decode M.2.1 pc = .ok (.invokestatic idx, 3))
    (hln : Cond.methodLinkNest M.1.cls idx M'.1 host ∈ ip_T G ∧ Cond.static M'.1 ∈ ip_T G) (hpar : (parseMethodDescriptor M'.1.desc).map (fun q => q.parameters.length) = some As.length)
    (hsm : (st.map fun v => v.category).sum ≤ 8) (hm : ip_RnM l G M' d As h r1)
    (kk : ip_Rn l G M (d + 1) (pc + 3) L (r1.1.toList ++ st) r1.2 r) : ip_Rn l G M (d + 1) pc L (As.reverse ++ st) h r := by
  refine ⟨⟨Nat.le_trans hm.1.1 kk.1.1, Nat.le_trans hm.1.2 kk.1.2⟩, fun p e R s m args below meth c Q H locs cells slots ls Cx hdp hlo hce hsl hL hSt hS kt => ?_⟩
  have Cx0 := Cx
  obtain ⟨hx, hb, -, hml, hown, hts, -, -, hU⟩ := Cx
  have m1 := hm.1
  have k1 := kk.1
  have hcb : va_CN R s args M.1.cls idx M'.1 host M'.2.1 M'.2.2.1 M'.2.2.2 (ip_w G M') (ip_rm d h r1) (r1.2.length - h.length) (ip_t r1.2 - ip_t h) As.length :=
    va_cnB As.length hts (ip_goodw hT hM) rfl rfl rfl (va_Nw.of rfl (hts _ hln.1)) (hts _ hM.2.2.2.2) ⟨hM.2.1.1, hM.2.1.2, hpar⟩ ⟨hdp, by have := hM.2.2.1; show 8 + (M'.2.2.1 + 11) + 41 * d ≤ R.locals; omega⟩
  have hrun := va_runSN (e := e) (below := below) (meth := meth) (As := As.map (ip_v G)) (rest := st.map (ip_v G)) (g := F0 m pc ls ((As.reverse ++ st).map (ip_v G))) ⟨hx, hb, hml, hown, hts⟩ hm.2 ⟨hcb, hts _ hln.2, trivial⟩
    ⟨ip_blind G hmv _ _, ip_pre (As := As) hmv hU hSt hS⟩ rfl (by rw [List.length_map]) hL.1 (by simp) (lv_room (m := m) (pc := pc) (ls := ls) (rest := []) (by rw [ip_cats]; exact hsm)) hd (locs := locs) (cells := cells) (slots := slots) ⟨by omega, by omega⟩
  refine ip_after hrun hS (fun H1 locs1 a1 a2 => ?_)
  have := kk.2 p e R s m args below meth c Q H1 locs1 (cells + (r1.2.length - h.length)) (slots + (ip_t r1.2 - ip_t h)) ls Cx0 hdp hlo (by omega) (by omega) hL a1 a2 (fun pc' ls' H'' locs' w1 w2 w3 => by
    have q := kt pc' ls' H'' locs' w1 w2 w3
    rw [show cells + (r1.2.length - h.length) + (r.2.length - r1.2.length) = cells + (r.2.length - h.length) by omega, show slots + (ip_t r1.2 - ip_t h) + (ip_t r.2 - ip_t r1.2) = slots + (ip_t r.2 - ip_t h) by omega]
    exact q)
  rw [List.map_append] at this
  cases hv : r1.1 with
  | none => rw [hv] at this; exact this
  | some v => rw [hv] at this; exact this
end IPC
end
section
/-- what a method's instructions are and link to: decode rows, fields, made classes, numbers -/
def ip_len (pc : Nat) (i : Instr) : Nat := match i with
  | .bipush _ | .ldc _ | .iload _ | .lload _ | .aload _ | .istore _ | .lstore _ | .astore _ | .newarray _ => 2
  | .sipush _ | .ldc_w _ | .ldc2_w _ | .iinc _ _ | .goto _ | .ifCond _ _ | .if_icmp _ _ | .getfield _ | .putfield _ | .new _ | .invokevirtual _ | .invokespecial _ | .invokestatic _ | .getstatic _ | .ifnull _ | .ifnonnull _ => 3
  | .tableswitch _ _ _ offs => (4 - pc % 4) + 12 + 4 * offs.size
  | .lookupswitch _ ps => (4 - pc % 4) + 8 + 8 * ps.size
  | _ => 1
abbrev ip_V : Type := List (Nat × Instr) × List (Nat × Nat × Nat × FieldType × Bool) × List (Nat × Nat × List Value) × List (Nat × Int32) × List (Nat × Int64)
def ip_okV (T : List Cond) (cl : List vw_C) (M : ip_M) (V : ip_V) : Prop :=
  (∀ q ∈ V.1, decode M.2.1 q.1 = .ok (q.2, ip_len q.1 q.2)) ∧ (∀ q ∈ V.2.1, ip_F T cl M.1.cls q.1 q.2.1 q.2.2.1 q.2.2.2.1 q.2.2.2.2 ∧ (q.2.2.2.2 = true → ip_Fp T cl M.1.cls q.1 q.2.1 q.2.2.1 q.2.2.2.1 ∨ M.1.name ≠ "<init>")) ∧ (∀ q ∈ V.2.2.1, ip_N T cl M.1.cls q.1 q.2.1 q.2.2) ∧ (∀ q ∈ V.2.2.2.1, Cond.constant M.1.cls q.1 q.2 ∈ T) ∧ (∀ q ∈ V.2.2.2.2, Cond.constantLong M.1.cls q.1 q.2 ∈ T)
abbrev ip_K : Type := Nat × List (Option Value) × List Value × ip_H
def ip_lk {α : Type} : Nat → List (Nat × α) → Option α
  | _, [] => none
  | k, q :: l => bif Nat.beq k q.1 then some q.2 else ip_lk k l
theorem ip_lk_mem {α : Type} {k : Nat} {a : α} : ∀ {l : List (Nat × α)}, ip_lk k l = some a → (k, a) ∈ l
  | [], h => by cases h
  | q :: l, h => by
    unfold ip_lk at h
    cases hb : Nat.beq k q.1 with
    | true =>
      rw [hb] at h
      have h1 : q.2 = a := Option.some.inj h
      have h2 : k = q.1 := Nat.eq_of_beq_eq_true hb
      rw [h2, ← h1]
      exact List.mem_cons_self
    | false =>
      rw [hb] at h
      exact List.mem_cons_of_mem _ (ip_lk_mem h)
def ip_cnd (c : ClassFile.Cond) (x : Int32) : Bool := match c with
  | .eq => decide (x = 0)
  | .ne => decide (¬ x = 0)
  | .lt => decide (x < 0)
  | .ge => decide (0 ≤ x)
  | .gt => decide (0 < x)
  | .le => decide (x ≤ 0)
def ip_cmp (c : ClassFile.Cond) (x y : Int32) : Bool := match c with
  | .eq => decide (x = y)
  | .ne => decide (¬ x = y)
  | .lt => decide (x < y)
  | .ge => decide (y ≤ x)
  | .gt => decide (y < x)
  | .le => decide (x ≤ y)
/-- one instruction that is no call, no return, no making of a row, no index -/
def ip_ins (V : ip_V) (mL : Nat) (ini : Bool) (ins : Instr) (pc : Nat) (L : List (Option Value)) (st : List Value) (h : ip_H) : Option ip_K :=
  match ins with
  | .iconst n => some (pc + 1, L, .int (Int32.ofInt n) :: st, h)
  | .bipush n => some (pc + 2, L, .int (Int8.ofInt n).toInt32 :: st, h)
  | .sipush n => some (pc + 3, L, .int (Int16.ofInt n).toInt32 :: st, h)
  | .lconst n => some (pc + 1, L, .long (Int64.ofNat (n : Nat)) :: st, h)
  | .ldc i => match ip_lk i V.2.2.2.1 with
    | some v => some (pc + 2, L, .int v :: st, h)
    | none => none
  | .ldc_w i => match ip_lk i V.2.2.2.1 with
    | some v => some (pc + 3, L, .int v :: st, h)
    | none => none
  | .ldc2_w i => match ip_lk i V.2.2.2.2 with
    | some v => some (pc + 3, L, .long v :: st, h)
    | none => none
  | .iload i => match L[i]? with
    | some (some (.int x)) => some (pc + 2, L, .int x :: st, h)
    | _ => none
  | .iload_n i => match L[i.val]? with
    | some (some (.int x)) => some (pc + 1, L, .int x :: st, h)
    | _ => none
  | .lload i => match L[i]? with
    | some (some (.long x)) => some (pc + 2, L, .long x :: st, h)
    | _ => none
  | .lload_n i => match L[i.val]? with
    | some (some (.long x)) => some (pc + 1, L, .long x :: st, h)
    | _ => none
  | .aload i => match L[i]? with
    | some (some (.ref x)) => some (pc + 2, L, .ref x :: st, h)
    | _ => none
  | .aload_n i => match L[i.val]? with
    | some (some (.ref x)) => some (pc + 1, L, .ref x :: st, h)
    | _ => none
  | .istore i => match st with
    | .int x :: st => bif Nat.blt i mL then some (pc + 2, ip_s1 L i (.int x), st, h) else none
    | _ => none
  | .istore_n i => match st with
    | .int x :: st => bif Nat.blt i.val mL then some (pc + 1, ip_s1 L i.val (.int x), st, h) else none
    | _ => none
  | .lstore i => match st with
    | .long x :: st => bif Nat.blt (i + 1) mL then some (pc + 2, ip_s2 L i (.long x), st, h) else none
    | _ => none
  | .lstore_n i => match st with
    | .long x :: st => bif Nat.blt (i.val + 1) mL then some (pc + 1, ip_s2 L i.val (.long x), st, h) else none
    | _ => none
  | .astore i => match st with
    | .ref x :: st => bif Nat.blt i mL then some (pc + 2, ip_s1 L i (.ref x), st, h) else none
    | _ => none
  | .astore_n i => match st with
    | .ref x :: st => bif Nat.blt i.val mL then some (pc + 1, ip_s1 L i.val (.ref x), st, h) else none
    | _ => none
  | .iinc i n => match L[i]? with
    | some (some (.int x)) => bif Nat.blt i mL then some (pc + 3, ip_s1 L i (.int (x + Int32.ofInt n)), st, h) else none
    | _ => none
  | .iadd => match st with
    | .int y :: .int x :: st => some (pc + 1, L, .int (x + y) :: st, h)
    | _ => none
  | .isub => match st with
    | .int y :: .int x :: st => some (pc + 1, L, .int (x - y) :: st, h)
    | _ => none
  | .imul => match st with
    | .int y :: .int x :: st => some (pc + 1, L, .int (x * y) :: st, h)
    | _ => none
  | .iand => match st with
    | .int y :: .int x :: st => some (pc + 1, L, .int (x &&& y) :: st, h)
    | _ => none
  | .ior => match st with
    | .int y :: .int x :: st => some (pc + 1, L, .int (x ||| y) :: st, h)
    | _ => none
  | .ixor => match st with
    | .int y :: .int x :: st => some (pc + 1, L, .int (x ^^^ y) :: st, h)
    | _ => none
  | .ineg => match st with
    | .int x :: st => some (pc + 1, L, .int (-x) :: st, h)
    | _ => none
  | .ishl => match st with
    | .int y :: .int x :: st => some (pc + 1, L, .int (x <<< (y &&& 31)) :: st, h)
    | _ => none
  | .ishr => match st with
    | .int y :: .int x :: st => some (pc + 1, L, .int (x >>> (y &&& 31)) :: st, h)
    | _ => none
  | .iushr => match st with
    | .int y :: .int x :: st => some (pc + 1, L, .int (x.toUInt32 >>> (y.toUInt32 &&& Int32.toUInt32 31)).toInt32 :: st, h)
    | _ => none
  | .ladd => match st with
    | .long y :: .long x :: st => some (pc + 1, L, .long (x + y) :: st, h)
    | _ => none
  | .lsub => match st with
    | .long y :: .long x :: st => some (pc + 1, L, .long (x - y) :: st, h)
    | _ => none
  | .lmul => match st with
    | .long y :: .long x :: st => some (pc + 1, L, .long (x * y) :: st, h)
    | _ => none
  | .land => match st with
    | .long y :: .long x :: st => some (pc + 1, L, .long (x &&& y) :: st, h)
    | _ => none
  | .lor => match st with
    | .long y :: .long x :: st => some (pc + 1, L, .long (x ||| y) :: st, h)
    | _ => none
  | .lxor => match st with
    | .long y :: .long x :: st => some (pc + 1, L, .long (x ^^^ y) :: st, h)
    | _ => none
  | .lneg => match st with
    | .long x :: st => some (pc + 1, L, .long (-x) :: st, h)
    | _ => none
  | .lshl => match st with
    | .int y :: .long x :: st => some (pc + 1, L, .long (x <<< (y.toInt64 &&& 63)) :: st, h)
    | _ => none
  | .lshr => match st with
    | .int y :: .long x :: st => some (pc + 1, L, .long (x >>> (y.toInt64 &&& 63)) :: st, h)
    | _ => none
  | .lushr => match st with
    | .int y :: .long x :: st => some (pc + 1, L, .long (x.toUInt64 >>> (y.toInt64.toUInt64 &&& Int64.toUInt64 63)).toInt64 :: st, h)
    | _ => none
  | .lcmp => match st with
    | .long y :: .long x :: st => some (pc + 1, L, .int (lg_cmp x y) :: st, h)
    | _ => none
  | .i2l => match st with
    | .int x :: st => some (pc + 1, L, .long x.toInt64 :: st, h)
    | _ => none
  | .l2i => match st with
    | .long x :: st => some (pc + 1, L, .int x.toInt32 :: st, h)
    | _ => none
  | .i2b => match st with
    | .int x :: st => some (pc + 1, L, .int x.toInt8.toInt32 :: st, h)
    | _ => none
  | .i2c => match st with
    | .int x :: st => some (pc + 1, L, .int (x.toUInt32 % 65536).toInt32 :: st, h)
    | _ => none
  | .dup => match st with
    | v :: st => bif Nat.beq v.category 1 then some (pc + 1, L, v :: v :: st, h) else none
    | _ => none
  | .pop => match st with
    | v :: st => bif Nat.beq v.category 1 then some (pc + 1, L, st, h) else none
    | _ => none
  | .dup_x1 => match st with
    | v :: w :: st => bif Nat.beq v.category 1 && Nat.beq w.category 1 then some (pc + 1, L, v :: w :: v :: st, h) else none
    | _ => none
  | .dup2 => match st with
    | v :: w :: st => bif Nat.beq v.category 1 && Nat.beq w.category 1 then some (pc + 1, L, v :: w :: v :: w :: st, h) else none
    | _ => none
  | .goto off => match (pc : Int) + off with
    | .ofNat t => some (t, L, st, h)
    | _ => none
  | .ifCond c off => match st with
    | .int x :: st => match (pc : Int) + off with
      | .ofNat t => bif ip_cnd c x then some (t, L, st, h) else some (pc + 3, L, st, h)
      | _ => none
    | _ => none
  | .if_icmp c off => match st with
    | .int y :: .int x :: st => match (pc : Int) + off with
      | .ofNat t => bif ip_cmp c x y then some (t, L, st, h) else some (pc + 3, L, st, h)
      | _ => none
    | _ => none
  | .getfield i => match st with
    | .ref n :: st => match ip_lk i V.2.1 with
      | some (ci, k, _, _) => match ip_h h n with
        | some (.inr (cj, fs)) => bif Nat.beq ci cj then match fs[k]? with
            | some v => some (pc + 3, L, v :: st, h)
            | none => none
          else none
        | _ => none
      | none => none
    | _ => none
  | .putfield i => match st with
    | v :: .ref n :: st => match ip_lk i V.2.1 with
      | some (ci, k, ty, fin) => match ip_h h n with
        | some (.inr (cj, fs)) => bif Nat.beq ci cj && Nat.blt k fs.length && fits ty v && (!fin || ini) then some (pc + 3, L, st, ip_hs h n (.inr (cj, fs.set k v))) else none
        | _ => none
      | none => none
    | _ => none
  | .new i => match ip_lk i V.2.2.1 with
    | some (ci, fs) => some (pc + 3, L, .ref (32 + h.length) :: st, h ++ [.inr (ci, fs)])
    | none => none
  | _ => none
def ip_stp (V : ip_V) (mL : Nat) (ini : Bool) (σ : ip_K) : Option ip_K := match ip_lk σ.1 V.1 with
  | some i => ip_ins V mL ini i σ.1 σ.2.1 σ.2.2.1 σ.2.2.2
  | none => none
def ip_sts (V : ip_V) (mL : Nat) (ini : Bool) : Nat → ip_K → Option ip_K
  | 0, σ => some σ
  | n + 1, σ => match ip_stp V mL ini σ with
    | some σ' => ip_sts V mL ini n σ'
    | none => none
theorem ip_ins_ok {l : Launch} {G : ip_G} {M : ip_M} {d pc pc' : Nat} {L L' : List (Option Value)} {st st' : List Value} {h h' : ip_H} {r : Option Value × ip_H} {V : ip_V} {ini : Bool} {ins : Instr} (hV : ip_okV (ip_T G) (ip_C G) M V) (hini : ini = true → M.1.name = "<init>") (hq : decode M.2.1 pc = .ok (ins, ip_len pc ins))
    (hs : ip_ins V M.2.2.1 ini ins pc L st h = some (pc', L', st', h')) (k : ip_Rn l G M d pc' L' st' h' r) : ip_Rn l G M d pc L st h r := by
  cases ins with
  | iconst n => cases hs; exact ip_iconst hq rfl k
  | bipush n => cases hs; exact ip_bipush hq rfl k
  | sipush n => cases hs; exact ip_sipush hq rfl k
  | lconst n => cases hs; exact ip_lconst hq rfl k
  | ldc i =>
    simp only [ip_ins] at hs
    split at hs
    · next v hv => cases hs; exact ip_ldc hq (hV.2.2.2.1 _ (ip_lk_mem hv)) k
    · cases hs
  | ldc_w i =>
    simp only [ip_ins] at hs
    split at hs
    · next v hv => cases hs; exact ip_ldcw hq (hV.2.2.2.1 _ (ip_lk_mem hv)) k
    · cases hs
  | ldc2_w i =>
    simp only [ip_ins] at hs
    split at hs
    · next v hv => cases hs; exact ip_ldc2 hq (hV.2.2.2.2 _ (ip_lk_mem hv)) k
    · cases hs
  | iload i =>
    simp only [ip_ins] at hs
    split at hs
    · next x hv => cases hs; exact ip_iload hq hv k
    · cases hs
  | iload_n i =>
    simp only [ip_ins] at hs
    split at hs
    · next x hv => cases hs; exact ip_iload_n hq hv k
    · cases hs
  | lload i =>
    simp only [ip_ins] at hs
    split at hs
    · next x hv => cases hs; exact ip_lload hq hv k
    · cases hs
  | lload_n i =>
    simp only [ip_ins] at hs
    split at hs
    · next x hv => cases hs; exact ip_lload_n hq hv k
    · cases hs
  | aload i =>
    simp only [ip_ins] at hs
    split at hs
    · next x hv => cases hs; exact ip_aload hq hv k
    · cases hs
  | aload_n i =>
    simp only [ip_ins] at hs
    split at hs
    · next x hv => cases hs; exact ip_aload_n hq hv k
    · cases hs
  | istore i =>
    simp only [ip_ins] at hs
    split at hs
    · next x st1 =>
      cases hb : Nat.blt i M.2.2.1 with
      | true => rw [hb] at hs; cases hs; exact ip_istore hq (Nat.le_of_ble_eq_true hb) k
      | false => rw [hb] at hs; cases hs
    · cases hs
  | istore_n i =>
    simp only [ip_ins] at hs
    split at hs
    · next x st1 =>
      cases hb : Nat.blt i.val M.2.2.1 with
      | true => rw [hb] at hs; cases hs; exact ip_istore_n hq (Nat.le_of_ble_eq_true hb) k
      | false => rw [hb] at hs; cases hs
    · cases hs
  | lstore i =>
    simp only [ip_ins] at hs
    split at hs
    · next x st1 =>
      cases hb : Nat.blt (i + 1) M.2.2.1 with
      | true => rw [hb] at hs; cases hs; exact ip_lstore hq (Nat.le_of_ble_eq_true hb) k
      | false => rw [hb] at hs; cases hs
    · cases hs
  | lstore_n i =>
    simp only [ip_ins] at hs
    split at hs
    · next x st1 =>
      cases hb : Nat.blt (i.val + 1) M.2.2.1 with
      | true => rw [hb] at hs; cases hs; exact ip_lstore_n hq (Nat.le_of_ble_eq_true hb) k
      | false => rw [hb] at hs; cases hs
    · cases hs
  | astore i =>
    simp only [ip_ins] at hs
    split at hs
    · next x st1 =>
      cases hb : Nat.blt i M.2.2.1 with
      | true => rw [hb] at hs; cases hs; exact ip_astore hq (Nat.le_of_ble_eq_true hb) k
      | false => rw [hb] at hs; cases hs
    · cases hs
  | astore_n i =>
    simp only [ip_ins] at hs
    split at hs
    · next x st1 =>
      cases hb : Nat.blt i.val M.2.2.1 with
      | true => rw [hb] at hs; cases hs; exact ip_astore_n hq (Nat.le_of_ble_eq_true hb) k
      | false => rw [hb] at hs; cases hs
    · cases hs
  | iinc i n =>
    simp only [ip_ins] at hs
    split at hs
    · next x hv =>
      cases hb : Nat.blt i M.2.2.1 with
      | true => rw [hb] at hs; cases hs; exact ip_iinc hq hv (Nat.le_of_ble_eq_true hb) k
      | false => rw [hb] at hs; cases hs
    · cases hs
  | iadd =>
    simp only [ip_ins] at hs
    split at hs
    · cases hs; exact ip_iadd hq k
    · cases hs
  | isub =>
    simp only [ip_ins] at hs
    split at hs
    · cases hs; exact ip_isub hq k
    · cases hs
  | imul =>
    simp only [ip_ins] at hs
    split at hs
    · cases hs; exact ip_imul hq k
    · cases hs
  | iand =>
    simp only [ip_ins] at hs
    split at hs
    · cases hs; exact ip_iand hq k
    · cases hs
  | ior =>
    simp only [ip_ins] at hs
    split at hs
    · cases hs; exact ip_ior hq k
    · cases hs
  | ixor =>
    simp only [ip_ins] at hs
    split at hs
    · cases hs; exact ip_ixor hq k
    · cases hs
  | ishl =>
    simp only [ip_ins] at hs
    split at hs
    · cases hs; exact ip_ishl hq k
    · cases hs
  | ishr =>
    simp only [ip_ins] at hs
    split at hs
    · cases hs; exact ip_ishr hq k
    · cases hs
  | ladd =>
    simp only [ip_ins] at hs
    split at hs
    · cases hs; exact ip_ladd hq k
    · cases hs
  | lsub =>
    simp only [ip_ins] at hs
    split at hs
    · cases hs; exact ip_lsub hq k
    · cases hs
  | lmul =>
    simp only [ip_ins] at hs
    split at hs
    · cases hs; exact ip_lmul hq k
    · cases hs
  | land =>
    simp only [ip_ins] at hs
    split at hs
    · cases hs; exact ip_land hq k
    · cases hs
  | lor =>
    simp only [ip_ins] at hs
    split at hs
    · cases hs; exact ip_lor hq k
    · cases hs
  | lxor =>
    simp only [ip_ins] at hs
    split at hs
    · cases hs; exact ip_lxor hq k
    · cases hs
  | lshl =>
    simp only [ip_ins] at hs
    split at hs
    · cases hs; exact ip_lshl hq k
    · cases hs
  | lshr =>
    simp only [ip_ins] at hs
    split at hs
    · cases hs; exact ip_lshr hq k
    · cases hs
  | lushr =>
    simp only [ip_ins] at hs
    split at hs
    · cases hs; exact ip_lushr hq k
    · cases hs
  | lcmp =>
    simp only [ip_ins] at hs
    split at hs
    · cases hs; exact ip_lcmp hq k
    · cases hs
  | ineg =>
    simp only [ip_ins] at hs
    split at hs
    · cases hs; exact ip_ineg hq k
    · cases hs
  | lneg =>
    simp only [ip_ins] at hs
    split at hs
    · cases hs; exact ip_lneg hq k
    · cases hs
  | i2l =>
    simp only [ip_ins] at hs
    split at hs
    · cases hs; exact ip_i2l hq k
    · cases hs
  | l2i =>
    simp only [ip_ins] at hs
    split at hs
    · cases hs; exact ip_l2i hq k
    · cases hs
  | i2b =>
    simp only [ip_ins] at hs
    split at hs
    · cases hs; exact ip_i2b hq k
    · cases hs
  | i2c =>
    simp only [ip_ins] at hs
    split at hs
    · cases hs; exact ip_i2c hq k
    · cases hs
  | iushr =>
    simp only [ip_ins] at hs
    split at hs
    · cases hs; exact ip_iushr hq rfl k
    · cases hs
  | dup =>
    simp only [ip_ins] at hs
    split at hs
    · next v st1 =>
      cases hb : Nat.beq v.category 1 with
      | true => rw [hb] at hs; cases hs; exact ip_dup hq (Nat.eq_of_beq_eq_true hb) k
      | false => rw [hb] at hs; cases hs
    · cases hs
  | pop =>
    simp only [ip_ins] at hs
    split at hs
    · next v st1 =>
      cases hb : Nat.beq v.category 1 with
      | true => rw [hb] at hs; cases hs; exact ip_pop hq (Nat.eq_of_beq_eq_true hb) k
      | false => rw [hb] at hs; cases hs
    · cases hs
  | dup_x1 =>
    simp only [ip_ins] at hs
    split at hs
    · next v w st1 =>
      cases hb : Nat.beq v.category 1 with
      | true =>
        cases hb2 : Nat.beq w.category 1 with
        | true => rw [hb, hb2] at hs; cases hs; exact ip_dup_x1 hq (Nat.eq_of_beq_eq_true hb) (Nat.eq_of_beq_eq_true hb2) k
        | false => rw [hb, hb2] at hs; cases hs
      | false => rw [hb] at hs; cases hs
    · cases hs
  | dup2 =>
    simp only [ip_ins] at hs
    split at hs
    · next v w st1 =>
      cases hb : Nat.beq v.category 1 with
      | true =>
        cases hb2 : Nat.beq w.category 1 with
        | true => rw [hb, hb2] at hs; cases hs; exact ip_dup2_11 hq (Nat.eq_of_beq_eq_true hb) (Nat.eq_of_beq_eq_true hb2) k
        | false => rw [hb, hb2] at hs; cases hs
      | false => rw [hb] at hs; cases hs
    · cases hs
  | goto off =>
    simp only [ip_ins] at hs
    split at hs
    · next t ht => cases hs; exact ip_goto hq ht k
    · cases hs
  | ifCond c off =>
    simp only [ip_ins] at hs
    split at hs
    · next x st1 =>
      split at hs
      · next t ht =>
        cases hb : ip_cnd c x with
        | true =>
          rw [hb] at hs
          cases hs
          cases c with
          | eq => exact ip_if_eq_t hq ht (of_decide_eq_true hb) k
          | ne => exact ip_if_ne_t hq ht (of_decide_eq_true hb) k
          | lt => exact ip_if_lt_t hq ht (of_decide_eq_true hb) k
          | ge => exact ip_if_ge_t hq ht (of_decide_eq_true hb) k
          | gt => exact ip_if_gt_t hq ht (of_decide_eq_true hb) k
          | le => exact ip_if_le_t hq ht (of_decide_eq_true hb) k
        | false =>
          rw [hb] at hs
          cases hs
          cases c with
          | eq => exact ip_if_eq_f hq ht (of_decide_eq_false hb) k
          | ne => exact ip_if_ne_f hq ht (Decidable.not_not.mp (of_decide_eq_false hb)) k
          | lt => exact ip_if_lt_f hq ht (of_decide_eq_false hb) k
          | ge => exact ip_if_ge_f hq ht (of_decide_eq_false hb) k
          | gt => exact ip_if_gt_f hq ht (of_decide_eq_false hb) k
          | le => exact ip_if_le_f hq ht (of_decide_eq_false hb) k
      · cases hs
    · cases hs
  | if_icmp c off =>
    simp only [ip_ins] at hs
    split at hs
    · next y x st1 =>
      split at hs
      · next t ht =>
        cases hb : ip_cmp c x y with
        | true =>
          rw [hb] at hs
          cases hs
          cases c with
          | eq => exact ip_icmp_eq_t hq ht (of_decide_eq_true hb) k
          | ne => exact ip_icmp_ne_t hq ht (of_decide_eq_true hb) k
          | lt => exact ip_icmp_lt_t hq ht (of_decide_eq_true hb) k
          | ge => exact ip_icmp_ge_t hq ht (of_decide_eq_true hb) k
          | gt => exact ip_icmp_gt_t hq ht (of_decide_eq_true hb) k
          | le => exact ip_icmp_le_t hq ht (of_decide_eq_true hb) k
        | false =>
          rw [hb] at hs
          cases hs
          cases c with
          | eq => exact ip_icmp_eq_f hq ht (of_decide_eq_false hb) k
          | ne => exact ip_icmp_ne_f hq ht (Decidable.not_not.mp (of_decide_eq_false hb)) k
          | lt => exact ip_icmp_lt_f hq ht (of_decide_eq_false hb) k
          | ge => exact ip_icmp_ge_f hq ht (of_decide_eq_false hb) k
          | gt => exact ip_icmp_gt_f hq ht (of_decide_eq_false hb) k
          | le => exact ip_icmp_le_f hq ht (of_decide_eq_false hb) k
      · cases hs
    · cases hs
  | getfield i =>
    simp only [ip_ins] at hs
    split at hs
    · next n st1 =>
      split at hs
      · next ci kk ty fin hl =>
        split at hs
        · next cj fs hh =>
          cases hb : Nat.beq ci cj with
          | true =>
            rw [hb] at hs
            have e : ci = cj := Nat.eq_of_beq_eq_true hb
            subst e
            simp only [cond_true] at hs
            split at hs
            · next v hv => cases hs; exact ip_getf hq (hV.2.1 _ (ip_lk_mem hl)).1 hh hv k
            · cases hs
          | false => rw [hb] at hs; cases hs
        · cases hs
      · cases hs
    · cases hs
  | putfield i =>
    simp only [ip_ins] at hs
    split at hs
    · next v n st1 =>
      split at hs
      · next ci kk ty fin hl =>
        split at hs
        · next cj fs hh =>
          cases hb : Nat.beq ci cj && Nat.blt kk fs.length && fits ty v && (!fin || ini) with
          | true =>
            rw [hb] at hs
            simp only [Bool.and_eq_true] at hb
            obtain ⟨⟨⟨b1, b2⟩, b3⟩, b4⟩ := hb
            have e : ci = cj := Nat.eq_of_beq_eq_true b1
            subst e
            cases hs
            have hF := hV.2.1 _ (ip_lk_mem hl)
            cases fin with
            | false => exact ip_putf hq hF.1 hh (Nat.le_of_ble_eq_true b2) b3 k
            | true =>
              have hn : M.1.name = "<init>" := hini (by simpa using b4)
              rcases hF.2 rfl with q | q
              · exact ip_putF hq q hn hh (Nat.le_of_ble_eq_true b2) b3 k
              · exact absurd hn q
          | false => rw [hb] at hs; cases hs
        · cases hs
      · cases hs
    · cases hs
  | new i =>
    simp only [ip_ins] at hs
    split at hs
    · next ci fs hl => cases hs; exact ip_new hq (hV.2.2.1 _ (ip_lk_mem hl)) k
    · cases hs
  | _ => cases hs
theorem ip_stp_ok {l : Launch} {G : ip_G} {M : ip_M} {d : Nat} {σ σ' : ip_K} {r : Option Value × ip_H} {V : ip_V} {ini : Bool} (hV : ip_okV (ip_T G) (ip_C G) M V) (hini : ini = true → M.1.name = "<init>")
    (hs : ip_stp V M.2.2.1 ini σ = some σ') (k : ip_Rn l G M d σ'.1 σ'.2.1 σ'.2.2.1 σ'.2.2.2 r) : ip_Rn l G M d σ.1 σ.2.1 σ.2.2.1 σ.2.2.2 r := by
  obtain ⟨a1, a2, a3, a4⟩ := σ
  obtain ⟨b1, b2, b3, b4⟩ := σ'
  unfold ip_stp at hs
  split at hs
  · next i hi =>
    have hq := hV.1 _ (ip_lk_mem hi)
    exact ip_ins_ok (pc := a1) (pc' := b1) (L := a2) (L' := b2) (st := a3) (st' := b3) (h := a4) (h' := b4) hV hini hq hs k
  · cases hs
theorem ip_sts_ok {l : Launch} {G : ip_G} {M : ip_M} {d : Nat} {r : Option Value × ip_H} {V : ip_V} {ini : Bool} (hV : ip_okV (ip_T G) (ip_C G) M V) (hini : ini = true → M.1.name = "<init>") : ∀ (n : Nat) {σ σ' : ip_K}, ip_sts V M.2.2.1 ini n σ = some σ' → ip_Rn l G M d σ'.1 σ'.2.1 σ'.2.2.1 σ'.2.2.2 r → ip_Rn l G M d σ.1 σ.2.1 σ.2.2.1 σ.2.2.2 r
  | 0, σ, σ', hs, k => by cases hs; exact k
  | n + 1, σ, σ', hs, k => by
    unfold ip_sts at hs
    split at hs
    · next σ1 h1 => exact ip_stp_ok hV hini h1 (ip_sts_ok hV hini n hs k)
    · cases hs
end
