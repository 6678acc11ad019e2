abbrev ip_E : Type := (FieldType × vp_A) ⊕ (Nat × List Value)
abbrev ip_H : Type := List ip_E
abbrev ip_M : Type := MethodName × ByteArray × Nat × Option FieldType
abbrev ip_G : Type := List Cond × List vw_C × va_G × (FieldType → ClassId) × Nat × (Nat → Nat) × (State → Prop)
def ip_T (G : ip_G) : List Cond := G.1
def ip_C (G : ip_G) : List vw_C := G.2.1
def ip_D (G : ip_G) : va_G := G.2.2.1
def ip_A (G : ip_G) : FieldType → ClassId := G.2.2.2.1
def ip_B (G : ip_G) : Nat := G.2.2.2.2.1
def ip_O (G : ip_G) : Nat → Nat := G.2.2.2.2.2.1
def ip_X (G : ip_G) : State → Prop := G.2.2.2.2.2.2
/-- a reference n of the picture: below 32 one of the old cells, else the cell n - 32 behind the base -/
def ip_a (G : ip_G) (n : Nat) : Nat := if n < 32 then ip_O G n else ip_B G + (n - 32)
def ip_v (G : ip_G) (v : Value) : Value := match v with
  | .ref n => .ref (ip_a G n)
  | w => w
def ip_cv (G : ip_G) (e : ip_E) : va_E := match e with
  | .inl a => .inl (ip_A G a.1, a.2)
  | .inr o => .inr (o.1, o.2.map (ip_v G))
def ip_ws (G : ip_G) : Nat → ip_H → va_W
  | _, [] => []
  | b, e :: h => (b, ip_cv G e) :: ip_ws G (b + 1) h
def ip_z (e : ip_E) : Nat := match e with
  | .inl a => a.2.1
  | .inr o => o.2.length
def ip_t (h : ip_H) : Nat := (h.map ip_z).sum
def ip_h (h : ip_H) (n : Nat) : Option ip_E := if n < 32 then none else h[n - 32]?
def ip_hs (h : ip_H) (n : Nat) (e : ip_E) : ip_H := h.set (n - 32) e
theorem ip_v_cat (G : ip_G) (v : Value) : (ip_v G v).category = v.category := by cases v <;> rfl
theorem ip_cats (G : ip_G) (st : List Value) : ((st.map (ip_v G)).map fun v => v.category) = st.map fun v => v.category := by
  rw [List.map_map]
  exact List.map_congr_left (fun v _ => ip_v_cat G v)
theorem ip_ws_get (G : ip_G) : ∀ (h : ip_H) (b k : Nat), (ip_ws G b h)[k]? = (h[k]?).map (fun e => (b + k, ip_cv G e))
  | [], _, _ => rfl
  | e :: h, b, 0 => rfl
  | e :: h, b, k + 1 => by
    show (ip_ws G (b + 1) h)[k]? = _
    rw [ip_ws_get G h (b + 1) k]
    show _ = (h[k]?).map _
    rw [show b + 1 + k = b + (k + 1) by omega]
theorem ip_ws_set (G : ip_G) (e : ip_E) : ∀ (h : ip_H) (b k : Nat), ip_ws G b (h.set k e) = (ip_ws G b h).set k (b + k, ip_cv G e)
  | [], _, _ => rfl
  | x :: h, b, 0 => rfl
  | x :: h, b, k + 1 => by
    show (b, ip_cv G x) :: ip_ws G (b + 1) (h.set k e) = (b, ip_cv G x) :: (ip_ws G (b + 1) h).set k _
    rw [ip_ws_set G e h (b + 1) k, show b + 1 + k = b + (k + 1) by omega]
theorem ip_ws_push (G : ip_G) (e : ip_E) : ∀ (h : ip_H) (b : Nat), ip_ws G b (h ++ [e]) = ip_ws G b h ++ [(b + h.length, ip_cv G e)]
  | [], _ => rfl
  | x :: h, b => by
    show (b, ip_cv G x) :: ip_ws G (b + 1) (h ++ [e]) = (b, ip_cv G x) :: (ip_ws G (b + 1) h ++ [(b + (h.length + 1), ip_cv G e)])
    rw [ip_ws_push G e h (b + 1), show b + 1 + h.length = b + (h.length + 1) by omega]
theorem ip_ws_at (G : ip_G) {h : ip_H} {n : Nat} {e : ip_E} (hh : ip_h h n = some e) : (ip_ws G (ip_B G) h)[n - 32]? = some (ip_a G n, ip_cv G e) := by
  unfold ip_h at hh
  split at hh
  · cases hh
  · next hn =>
    rw [ip_ws_get, hh]
    show some (ip_B G + (n - 32), _) = some (ip_a G n, _)
    unfold ip_a
    rw [if_neg hn]
theorem ip_ws_D (G : ip_G) (h : ip_H) (b : Nat) : va_D (fun q => b ≤ q) (ip_ws G b h) := by
  refine ⟨fun i j p q hi hj e => ?_, fun k q hk => ?_⟩
  · rw [ip_ws_get] at hi hj
    obtain ⟨x, -, rfl⟩ := Option.map_eq_some_iff.mp hi
    obtain ⟨y, -, rfl⟩ := Option.map_eq_some_iff.mp hj
    exact Nat.add_left_cancel e
  · rw [ip_ws_get] at hk
    obtain ⟨x, -, rfl⟩ := Option.map_eq_some_iff.mp hk
    exact Nat.le_add_right b k
theorem ip_hs_len (h : ip_H) (n : Nat) (e : ip_E) : (ip_hs h n e).length = h.length := List.length_set
theorem ip_t_set : ∀ (h : ip_H) (k : Nat) (e x : ip_E), h[k]? = some x → ip_z e = ip_z x → ip_t (h.set k e) = ip_t h
  | [], _, _, _, h, _ => by simp at h
  | y :: h, 0, e, x, hx, hz => by
    have hx : y = x := Option.some.inj hx
    subst hx
    show ip_z e + _ = ip_z y + _
    rw [hz]
  | y :: h, k + 1, e, x, hx, hz => by
    show ip_z y + ip_t (h.set k e) = ip_z y + ip_t h
    rw [ip_t_set h k e x hx hz]
theorem ip_hs_t {h : ip_H} {n : Nat} {e x : ip_E} (hx : ip_h h n = some x) (hz : ip_z e = ip_z x) : ip_t (ip_hs h n e) = ip_t h := by
  unfold ip_h at hx
  split at hx
  · cases hx
  · exact ip_t_set h _ e x hx hz
theorem ip_t_push (h : ip_H) (e : ip_E) : ip_t (h ++ [e]) = ip_t h + ip_z e := by
  unfold ip_t
  rw [List.map_append, List.sum_append]
  simp
def ip_ty (G : ip_G) : List (ClassId × FieldType) := [(ip_A G .int, .int), (ip_A G .byte, .byte), (ip_A G .boolean, .boolean), (ip_A G .long, .long)]
def ip_U (G : ip_G) (U : State) : Prop := ip_B G ≤ U.heap.size ∧ va_K (ip_D G) (ip_C G) (ip_ty G) U ∧ ip_X G U
def ip_mv (G : ip_G) : Prop := ∀ U U' : State, (U.vm = U'.vm ∨ U.WarmedH U'.vm) → (∀ q : Nat, q < ip_B G → U'.heap[q]? = U.heap[q]?) → ip_X G U → ip_X G U'
def ip_Cx (G : ip_G) (M : ip_M) (p : Program) (s : State) (m : MethodId) (args : Array Value) (meth : Method) (c : Code) : Prop :=
  p.tables.exec = Jvm.exec ∧ c.code = M.2.1 ∧ meth.sig.returnType = M.2.2.2 ∧ c.maxLocals = M.2.2.1 ∧ s.vm.findClass M.1.cls = some m.cls ∧ (∀ w ∈ ip_T G, w.before args s = true) ∧ meth.locks = false ∧ (M.1.name = "<init>" → meth.name = "<init>") ∧ ip_U G s
def ip_St (G : ip_G) (h : ip_H) (H : Heap) : Prop := H.size = ip_B G + h.length ∧ va_P (ip_D G) (ip_C G) (ip_ws G (ip_B G) h) H
def ip_ri (v : Option Value) : Instr := match v with
  | none => .return_
  | some (.int _) => .ireturn
  | some (.long _) => .lreturn
  | some _ => .areturn
def ip_L (G : ip_G) (ls : Array Slot) (n : Nat) (L : List (Option Value)) : Prop := ls.size = n ∧ lv_wf ls ∧ ∀ (i : Nat) (v : Value), L[i]? = some (some v) → ls[i]? = some (.val (ip_v G v))
abbrev ip_S (G : ip_G) (s : State) (H : Heap) (locs : List Loc) : Prop := va_S (fun q => ip_B G ≤ q) s.heap H locs
def ip_Rn (l : Launch) (G : ip_G) (M : ip_M) (d pc : Nat) (L : List (Option Value)) (st : List Value) (h : ip_H) (r : Option Value × ip_H) : Prop :=
  (h.length ≤ r.2.length ∧ ip_t h ≤ ip_t r.2) ∧
  ∀ (p : Program) (e : Env) (R : Room) (s : State) (m : MethodId) (args : Array Value) (below : List Frame) (meth : Method) (c : Code) (Q : State → Prop) (H : Heap) (locs : List Loc) (cells slots : Nat) (ls : Array Slot),
    ip_Cx G M p s m args meth c → d ≤ R.frames → 41 * d ≤ R.locals → cells + r.2.length ≤ R.cells + h.length → slots + ip_t r.2 ≤ R.slots + ip_t h →
    ip_L G ls M.2.2.1 L → ip_St G h H → ip_S G s H locs →
    (∀ (pc' : Nat) (ls' : Array Slot) (H' : Heap) (locs' : List Loc), decode M.2.1 pc' = .ok (ip_ri r.1, 1) → ip_St G r.2 H' → ip_S G s H' locs' →
      W p l e R s m args below meth c H' locs' (cells + (r.2.length - h.length)) (slots + (ip_t r.2 - ip_t h)) Q (F0 m pc' ls' (r.1.toList.map (ip_v G)))) →
    W p l e R s m args below meth c H locs cells slots Q (F0 m pc ls (st.map (ip_v G)))
/-! the words of the picture's local variables -/
def ip_lv (G : ip_G) : Nat → List (Option Value) → List (Nat × Value)
  | _, [] => []
  | i, none :: L => ip_lv G (i + 1) L
  | i, some v :: L => (i, ip_v G v) :: ip_lv G (i + 1) L
theorem ip_lv_mem (G : ip_G) : ∀ (L : List (Option Value)) (b : Nat) (q : Nat × Value), q ∈ ip_lv G b L → ∃ (i : Nat) (v : Value), L[i]? = some (some v) ∧ q = (b + i, ip_v G v)
  | [], _, q, h => by simp [ip_lv] at h
  | none :: L, b, q, h => by
    obtain ⟨i, v, h1, h2⟩ := ip_lv_mem G L (b + 1) q h
    exact ⟨i + 1, v, h1, by rw [h2, show b + 1 + i = b + (i + 1) by omega]⟩
  | some w :: L, b, q, h => by
    rcases List.mem_cons.mp h with h | h
    · exact ⟨0, w, rfl, h⟩
    · obtain ⟨i, v, h1, h2⟩ := ip_lv_mem G L (b + 1) q h
      exact ⟨i + 1, v, h1, by rw [h2, show b + 1 + i = b + (i + 1) by omega]⟩
theorem ip_lv_in (G : ip_G) : ∀ (L : List (Option Value)) (b i : Nat) (v : Value), L[i]? = some (some v) → (b + i, ip_v G v) ∈ ip_lv G b L
  | [], _, i, v, h => by simp at h
  | none :: L, b, 0, v, h => by simp at h
  | none :: L, b, i + 1, v, h => by
    have := ip_lv_in G L (b + 1) i v h
    rw [show b + 1 + i = b + (i + 1) by omega] at this
    exact this
  | some w :: L, b, 0, v, h => by
    have : w = v := by simpa using h
    subst this
    exact List.mem_cons_self
  | some w :: L, b, i + 1, v, h => by
    have := ip_lv_in G L (b + 1) i v h
    rw [show b + 1 + i = b + (i + 1) by omega] at this
    exact List.mem_cons_of_mem _ this
theorem ip_L.has {G : ip_G} {ls : Array Slot} {n : Nat} {L : List (Option Value)} (h : ip_L G ls n L) : lv_has ls n (ip_lv G 0 L) := by
  refine ⟨h.1, h.2.1, fun q hq => ?_⟩
  obtain ⟨i, v, h1, rfl⟩ := ip_lv_mem G L 0 q hq
  rw [Nat.zero_add]
  exact h.2.2 i v h1
def ip_cl (L : List (Option Value)) (i : Nat) : List (Option Value) := match i with
  | 0 => L
  | j + 1 => match L[j]? with
    | some (some v) => if v.category = 2 then L.set j none else L
    | _ => L
def ip_s1 (L : List (Option Value)) (i : Nat) (v : Value) : List (Option Value) := (ip_cl L i).set i (some v)
def ip_s2 (L : List (Option Value)) (i : Nat) (v : Value) : List (Option Value) := ((ip_cl L i).set i (some v)).set (i + 1) none
theorem ip_cl_get {L : List (Option Value)} {i j : Nat} {v : Value} (h : (ip_cl L i)[j]? = some (some v)) : L[j]? = some (some v) ∧ ¬ (j + 1 = i ∧ v.category = 2) := by
  cases i with
  | zero => exact ⟨h, fun q => by omega⟩
  | succ i =>
    unfold ip_cl at h
    cases hL : L[i]? with
    | none =>
      simp only [hL] at h
      refine ⟨h, fun q => ?_⟩
      obtain ⟨q1, q2⟩ := q
      have : j = i := by omega
      subst this
      rw [hL] at h
      cases h
    | some o =>
      cases o with
      | none =>
        simp only [hL] at h
        refine ⟨h, fun q => ?_⟩
        obtain ⟨q1, q2⟩ := q
        have : j = i := by omega
        subst this
        rw [hL] at h
        cases h
      | some w =>
        simp only [hL] at h
        by_cases hw : w.category = 2
        · rw [if_pos hw] at h
          by_cases hj : j = i
          · subst hj
            rw [List.getElem?_set] at h
            simp at h
          · rw [List.getElem?_set_ne (Ne.symm hj)] at h
            exact ⟨h, fun q => hj (by omega)⟩
        · rw [if_neg hw] at h
          refine ⟨h, fun q => ?_⟩
          obtain ⟨q1, q2⟩ := q
          have : j = i := by omega
          subst this
          rw [hL] at h
          have : w = v := by simpa using h
          subst this
          exact hw q2
theorem ip_L_s1 {G : ip_G} {ls' : Array Slot} {n i : Nat} {L : List (Option Value)} {v w : Value} (hw : w = ip_v G v)
    (h : lv_has ls' n ((i, w) :: (ip_lv G 0 L).filter (fun q => !(q.1 == i) && !(q.1 + 1 == i && q.2.category == 2)))) : ip_L G ls' n (ip_s1 L i v) := by
  refine ⟨h.1, h.2.1, fun j x hj => ?_⟩
  unfold ip_s1 at hj
  by_cases hji : j = i
  · subst hji
    rw [List.getElem?_set] at hj
    have hx : v = x := by
      split at hj
      · split at hj
        · simpa using hj
        · cases hj
      · next hne => exact absurd rfl hne
    subst hx
    rw [← hw]
    exact h.2.2 (j, w) List.mem_cons_self
  · rw [List.getElem?_set_ne (Ne.symm hji)] at hj
    obtain ⟨h1, h2⟩ := ip_cl_get hj
    have hm := ip_lv_in G L 0 j x h1
    rw [Nat.zero_add] at hm
    refine h.2.2 (j, ip_v G x) (List.mem_cons_of_mem _ (List.mem_filter.mpr ⟨hm, ?_⟩))
    simp only [ip_v_cat, Bool.and_eq_true, Bool.not_eq_true', beq_eq_false_iff_ne, ne_eq, Bool.and_eq_false_iff]
    refine ⟨hji, ?_⟩
    by_cases q1 : j + 1 = i
    · exact Or.inr (fun q2 => h2 ⟨q1, q2⟩)
    · exact Or.inl q1
theorem ip_L_s2 {G : ip_G} {ls' : Array Slot} {n i : Nat} {L : List (Option Value)} {v w : Value} (hw : w = ip_v G v)
    (h : lv_has ls' n ((i, w) :: (ip_lv G 0 L).filter (fun q => !(q.1 == i) && (!(q.1 == i + 1) && !(q.1 + 1 == i && q.2.category == 2))))) : ip_L G ls' n (ip_s2 L i v) := by
  refine ⟨h.1, h.2.1, fun j x hj => ?_⟩
  unfold ip_s2 at hj
  by_cases hj1 : j = i + 1
  · subst hj1
    rw [List.getElem?_set] at hj
    simp at hj
  · rw [List.getElem?_set_ne (Ne.symm hj1)] at hj
    by_cases hji : j = i
    · subst hji
      rw [List.getElem?_set] at hj
      have hx : v = x := by
        split at hj
        · split at hj
          · simpa using hj
          · cases hj
        · next hne => exact absurd rfl hne
      subst hx
      rw [← hw]
      exact h.2.2 (j, w) List.mem_cons_self
    · rw [List.getElem?_set_ne (Ne.symm hji)] at hj
      obtain ⟨h1, h2⟩ := ip_cl_get hj
      have hm := ip_lv_in G L 0 j x h1
      rw [Nat.zero_add] at hm
      refine h.2.2 (j, ip_v G x) (List.mem_cons_of_mem _ (List.mem_filter.mpr ⟨hm, ?_⟩))
      simp only [ip_v_cat, Bool.and_eq_true, Bool.not_eq_true', beq_eq_false_iff_ne, ne_eq, Bool.and_eq_false_iff]
      refine ⟨hji, hj1, ?_⟩
      by_cases q1 : j + 1 = i
      · exact Or.inr (fun q2 => h2 ⟨q1, q2⟩)
      · exact Or.inl q1
