/-! a call has one end: what two contracts say of it holds together -/
section ONE
variable {s : State} {below : List Frame} {v v' : Option Value} {o : Outcome}
theorem en_len (h : Ended s below (.returned v)) : s.frames.length = below.length := by
  cases below with
  | nil =>
    obtain ⟨-, e⟩ := h
    rw [e]
  | cons f r =>
    cases f with
    | java g =>
      obtain ⟨c, i, len, -, -, e⟩ := h
      rw [e]
      rfl
    | native g =>
      have e : s.frames = .native { g with awaiting := false, answer := some (.returned v) } :: r := h
      rw [e]
      rfl
    | proc g =>
      have e : s.frames = .proc { g with awaiting := false, answer := some (.returned v) } :: r := h
      rw [e]
      rfl
    | _ =>
      obtain ⟨-, e⟩ := h
      rw [e]
theorem en_not (h : Ended s below o) : ¬ Within s below := by
  intro ⟨above, h1, h2, h3⟩
  cases o with
  | threw a =>
    have e : s.frames = .throwing a :: below := h
    rw [e] at h1
    have : above = [.throwing a] := (List.append_cancel_right (as := above) (bs := below) (cs := [.throwing a]) h1.symm)
    exact h3 a this
  | returned v =>
    have e := en_len h
    rw [h1, List.length_append] at e
    have : above.length = 0 := by omega
    exact h2 (List.eq_nil_of_length_eq_zero this)
theorem en_v (h : Ended s below (.returned v)) (h' : Ended s below (.returned v')) : v = v' := by
  cases below with
  | nil =>
    obtain ⟨e1, -⟩ := h
    obtain ⟨e2, -⟩ := h'
    rw [e1, e2]
  | cons f r =>
    cases f with
    | java g =>
      obtain ⟨c, i, len, c1, c2, e⟩ := h
      obtain ⟨c', i', len', d1, d2, e'⟩ := h'
      have ec : c = c' := Option.some.inj (c1.symm.trans d1)
      subst ec
      have el : (i, len) = (i', len') := Except.ok.inj (c2.symm.trans d2)
      have e3 := (List.cons.inj (e.symm.trans e')).1
      have e4 := Frame.java.inj e3
      have e5 := congrArg JFrame.stack e4
      have e6 : v.toList = v'.toList := List.append_cancel_right e5
      cases v <;> cases v' <;> simp_all
    | native g =>
      have e : s.frames = .native { g with awaiting := false, answer := some (.returned v) } :: r := h
      have e' : s.frames = .native { g with awaiting := false, answer := some (.returned v') } :: r := h'
      have e3 := (List.cons.inj (e.symm.trans e')).1
      injection e3 with e4
      injection e4
      simp_all
    | proc g =>
      have e : s.frames = .proc { g with awaiting := false, answer := some (.returned v) } :: r := h
      have e' : s.frames = .proc { g with awaiting := false, answer := some (.returned v') } :: r := h'
      have e3 := (List.cons.inj (e.symm.trans e')).1
      injection e3 with e4
      injection e4
      simp_all
    | _ =>
      obtain ⟨e1, -⟩ := h
      obtain ⟨e2, -⟩ := h'
      rw [e1, e2]
end ONE
section TWO
variable {l : Launch} {G : ip_G} {M : ip_M} {d : Nat} {As : List Value} {h : ip_H} {r r' : Option Value × ip_H}
/-- both ends can be one -/
def ip_two (G : ip_G) (r r' : Option Value × ip_H) : Prop := r.1.map (ip_v G) = r'.1.map (ip_v G) ∧ ∃ H, ip_St G r.2 H ∧ ip_St G r'.2 H
theorem met_two (h0 : ip_RnM l G M d As h r) (h1 : ip_RnM l G M d As h r') (el : r'.2.length = r.2.length) (et : ip_t r'.2 = ip_t r.2) : ip_two G r r' ∨ ∀ r'' : Option Value × ip_H, r''.2.length = r.2.length → ip_t r''.2 = ip_t r.2 → ip_RnM l G M d As h r'' := by
  by_cases z : ip_two G r r'
  · exact Or.inl z
  · right
    intro r'' el2 et2
    obtain ⟨s0, m0⟩ := h0
    obtain ⟨s1, m1⟩ := h1
    have er : ip_rm d h r' = ip_rm d h r := by unfold ip_rm; rw [el, et]
    have er2 : ip_rm d h r'' = ip_rm d h r := by unfold ip_rm; rw [el2, et2]
    refine ⟨by rw [el2, et2]; exact s0, ?_⟩
    rw [er] at m1
    rw [er2]
    intro p e ha hc hk s m args below hf hap hP hK
    obtain ⟨n0, o0, w0, -, e0, q0, -⟩ := m0 p e ha hc hk s m args below hf hap hP hK
    obtain ⟨n1, o1, w1, -, e1, q1, -⟩ := m1 p e ha hc hk s m args below hf hap hP hK
    have en : n0 = n1 := by
      rcases Nat.lt_trichotomy n0 n1 with q | q | q
      · exact absurd (w1 n0 q) (en_not e0)
      · exact q
      · exact absurd (w0 n1 q) (en_not e1)
    subst en
    obtain ⟨x0, y0, -⟩ := q0
    obtain ⟨x1, y1, -⟩ := q1
    subst x0 x1
    exact absurd ⟨en_v e0 e1, _, y0, y1⟩ z
end TWO
