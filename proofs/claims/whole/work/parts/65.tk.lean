/-! what the reference sees at a word's place, by the word's kind -/
def okn (k : Int32) : Nat := if k = 3 then 1 else if k = 4 then 2 else if k = 124 then 3 else if k = 94 then 4 else if k = 38 then 5 else if k = 5 then 6 else if k = 6 then 7 else if k = 60 then 8 else if k = 7 then 9 else if k = 62 then 10 else if k = 8 then 11 else if k = 11 then 12 else if k = 12 then 13 else if k = 43 then 14 else if k = 45 then 15 else if k = 42 then 16 else if k = 47 then 17 else if k = 37 then 18 else 0
def om (a x : Int32) : Nat := if pr a x then (if a = 124 then 1 else if a = 38 then 2 else if a = 61 then 6 else if a = 33 then 7 else if a = 60 then (if x = 60 then 12 else 9) else if x = 62 then 13 else 11) else (if a = 124 then 3 else if a = 94 then 4 else if a = 38 then 5 else if a = 60 then 8 else if a = 62 then 10 else if a = 43 then 14 else if a = 45 then 15 else if a = 42 then 16 else if a = 47 then 17 else if a = 37 then 18 else 0)
def rk (o : Nat) : Nat := [0, 1, 2, 3, 4, 5, 6, 6, 7, 7, 7, 7, 8, 8, 9, 9, 10, 10, 10].getD o 0
def pb (a x : Int32) : Bool := (a == 124 && x == 124) || (a == 38 && x == 38) || ((a == 61 || a == 33 || a == 60 || a == 62) && x == 61) || (a == 60 && x == 60) || (a == 62 && x == 62)
theorem pb_iff (a x : Int32) : pb a x = true ↔ pr a x := by
  unfold pb pr
  simp only [Bool.or_eq_true, Bool.and_eq_true, beq_iff_eq, or_assoc]
def twB (a x y : Int32) : Bool := decide (om a x = okn (sk a y)) && (pb a x || decide (sk a y = a)) && (! pb a x || (decide (2 < sk a y) && decide (sk a y < 13)))
theorem two_all : ((List.range 127).all fun a => (List.range 127).all fun x => (decide (a < 32) && decide (¬ a = 9) && decide (¬ a = 10)) || twB (nI a) (nI x) (nI x)) = true := by decide +kernel
theorem two_end : ((List.range 127).all fun a => (decide (a < 32) && decide (¬ a = 9) && decide (¬ a = 10)) || twB (nI a) (-1) 0) = true := by decide +kernel
theorem twB_of {a x y : Int32} (h : twB a x y = true) : om a x = okn (sk a y) ∧ (¬ pr a x → sk a y = a) ∧ (pr a x → 2 < sk a y ∧ sk a y < 13) := by
  unfold twB at h
  rw [Bool.and_eq_true, Bool.and_eq_true] at h
  obtain ⟨⟨h1, h2⟩, h3⟩ := h
  refine ⟨of_decide_eq_true h1, fun z => ?_, fun z => ?_⟩
  · rw [Bool.or_eq_true] at h2
    exact h2.elim (fun q => absurd ((pb_iff a x).mp q) z) of_decide_eq_true
  · rw [Bool.or_eq_true, Bool.and_eq_true] at h3
    refine h3.elim (fun q => ?_) (fun q => ⟨of_decide_eq_true q.1, of_decide_eq_true q.2⟩)
    rw [(pb_iff a x).mpr z] at q
    exact absurd q (by decide)
theorem isn_all : ∀ a, a < 127 → isn (nI a) → (om (nI a) (-1) = 0 ∧ (∀ x, x < 127 → om (nI a) (nI x) = 0)) := by decide +kernel
theorem two_nt {a : Nat} (h : a = 9 ∨ a = 10 ∨ 32 ≤ a) : (decide (a < 32) && decide (¬ a = 9) && decide (¬ a = 10)) = false := by
  rcases h with h | h | h
  · subst h; rfl
  · subst h; rfl
  · rw [decide_eq_false (by omega)]; rfl
theorem tx_of {c : Int32} (h : tx c) : ∃ a, (a = 9 ∨ a = 10 ∨ 32 ≤ a) ∧ a < 127 ∧ c = nI a := by
  rcases h with ⟨h1, h2⟩ | h | h
  · have q1 := Int32.le_iff_toInt_le.mp h1
    have q0 : (32 : Int32).toInt = 32 := rfl
    obtain ⟨j, hj, e⟩ := nI_of2 (x := c) (M := 126) (n := 126) rfl (fun z => by
      have := Int32.lt_iff_toInt_lt.mp z
      have q3 : (0 : Int32).toInt = 0 := rfl
      omega) h2
    refine ⟨j, ?_, by omega, e⟩
    rw [e, nI_toInt (by omega), q0] at q1
    omega
  · exact ⟨9, Or.inl rfl, by decide, h⟩
  · exact ⟨10, Or.inr (Or.inl rfl), by decide, h⟩
theorem wk_cases (s : List Int32) : wk s = 1 ∨ ∃ k, k < 13 ∧ wk s = nI (200 + k) := by
  rcases wk_eq s with ⟨e, -⟩ | ⟨e, -⟩ | ⟨e, -⟩ | ⟨e, -⟩ | ⟨e, -⟩ | ⟨e, -⟩ | ⟨e, -⟩ | ⟨e, -⟩ | ⟨e, -⟩ | ⟨e, -⟩ | ⟨e, -⟩ | ⟨e, -⟩ | ⟨e, -⟩ | ⟨e, -⟩
  · exact Or.inr ⟨0, by decide, e⟩
  · exact Or.inr ⟨1, by decide, e⟩
  · exact Or.inr ⟨2, by decide, e⟩
  · exact Or.inr ⟨3, by decide, e⟩
  · exact Or.inr ⟨4, by decide, e⟩
  · exact Or.inr ⟨5, by decide, e⟩
  · exact Or.inr ⟨6, by decide, e⟩
  · exact Or.inr ⟨7, by decide, e⟩
  · exact Or.inr ⟨8, by decide, e⟩
  · exact Or.inr ⟨9, by decide, e⟩
  · exact Or.inr ⟨10, by decide, e⟩
  · exact Or.inr ⟨11, by decide, e⟩
  · exact Or.inr ⟨12, by decide, e⟩
  · exact Or.inl e
section TK
variable {b : Nat → Int32} {t p : Nat}
/-- a word's kind by what stands at its place -/
theorem tk_all (htx : ∀ k, k < t → tx (b k)) (hp : p ≤ t) :
    (p = t ∧ tk b t p = 0 ∧ te b t p = p ∧ lk b t p = -1) ∨
    (p < t ∧ isd (b p) ∧ lk b t p = b p ∧ tk b t p = 2 ∧ te b t p = re pd b t p) ∨
    (p < t ∧ isl (b p) ∧ lk b t p = b p ∧ tk b t p = wk (wd b p (we b t p)) ∧ te b t p = we b t p ∧ p < we b t p) ∨
    (p < t ∧ ¬ isn (b p) ∧ lk b t p = b p ∧ om (lk b t p) (lk b t (p + 1)) = okn (tk b t p) ∧ (¬ pr (lk b t p) (lk b t (p + 1)) → tk b t p = b p ∧ te b t p = p + 1) ∧ (pr (lk b t p) (lk b t (p + 1)) → 2 < tk b t p ∧ tk b t p < 13 ∧ te b t p = p + 2)) := by
  by_cases q : p < t
  · right
    by_cases qd : isd (b p)
    · left
      refine ⟨q, qd, lk_in q, ?_, ?_⟩
      · unfold tk; rw [if_pos q, if_pos qd]
      · unfold te; rw [if_pos q, if_pos qd]
    · right
      by_cases ql : isl (b p)
      · left
        have e : we b t p = re pn b t p := by unfold we; rw [lk_in q, if_pos ql]
        refine ⟨q, ql, lk_in q, ?_, ?_, ?_⟩
        · unfold tk; rw [if_pos q, if_neg qd, if_pos (Or.inl ql), e]
        · unfold te; rw [if_pos q, if_neg qd, if_pos (Or.inl ql), e]
        · rw [e]; exact re_gt q (decide_eq_true (Or.inl ql))
      · right
        have qn : ¬ isn (b p) := fun z => z.elim ql qd
        have e1 : tk b t p = sk (b p) (nx b t p) := by unfold tk; rw [if_pos q, if_neg qd, if_neg qn]
        have e2 : te b t p = if sk (b p) (nx b t p) = b p then p + 1 else p + 2 := by unfold te; rw [if_pos q, if_neg qd, if_neg qn]
        obtain ⟨a, ha0, ha, ea⟩ := tx_of (htx p q)
        have h2 : twB (b p) (lk b t (p + 1)) (nx b t p) = true := by
          unfold nx
          by_cases q1 : p + 1 < t
          · rw [if_pos q1, lk_in q1]
            obtain ⟨x, hx0, hx, ex⟩ := tx_of (htx _ q1)
            rw [ea, ex]
            have := List.all_eq_true.mp (List.all_eq_true.mp two_all a (List.mem_range.mpr ha)) x (List.mem_range.mpr hx)
            rw [two_nt ha0, Bool.false_or] at this
            exact this
          · rw [if_neg q1, lk_end q1, ea]
            have := List.all_eq_true.mp two_end a (List.mem_range.mpr ha)
            rw [two_nt ha0, Bool.false_or] at this
            exact this
        have h2 := twB_of h2
        rw [← e1] at h2
        refine ⟨q, qn, lk_in q, ?_, fun z => ?_, fun z => ?_⟩
        · rw [lk_in q]; exact h2.1
        · rw [lk_in q] at z
          have := h2.2.1 z
          refine ⟨this, ?_⟩
          rw [e2, ← e1, if_pos this]
        · rw [lk_in q] at z
          have := h2.2.2 z
          refine ⟨this.1, this.2, ?_⟩
          rw [e2, ← e1, if_neg]
          intro y
          rcases z with z | z | z | z | z
          · rw [y, z.1] at this; exact absurd this.2 (by decide)
          · rw [y, z.1] at this; exact absurd this.2 (by decide)
          · rcases z.1 with z | z | z | z <;> (rw [y, z] at this; exact absurd this.2 (by decide))
          · rw [y, z.1] at this; exact absurd this.2 (by decide)
          · rw [y, z.1] at this; exact absurd this.2 (by decide)
  · left
    refine ⟨by omega, ?_, ?_, lk_end q⟩
    · unfold tk; rw [if_neg q]
    · unfold te; rw [if_neg q]
theorem isn_c {c : Int32} (a : Nat) (e : c = nI a) : True := trivial
theorem tk_sg (htx : ∀ k, k < t → tx (b k)) (hp : p ≤ t) {c : Int32} (h1 : ¬ isn c) (h2 : 12 < c) (h3 : c < 127) : sg b t p c ↔ tk b t p = c := by
  have n2 : ¬ c = 2 := fun z => by rw [z] at h2; exact absurd h2 (by decide)
  have n0 : ¬ c = 0 := fun z => by rw [z] at h2; exact absurd h2 (by decide)
  have nm : ¬ c = -1 := fun z => by rw [z] at h2; exact absurd h2 (by decide)
  rcases tk_all htx hp with ⟨-, e, -, el⟩ | ⟨-, hd, el, e, -⟩ | ⟨-, hl, el, e, -, -⟩ | ⟨-, hn, el, -, a1, a2⟩
  · rw [e]
    exact ⟨fun z => absurd (z.1.symm.trans el) nm, fun z => absurd z.symm n0⟩
  · rw [e]
    refine ⟨fun z => absurd (Or.inr ?_) h1, fun z => absurd z.symm n2⟩
    rw [← z.1, el]
    exact hd
  · rw [e]
    refine ⟨fun z => absurd (Or.inl ?_) h1, fun z => ?_⟩
    · rw [← z.1, el]
      exact hl
    · rcases wk_cases (wd b p (we b t p)) with w1 | ⟨k, hk, w1⟩
      · rw [w1] at z
        rw [← z] at h2
        exact absurd h2 (by decide)
      · rw [w1] at z
        rw [← z] at h3
        exact absurd h3 (nI_nlt (a := 200 + k) (b := 127) (by omega) (by omega))
  · constructor
    · intro z
      rw [(a1 z.2).1, ← el]
      exact z.1
    · intro z
      by_cases q : pr (lk b t p) (lk b t (p + 1))
      · have := (a2 q).2.1
        rw [z] at this
        have q1 := Int32.lt_iff_toInt_lt.mp h2
        have q2 := Int32.lt_iff_toInt_lt.mp this
        have q3 : (12 : Int32).toInt = 12 := rfl
        have q4 : (13 : Int32).toInt = 13 := rfl
        omega
      · exact ⟨by rw [el, ← (a1 q).1, z], q⟩
theorem tk_d (htx : ∀ k, k < t → tx (b k)) (hp : p ≤ t) : isd (lk b t p) ↔ tk b t p = 2 := by
  rcases tk_all htx hp with ⟨-, e, -, el⟩ | ⟨-, hd, el, e, -⟩ | ⟨-, hl, el, e, -, -⟩ | ⟨hpt, hn, el, -, a1, a2⟩
  · rw [e, el]; exact ⟨fun z => absurd z isd_m1, fun z => absurd z (by decide)⟩
  · rw [e, el]; exact ⟨fun _ => rfl, fun _ => hd⟩
  · rw [e, el]
    constructor
    · intro z
      exfalso
      rcases hl with h | h | h
      · exact absurd (Int32.le_trans h.1 z.2) (by decide)
      · exact absurd (Int32.le_trans h.1 z.2) (by decide)
      · rw [h] at z; exact absurd z (by decide)
    · intro z
      rcases wk_cases (wd b p (we b t p)) with w1 | ⟨k, hk, w1⟩
      · rw [w1] at z; exact absurd z (by decide)
      · rw [w1] at z
        exact absurd ((nI_eq (a := 200 + k) (b := 2) (by omega) (by omega)).mp z) (by omega)
  · rw [el]
    refine ⟨fun z => absurd (Or.inr z) hn, fun z => ?_⟩
    by_cases q : pr (lk b t p) (lk b t (p + 1))
    · have := (a2 q).1
      rw [z] at this
      exact absurd this (by decide)
    · have := (a1 q).1
      obtain ⟨a, ha0, ha, ea⟩ := tx_of (htx p hpt)
      rw [z, ea] at this
      exact absurd ((nI_eq (a := 2) (b := a) (by omega) (by omega)).mp this) (by omega)
theorem tk_op (htx : ∀ k, k < t → tx (b k)) (hp : p ≤ t) : om (lk b t p) (lk b t (p + 1)) = okn (tk b t p) := by
  have nm : ∀ q, isn (b p) → p < t → om (b p) (lk b t q) = 0 := fun q h hpt => by
    obtain ⟨a, ha0, ha, ea⟩ := tx_of (htx p hpt)
    rw [ea] at h ⊢
    by_cases q1 : q < t
    · rw [lk_in q1]
      obtain ⟨x, hx0, hx, ex⟩ := tx_of (htx _ q1)
      rw [ex]
      exact (isn_all a ha h).2 x hx
    · rw [lk_end q1]
      exact (isn_all a ha h).1
  rcases tk_all htx hp with ⟨e0, e, -, el⟩ | ⟨hpt, hd, el, e, -⟩ | ⟨hpt, hl, el, e, -, -⟩ | ⟨-, hn, el, h, -, -⟩
  · rw [e, el, lk_end (by omega)]; decide
  · rw [e, el, nm _ (Or.inr hd) hpt]; decide
  · rw [e, el, nm _ (Or.inl hl) hpt]
    rcases wk_cases (wd b p (we b t p)) with w1 | ⟨k, hk, w1⟩
    · rw [w1]; decide
    · rw [w1]
      exact (show ∀ k, k < 13 → 0 = okn (nI (200 + k)) by decide) k hk
  · exact h
theorem tk_w (htx : ∀ k, k < t → tx (b k)) (hp : p ≤ t) {K : List Int32} {c : Int32} (hK : ∀ s : List Int32, wk s = c ↔ s = K) (h0 : ¬ K = []) (hc : 127 < c) : wd b p (we b t p) = K ↔ tk b t p = c := by
  have emp : ¬ isl (lk b t p) → ¬ wd b p (we b t p) = K := fun h z => by
    have : we b t p = p := by unfold we; rw [if_neg h]
    rw [this] at z
    apply h0
    rw [← z]
    unfold wd
    rw [Nat.sub_self]
    rfl
  rcases tk_all htx hp with ⟨-, e, -, el⟩ | ⟨-, hd, el, e, -⟩ | ⟨-, hl, el, e, -, -⟩ | ⟨hpt, hn, el, -, a1, a2⟩
  · rw [e]
    exact ⟨fun z => absurd z (emp (by rw [el]; decide)), fun z => by rw [← z] at hc; exact absurd hc (by decide)⟩
  · rw [e]
    refine ⟨fun z => absurd z (emp (fun y => ?_)), fun z => by rw [← z] at hc; exact absurd hc (by decide)⟩
    rw [el] at y
    rcases y with h | h | h
    · exact absurd (Int32.le_trans h.1 hd.2) (by decide)
    · exact absurd (Int32.le_trans h.1 hd.2) (by decide)
    · rw [h] at hd; exact absurd hd (by decide)
  · rw [e]
    exact (hK _).symm
  · refine ⟨fun z => absurd z (emp (fun y => hn (Or.inl (by rw [el] at y; exact y)))), fun z => ?_⟩
    by_cases q : pr (lk b t p) (lk b t (p + 1))
    · have := (a2 q).2.1
      rw [z] at this
      exact absurd (Int32.lt_trans hc this) (by decide)
    · have := (a1 q).1
      obtain ⟨a, ha0, ha, ea⟩ := tx_of (htx p hpt)
      rw [z, ea] at this
      rw [this] at hc
      exact absurd hc (nI_nlt (a := 127) (b := a) (by omega) (by omega))
/-- a NAME, as the reference finds it -/
theorem tk_n (htx : ∀ k, k < t → tx (b k)) (hp : p ≤ t) : (¬ we b t p = p ∧ wk (wd b p (we b t p)) = 1) ↔ tk b t p = 1 := by
  have emp : ¬ isl (lk b t p) → we b t p = p := fun h => by unfold we; rw [if_neg h]
  rcases tk_all htx hp with ⟨-, e, -, el⟩ | ⟨-, hd, el, e, -⟩ | ⟨-, hl, el, e, -, hlt⟩ | ⟨hpt, hn, el, -, a1, a2⟩
  · rw [e]
    exact ⟨fun z => absurd (emp (by rw [el]; decide)) z.1, fun z => absurd z (by decide)⟩
  · rw [e]
    refine ⟨fun z => absurd (emp (fun y => ?_)) z.1, fun z => absurd z (by decide)⟩
    rw [el] at y
    rcases y with h | h | h
    · exact absurd (Int32.le_trans h.1 hd.2) (by decide)
    · exact absurd (Int32.le_trans h.1 hd.2) (by decide)
    · rw [h] at hd; exact absurd hd (by decide)
  · rw [e]
    exact ⟨fun z => z.2, fun z => ⟨by omega, z⟩⟩
  · refine ⟨fun z => absurd (emp (fun y => hn (Or.inl (by rw [el] at y; exact y)))) z.1, fun z => ?_⟩
    by_cases q : pr (lk b t p) (lk b t (p + 1))
    · have := (a2 q).1
      rw [z] at this
      exact absurd this (by decide)
    · have := (a1 q).1
      obtain ⟨a, ha0, ha, ea⟩ := tx_of (htx p hpt)
      rw [z, ea] at this
      exact absurd ((nI_eq (a := 1) (b := a) (by omega) (by omega)).mp this) (by omega)
theorem te_n (htx : ∀ k, k < t → tx (b k)) (hp : p ≤ t) (h : tk b t p = 1 ∨ 127 < tk b t p) : te b t p = we b t p ∧ p < we b t p ∧ isl (b p) := by
  rcases tk_all htx hp with ⟨-, e, -, el⟩ | ⟨-, hd, el, e, -⟩ | ⟨-, hl, el, e, e2, hlt⟩ | ⟨hpt, hn, el, -, a1, a2⟩
  · rw [e] at h; exact absurd h (by decide)
  · rw [e] at h; exact absurd h (by decide)
  · exact ⟨e2, hlt, hl⟩
  · exfalso
    by_cases q : pr (lk b t p) (lk b t (p + 1))
    · have h1 := (a2 q).1
      have h2 := (a2 q).2.1
      rcases h with h | h
      · rw [h] at h1; exact absurd h1 (by decide)
      · exact absurd (Int32.lt_trans h h2) (by decide)
    · have := (a1 q).1
      obtain ⟨a, ha0, ha, ea⟩ := tx_of (htx p hpt)
      rw [this, ea] at h
      rcases h with h | h
      · exact absurd ((nI_eq (a := a) (b := 1) (by omega) (by omega)).mp h) (by omega)
      · exact absurd h (nI_nlt (a := 127) (b := a) (by omega) (by omega))
theorem te_s (htx : ∀ k, k < t → tx (b k)) (hp : p ≤ t) {c : Int32} (h1 : ¬ isn c) (h2 : 12 < c) (h3 : c < 127) (h : tk b t p = c) : te b t p = p + 1 ∧ p < t := by
  have := (tk_sg htx hp h1 h2 h3).mpr h
  have hpt := (lk_lt this.1 (fun z => by rw [z] at h2; exact absurd h2 (by decide))).1
  rcases tk_all htx hp with ⟨e0, -, -, -⟩ | ⟨-, hd, el, e, -⟩ | ⟨-, hl, el, e, -, -⟩ | ⟨-, hn, el, -, a1, a2⟩
  · omega
  · rw [h] at e; rw [e] at h2; exact absurd h2 (by decide)
  · exfalso
    rw [h] at e
    rcases wk_cases (wd b p (we b t p)) with w1 | ⟨k, hk, w1⟩
    · rw [e, w1] at h2; exact absurd h2 (by decide)
    · rw [e, w1] at h3
      exact absurd h3 (nI_nlt (a := 200 + k) (b := 127) (by omega) (by omega))
  · exact ⟨(a1 this.2).2, hpt⟩
end TK
section OPS
variable {l : Launch} {Gr : zG} {n w : Nat} {d : Nat} {S : zS} {b : Nat → Int32} {t q : Nat}

theorem w_operatorOf {k : Int32} : zMi l Gr (zc n w) 168 M_Code_operatorOf d [.int k] S (fun v S' => S' = S ∧ v = if okn k = 0 then -1 else nI (37 + okn k)) := by
  refine e_Code_operatorOf (b_Code_operatorOf_0 (fun z => b_Code_operatorOf_156 ⟨_, rfl, rfl, by rw [z]; decide⟩) (fun z => b_Code_operatorOf_159 ⟨_, rfl, rfl, by rw [z]; decide⟩) (fun z => b_Code_operatorOf_171 ⟨_, rfl, rfl, by rw [z]; decide⟩) (fun z => b_Code_operatorOf_174 ⟨_, rfl, rfl, by rw [z]; decide⟩) (fun z => b_Code_operatorOf_180 ⟨_, rfl, rfl, by rw [z]; decide⟩) (fun z => b_Code_operatorOf_186 ⟨_, rfl, rfl, by rw [z]; decide⟩) (fun z => b_Code_operatorOf_189 ⟨_, rfl, rfl, by rw [z]; decide⟩) (fun z => b_Code_operatorOf_192 ⟨_, rfl, rfl, by rw [z]; decide⟩) (fun z => b_Code_operatorOf_207 ⟨_, rfl, rfl, by rw [z]; decide⟩) (fun z => b_Code_operatorOf_168 ⟨_, rfl, rfl, by rw [z]; decide⟩) (fun z => b_Code_operatorOf_201 ⟨_, rfl, rfl, by rw [z]; decide⟩) (fun z => b_Code_operatorOf_195 ⟨_, rfl, rfl, by rw [z]; decide⟩) (fun z => b_Code_operatorOf_198 ⟨_, rfl, rfl, by rw [z]; decide⟩) (fun z => b_Code_operatorOf_204 ⟨_, rfl, rfl, by rw [z]; decide⟩) (fun z => b_Code_operatorOf_177 ⟨_, rfl, rfl, by rw [z]; decide⟩) (fun z => b_Code_operatorOf_183 ⟨_, rfl, rfl, by rw [z]; decide⟩) (fun z => b_Code_operatorOf_165 ⟨_, rfl, rfl, by rw [z]; decide⟩) (fun z => b_Code_operatorOf_162 ⟨_, rfl, rfl, by rw [z]; decide⟩) (fun z3 z4 z5 z6 z7 z8 z11 z12 z37 z38 z42 z43 z45 z47 z60 z62 z94 z124 => b_Code_operatorOf_210 ⟨_, rfl, rfl, ?_⟩))
  have : okn k = 0 := by
    unfold okn
    rw [if_neg z3, if_neg z4, if_neg z124, if_neg z94, if_neg z38, if_neg z5, if_neg z6, if_neg z60, if_neg z7, if_neg z62, if_neg z8, if_neg z11, if_neg z12, if_neg z43, if_neg z45, if_neg z42, if_neg z47, if_neg z37]
  rw [if_pos this]
theorem w_rank (ho : ip_old (lg_tbl, vwCl, Gr)) {o : Nat} (h : o ≤ 18) : zMi l Gr (zc n w) 168 M_Code_rank d [.int (if o = 0 then -1 else nI (37 + o))] S (fun v S' => S' = S ∧ v = nI (rk o)) := by
  by_cases h0 : o = 0
  · rw [if_pos h0, h0]
    exact e_Code_rank (b_Code_rank_0 (fun _ => b_Code_rank_12 (b_Code_rank_24 ⟨_, rfl, rfl, rfl⟩)) (fun z => absurd (by decide) z))
  · rw [if_neg h0]
    refine e_Code_rank (b_Code_rank_0 (fun z => absurd z (nI_nlt (a := 37 + o) (b := 38) (by omega) (by omega))) (fun _ => b_Code_rank_6 (fun _ => b_Code_rank_16 ho ?_ (b_Code_rank_24 ⟨_, rfl, rfl, ?_⟩)) (fun z => absurd (nI_le (a := 37 + o) (b := 55) (by omega) (by omega)) z)))
    · rw [show nI (37 + o) - 38 = nI (o - 1) from by rw [show (38 : Int32) = nI 38 from rfl, pk_sub (by omega)]; congr 1; omega]
      exact vp_in_nI (by omega) (by omega)
    · rw [show nI (37 + o) - 38 = nI (o - 1) from by rw [show (38 : Int32) = nI 38 from rfl, pk_sub (by omega)]; congr 1; omega, nI_clamp (by omega)]
      exact (show ∀ o, o < 19 → ¬ o = 0 → oRow1 (o - 1) = nI (rk o) by decide) o (by omega) h0
theorem wm_rank {o : Nat} (h : o ≤ 18) (h0 : ¬ o = 0) : zMi l Gr (zc n w) 168 M_Mo_rank d [.int (nI o)] S (fun v S' => S' = S ∧ v = nI (rk o)) := by
  have key : ∀ x : Int32, x = nI (rk o) → zW l Gr (zc n w) 168 M_Mo_rank d 74 [none] [.int x] S (fun v S' => ∃ x, v = some (.int x) ∧ S' = S ∧ x = nI (rk o)) := fun x e => b_Mo_rank_74 ⟨_, rfl, rfl, e⟩
  have hh : 1 ≤ o := by omega
  rcases (show o = 1 ∨ o = 2 ∨ o = 3 ∨ o = 4 ∨ o = 5 ∨ o = 6 ∨ o = 7 ∨ o = 8 ∨ o = 9 ∨ o = 10 ∨ o = 11 ∨ o = 12 ∨ o = 13 ∨ o = 14 ∨ o = 15 ∨ o = 16 ∨ o = 17 ∨ o = 18 by omega) with rfl | rfl | rfl | rfl | rfl | rfl | rfl | rfl | rfl | rfl | rfl | rfl | rfl | rfl | rfl | rfl | rfl | rfl
  · exact e_Mo_rank (b_Mo_rank_0 (fun _ => b_Mo_rank_11 (fun _ => b_Mo_rank_28 (fun z => absurd z (by decide)) (fun _ => b_Mo_rank_34 (fun _ => b_Mo_rank_45 (fun z => absurd z (by decide)) (fun _ => b_Mo_rank_51 (fun _ => b_Mo_rank_62 (fun _ => b_Mo_rank_73 (key _ (by decide))) (fun z => absurd (by decide) z)) (fun z => absurd z (by decide)))) (fun z => absurd z (by decide)))) (fun z => absurd (by decide) z)) (fun z => absurd z (by decide)))
  · exact e_Mo_rank (b_Mo_rank_0 (fun _ => b_Mo_rank_11 (fun _ => b_Mo_rank_28 (fun z => absurd z (by decide)) (fun _ => b_Mo_rank_34 (fun _ => b_Mo_rank_45 (fun z => absurd z (by decide)) (fun _ => b_Mo_rank_51 (fun _ => b_Mo_rank_62 (fun _ => b_Mo_rank_73 (key _ (by decide))) (fun z => absurd (by decide) z)) (fun z => absurd z (by decide)))) (fun z => absurd z (by decide)))) (fun z => absurd (by decide) z)) (fun z => absurd z (by decide)))
  · exact e_Mo_rank (b_Mo_rank_0 (fun _ => b_Mo_rank_11 (fun _ => b_Mo_rank_28 (fun z => absurd z (by decide)) (fun _ => b_Mo_rank_34 (fun _ => b_Mo_rank_45 (fun z => absurd z (by decide)) (fun _ => b_Mo_rank_51 (fun _ => b_Mo_rank_62 (fun _ => b_Mo_rank_73 (key _ (by decide))) (fun z => absurd (by decide) z)) (fun z => absurd z (by decide)))) (fun z => absurd z (by decide)))) (fun z => absurd (by decide) z)) (fun z => absurd z (by decide)))
  · exact e_Mo_rank (b_Mo_rank_0 (fun _ => b_Mo_rank_11 (fun _ => b_Mo_rank_28 (fun z => absurd z (by decide)) (fun _ => b_Mo_rank_34 (fun _ => b_Mo_rank_45 (fun z => absurd z (by decide)) (fun _ => b_Mo_rank_51 (fun _ => b_Mo_rank_62 (fun _ => b_Mo_rank_73 (key _ (by decide))) (fun z => absurd (by decide) z)) (fun z => absurd z (by decide)))) (fun z => absurd z (by decide)))) (fun z => absurd (by decide) z)) (fun z => absurd z (by decide)))
  · exact e_Mo_rank (b_Mo_rank_0 (fun _ => b_Mo_rank_11 (fun _ => b_Mo_rank_28 (fun z => absurd z (by decide)) (fun _ => b_Mo_rank_34 (fun _ => b_Mo_rank_45 (fun z => absurd z (by decide)) (fun _ => b_Mo_rank_51 (fun _ => b_Mo_rank_62 (fun _ => b_Mo_rank_73 (key _ (by decide))) (fun z => absurd (by decide) z)) (fun z => absurd z (by decide)))) (fun z => absurd z (by decide)))) (fun z => absurd (by decide) z)) (fun z => absurd z (by decide)))
  · exact e_Mo_rank (b_Mo_rank_0 (fun _ => b_Mo_rank_11 (fun _ => b_Mo_rank_28 (fun z => absurd z (by decide)) (fun _ => b_Mo_rank_34 (fun _ => b_Mo_rank_45 (fun z => absurd z (by decide)) (fun _ => b_Mo_rank_51 (fun _ => b_Mo_rank_62 (fun _ => b_Mo_rank_73 (key _ (by decide))) (fun z => absurd (by decide) z)) (fun z => absurd z (by decide)))) (fun z => absurd z (by decide)))) (fun z => absurd (by decide) z)) (fun z => absurd z (by decide)))
  · exact e_Mo_rank (b_Mo_rank_0 (fun z => absurd rfl z) (fun _ => b_Mo_rank_6 (key _ (by decide))))
  · exact e_Mo_rank (b_Mo_rank_0 (fun _ => b_Mo_rank_11 (fun z => absurd z (by decide)) (fun _ => b_Mo_rank_17 (fun z => absurd z (by decide)) (fun _ => b_Mo_rank_23 (key _ (by decide))))) (fun z => absurd z (by decide)))
  · exact e_Mo_rank (b_Mo_rank_0 (fun _ => b_Mo_rank_11 (fun z => absurd z (by decide)) (fun _ => b_Mo_rank_17 (fun z => absurd z (by decide)) (fun _ => b_Mo_rank_23 (key _ (by decide))))) (fun z => absurd z (by decide)))
  · exact e_Mo_rank (b_Mo_rank_0 (fun _ => b_Mo_rank_11 (fun z => absurd z (by decide)) (fun _ => b_Mo_rank_17 (fun z => absurd z (by decide)) (fun _ => b_Mo_rank_23 (key _ (by decide))))) (fun z => absurd z (by decide)))
  · exact e_Mo_rank (b_Mo_rank_0 (fun _ => b_Mo_rank_11 (fun z => absurd z (by decide)) (fun _ => b_Mo_rank_17 (fun z => absurd z (by decide)) (fun _ => b_Mo_rank_23 (key _ (by decide))))) (fun z => absurd z (by decide)))
  · exact e_Mo_rank (b_Mo_rank_0 (fun _ => b_Mo_rank_11 (fun z => absurd z (by decide)) (fun _ => b_Mo_rank_17 (fun _ => b_Mo_rank_28 (fun _ => b_Mo_rank_40 (key _ (by decide))) (fun z => absurd rfl z)) (fun z => absurd (by decide) z))) (fun z => absurd z (by decide)))
  · exact e_Mo_rank (b_Mo_rank_0 (fun _ => b_Mo_rank_11 (fun z => absurd z (by decide)) (fun _ => b_Mo_rank_17 (fun _ => b_Mo_rank_28 (fun z => absurd z (by decide)) (fun _ => b_Mo_rank_34 (fun z => absurd rfl z) (fun _ => b_Mo_rank_40 (key _ (by decide))))) (fun z => absurd (by decide) z))) (fun z => absurd z (by decide)))
  · exact e_Mo_rank (b_Mo_rank_0 (fun _ => b_Mo_rank_11 (fun z => absurd z (by decide)) (fun _ => b_Mo_rank_17 (fun _ => b_Mo_rank_28 (fun z => absurd z (by decide)) (fun _ => b_Mo_rank_34 (fun _ => b_Mo_rank_45 (fun _ => b_Mo_rank_57 (key _ (by decide))) (fun z => absurd rfl z)) (fun z => absurd z (by decide)))) (fun z => absurd (by decide) z))) (fun z => absurd z (by decide)))
  · exact e_Mo_rank (b_Mo_rank_0 (fun _ => b_Mo_rank_11 (fun z => absurd z (by decide)) (fun _ => b_Mo_rank_17 (fun _ => b_Mo_rank_28 (fun z => absurd z (by decide)) (fun _ => b_Mo_rank_34 (fun _ => b_Mo_rank_45 (fun z => absurd z (by decide)) (fun _ => b_Mo_rank_51 (fun z => absurd rfl z) (fun _ => b_Mo_rank_57 (key _ (by decide))))) (fun z => absurd z (by decide)))) (fun z => absurd (by decide) z))) (fun z => absurd z (by decide)))
  · exact e_Mo_rank (b_Mo_rank_0 (fun _ => b_Mo_rank_11 (fun z => absurd z (by decide)) (fun _ => b_Mo_rank_17 (fun _ => b_Mo_rank_28 (fun z => absurd z (by decide)) (fun _ => b_Mo_rank_34 (fun _ => b_Mo_rank_45 (fun z => absurd z (by decide)) (fun _ => b_Mo_rank_51 (fun _ => b_Mo_rank_62 (fun z => absurd z (by decide)) (fun _ => b_Mo_rank_68 (key _ (by decide)))) (fun z => absurd z (by decide)))) (fun z => absurd z (by decide)))) (fun z => absurd (by decide) z))) (fun z => absurd z (by decide)))
  · exact e_Mo_rank (b_Mo_rank_0 (fun _ => b_Mo_rank_11 (fun z => absurd z (by decide)) (fun _ => b_Mo_rank_17 (fun _ => b_Mo_rank_28 (fun z => absurd z (by decide)) (fun _ => b_Mo_rank_34 (fun _ => b_Mo_rank_45 (fun z => absurd z (by decide)) (fun _ => b_Mo_rank_51 (fun _ => b_Mo_rank_62 (fun z => absurd z (by decide)) (fun _ => b_Mo_rank_68 (key _ (by decide)))) (fun z => absurd z (by decide)))) (fun z => absurd z (by decide)))) (fun z => absurd (by decide) z))) (fun z => absurd z (by decide)))
  · exact e_Mo_rank (b_Mo_rank_0 (fun _ => b_Mo_rank_11 (fun z => absurd z (by decide)) (fun _ => b_Mo_rank_17 (fun _ => b_Mo_rank_28 (fun z => absurd z (by decide)) (fun _ => b_Mo_rank_34 (fun _ => b_Mo_rank_45 (fun z => absurd z (by decide)) (fun _ => b_Mo_rank_51 (fun _ => b_Mo_rank_62 (fun z => absurd z (by decide)) (fun _ => b_Mo_rank_68 (key _ (by decide)))) (fun z => absurd z (by decide)))) (fun z => absurd z (by decide)))) (fun z => absurd (by decide) z))) (fun z => absurd z (by decide)))
theorem wm_operator (hg : ip_gk (lg_tbl, vwCl, Gr)) (h : mA b t q S) : zMi l Gr (zc n w) 168 M_Mo_operator (d + 2) [.ref 105] S (fun v S' => S' = S ∧ v = nI (om (lk b t q) (lk b t (q + 1)))) := by
  refine e_Mo_operator (b_Mo_operator_0 hg (wm_k0 h) (fun v S' hv => ?_))
  obtain ⟨e, hv⟩ := hv
  rw [e, hv]
  refine b_Mo_operator_5 hg (wm_k1 h) (fun v S' hv => ?_)
  obtain ⟨e, hv⟩ := hv
  rw [e, hv]
  refine b_Mo_operator_11 hg (wm_isPair hg h) (fun v S' hv => ?_)
  obtain ⟨e, hv⟩ := hv
  rw [e, hv]
  obtain ⟨a, ea⟩ : ∃ a, a = lk b t q := ⟨_, rfl⟩
  obtain ⟨x, ex⟩ : ∃ x, x = lk b t (q + 1) := ⟨_, rfl⟩
  rw [← ea, ← ex]
  have f1 : ∀ v : Int32, v = nI (om a x) → zW l Gr (zc n w) 168 M_Mo_operator (d + 2) 205 [none, none, none] [.int v] S (fun v S' => ∃ x', v = some (.int x') ∧ S' = S ∧ x' = nI (om a x)) := fun v e => b_Mo_operator_205 ⟨_, rfl, rfl, e⟩
  have f2 : ∀ v : Int32, v = nI (om a x) → zW l Gr (zc n w) 168 M_Mo_operator (d + 2) 96 [none, none, none] [.int v] S (fun v S' => ∃ x', v = some (.int x') ∧ S' = S ∧ x' = nI (om a x)) := fun v e => b_Mo_operator_96 ⟨_, rfl, rfl, e⟩
  by_cases p : pr a x
  · rw [if_pos p]
    refine b_Mo_operator_16 (fun z => absurd z (by decide)) (fun _ => b_Mo_operator_19 (fun z1 => b_Mo_operator_29 (fun z2 => b_Mo_operator_39 (fun z3 => b_Mo_operator_50 (fun z4 => b_Mo_operator_61 (fun z5 => b_Mo_operator_83 (fun z6 => b_Mo_operator_94 (f2 _ ?_)) (fun z6 => b_Mo_operator_89 (f2 _ ?_))) (fun z5 => b_Mo_operator_67 (fun z6 => b_Mo_operator_78 (f2 _ ?_)) (fun z6 => b_Mo_operator_73 (f2 _ ?_)))) (fun z4 => b_Mo_operator_56 (f2 _ ?_))) (fun z3 => b_Mo_operator_45 (f2 _ ?_))) (fun z2 => b_Mo_operator_35 (f2 _ ?_))) (fun z1 => b_Mo_operator_25 (f2 _ ?_)))
    · unfold om; rw [if_pos p, if_neg z1, if_neg z2, if_neg z3, if_neg z4, if_neg z5, if_neg z6]; rfl
    · unfold om; rw [if_pos p, if_neg z1, if_neg z2, if_neg z3, if_neg z4, if_neg z5, if_pos z6]; rfl
    · unfold om; rw [if_pos p, if_neg z1, if_neg z2, if_neg z3, if_neg z4, if_pos z5, if_neg z6]; rfl
    · unfold om; rw [if_pos p, if_neg z1, if_neg z2, if_neg z3, if_neg z4, if_pos z5, if_pos z6]; rfl
    · unfold om; rw [if_pos p, if_neg z1, if_neg z2, if_neg z3, if_pos z4]; rfl
    · unfold om; rw [if_pos p, if_neg z1, if_neg z2, if_pos z3]; rfl
    · unfold om; rw [if_pos p, if_neg z1, if_pos z2]; rfl
    · unfold om; rw [if_pos p, if_pos z1]; rfl
  · rw [if_neg p]
    refine b_Mo_operator_16 (fun _ => b_Mo_operator_97 (fun z1 => b_Mo_operator_107 (fun z2 => b_Mo_operator_117 (fun z3 => b_Mo_operator_127 (fun z4 => b_Mo_operator_138 (fun z5 => b_Mo_operator_149 (fun z6 => b_Mo_operator_160 (fun z7 => b_Mo_operator_171 (fun z8 => b_Mo_operator_182 (fun z9 => b_Mo_operator_193 (fun z10 => b_Mo_operator_204 (f1 _ ?_)) (fun z10 => b_Mo_operator_199 (f1 _ ?_))) (fun z9 => b_Mo_operator_188 (f1 _ ?_))) (fun z8 => b_Mo_operator_177 (f1 _ ?_))) (fun z7 => b_Mo_operator_166 (f1 _ ?_))) (fun z6 => b_Mo_operator_155 (f1 _ ?_))) (fun z5 => b_Mo_operator_144 (f1 _ ?_))) (fun z4 => b_Mo_operator_133 (f1 _ ?_))) (fun z3 => b_Mo_operator_123 (f1 _ ?_))) (fun z2 => b_Mo_operator_113 (f1 _ ?_))) (fun z1 => b_Mo_operator_103 (f1 _ ?_))) (fun z => absurd rfl z)
    · unfold om; rw [if_neg p, if_neg z1, if_neg z2, if_neg z3, if_neg z4, if_neg z5, if_neg z6, if_neg z7, if_neg z8, if_neg z9, if_neg z10]; rfl
    · unfold om; rw [if_neg p, if_neg z1, if_neg z2, if_neg z3, if_neg z4, if_neg z5, if_neg z6, if_neg z7, if_neg z8, if_neg z9, if_pos z10]; rfl
    · unfold om; rw [if_neg p, if_neg z1, if_neg z2, if_neg z3, if_neg z4, if_neg z5, if_neg z6, if_neg z7, if_neg z8, if_pos z9]; rfl
    · unfold om; rw [if_neg p, if_neg z1, if_neg z2, if_neg z3, if_neg z4, if_neg z5, if_neg z6, if_neg z7, if_pos z8]; rfl
    · unfold om; rw [if_neg p, if_neg z1, if_neg z2, if_neg z3, if_neg z4, if_neg z5, if_neg z6, if_pos z7]; rfl
    · unfold om; rw [if_neg p, if_neg z1, if_neg z2, if_neg z3, if_neg z4, if_neg z5, if_pos z6]; rfl
    · unfold om; rw [if_neg p, if_neg z1, if_neg z2, if_neg z3, if_neg z4, if_pos z5]; rfl
    · unfold om; rw [if_neg p, if_neg z1, if_neg z2, if_neg z3, if_pos z4]; rfl
    · unfold om; rw [if_neg p, if_neg z1, if_neg z2, if_pos z3]; rfl
    · unfold om; rw [if_neg p, if_neg z1, if_pos z2]; rfl
    · unfold om; rw [if_neg p, if_pos z1]; rfl
end OPS
