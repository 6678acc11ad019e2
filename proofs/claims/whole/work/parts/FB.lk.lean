/-! look() on both -/
/-- parties p < n that are done -/
def dnN (S : zS) : Nat → Nat
  | 0 => 0
  | p + 1 => dnN S p + (if S.1 157 p = S.1 73 68 + 2 then 1 else 0)
/-- dealt on both, or on none; what look() tells of it -/
def iCt (n : Nat) (S : zS) : Prop := (S.1 0 15 = 0 ∧ S.1 73 124 = 0 ∧ S.1 73 139 = 0 ∧ S.1 73 140 = 0) ∨ (S.1 0 15 = 1 ∧ S.1 73 124 = 1 ∧ S.1 65 10 = S.1 73 139 ∧ S.1 65 11 = S.1 73 140 ∧ S.1 65 12 = nI (dnN S n) ∧ S.1 0 14 = 1)
/-- what both tell of the compiler and the draws -/
def iLk (S : zS) : Prop := S.1 3 5 = S.1 73 7 ∧ (¬ S.1 3 5 = 0 → S.1 3 6 = S.1 73 8) ∧ S.1 59 2 = S.1 73 121 ∧ S.1 59 4 = S.1 73 120
def lkC (n : Nat) (S : zS) (x : Int32) : Int32 := if x = 1 then S.1 24 4 else if x = 2 then S.1 24 5 else if x = 3 then S.1 24 6 else if x = 4 then S.1 17 7 else if x = 5 then S.1 17 6 else if x = 6 then S.1 24 11 else if x = 7 then ((S.1 17 7) * ((nI n) - 1)) + ((S.1 24 5) * ((3 * (nI n)) - 1)) else S.1 45 18
section LOK
variable {l : Launch} {Gr : zG} {n w d : Nat} {S : zS} {x1 : Int32}
theorem wm_done0 (hn : n ≤ 16) (h : S.1 73 124 = 0) : zMi l Gr (zc n w) 168 M_Mo_done d [.ref 105] S (fun v S' => v = 0 ∧ S' = S) := by
  have loop : ∀ c p, p + c = n → zW l Gr (zc n w) 168 M_Mo_done d 4 [some (.ref 105), some (.int 0), some (.int (nI p))] [] S (fun v S' => ∃ x, v = some (.int x) ∧ x = 0 ∧ S' = S) := fun c => by
    induction c with
    | zero =>
      intro p hp
      exact b_Mo_done_4 (fun _ => b_Mo_done_48 ⟨_, rfl, rfl, rfl⟩) (fun y => absurd (nI_le (by omega) (by omega)) y)
    | succ c ih =>
      intro p hp
      refine b_Mo_done_4 (fun y => absurd y (nI_ge (by omega) (by omega))) (fun _ => b_Mo_done_12 (fun _ => b_Mo_done_39 (b_Mo_done_40 ?_)) (fun y => absurd h y))
      rw [show nI p + Int32.ofInt 1 = nI (p + 1) from nI_add p 1, show (0 : Int32) + 0 = 0 from rfl]
      exact ih (p + 1) (by omega)
  exact e_Mo_done (b_Mo_done_0 (loop n 0 (by omega)))
theorem wm_done1 (hn : n ≤ 16) (h : ¬ S.1 73 124 = 0) : zMi l Gr (zc n w) 168 M_Mo_done d [.ref 105] S (fun v S' => v = nI (dnN S n) ∧ S' = S) := by
  have loop : ∀ c p, p + c = n → zW l Gr (zc n w) 168 M_Mo_done d 4 [some (.ref 105), some (.int (nI (dnN S p))), some (.int (nI p))] [] S (fun v S' => ∃ x, v = some (.int x) ∧ x = nI (dnN S n) ∧ S' = S) := fun c => by
    induction c with
    | zero =>
      intro p hp
      have ep : p = n := by omega
      exact b_Mo_done_4 (fun _ => b_Mo_done_48 ⟨_, rfl, by rw [ep], rfl⟩) (fun y => absurd (nI_le (by omega) (by omega)) y)
    | succ c ih =>
      intro p hp
      have ck : (nI p).toNatClampNeg = p := nI_clamp (by omega)
      refine b_Mo_done_4 (fun y => absurd y (nI_ge (by omega) (by omega))) (fun _ => b_Mo_done_12 (fun y => absurd y h) (fun _ => b_Mo_done_20 (vp_in_nI (by omega) (by omega)) (fun y => b_Mo_done_39 (b_Mo_done_40 ?_)) (fun y => b_Mo_done_35 (b_Mo_done_40 ?_))))
      · rw [ck] at y
        have e : dnN S (p + 1) = dnN S p := by
          show dnN S p + (if S.1 157 p = S.1 73 68 + 2 then 1 else 0) = _
          rw [if_neg y]
          rfl
        have q := ih (p + 1) (by omega)
        rw [e] at q
        rw [show nI p + Int32.ofInt 1 = nI (p + 1) from nI_add p 1, show nI (dnN S p) + 0 = nI (dnN S p) from nI_add _ 0]
        exact q
      · rw [ck] at y
        have e : dnN S (p + 1) = dnN S p + 1 := by
          show dnN S p + (if S.1 157 p = S.1 73 68 + 2 then 1 else 0) = _
          rw [if_pos y]
        have q := ih (p + 1) (by omega)
        rw [e] at q
        rw [show nI p + Int32.ofInt 1 = nI (p + 1) from nI_add p 1, show nI (dnN S p) + 1 = nI (dnN S p + 1) from nI_add _ 1]
        exact q
  exact e_Mo_done (b_Mo_done_0 (loop n 0 (by omega)))
theorem cl_lk : zMi l Gr (zc n w) 168 M_H_lookAtCircuit d [.ref 32, .int x1] S (fun v S' => v = lkC n S x1 ∧ S' = S) := by
  refine e_H_lookAtCircuit (b_H_lookAtCircuit_0 (fun q => ?_) (fun q => ?_) (fun q => ?_) (fun q => ?_) (fun q => ?_) (fun q => ?_) (fun q => ?_) (fun q1 q2 q3 q4 q5 q6 q7 => ?_))
  · subst q; exact b_H_lookAtCircuit_44 ⟨_, rfl, rfl, rfl⟩
  · subst q; exact b_H_lookAtCircuit_52 ⟨_, rfl, rfl, rfl⟩
  · subst q; exact b_H_lookAtCircuit_60 ⟨_, rfl, rfl, rfl⟩
  · subst q; exact b_H_lookAtCircuit_68 ⟨_, rfl, rfl, rfl⟩
  · subst q; exact b_H_lookAtCircuit_76 ⟨_, rfl, rfl, rfl⟩
  · subst q; exact b_H_lookAtCircuit_84 ⟨_, rfl, rfl, rfl⟩
  · subst q; exact b_H_lookAtCircuit_92 ⟨_, rfl, rfl, rfl⟩
  · refine b_H_lookAtCircuit_124 ⟨_, rfl, ?_, rfl⟩
    unfold lkC
    rw [if_neg q1, if_neg q2, if_neg q3, if_neg q4, if_neg q5, if_neg q6, if_neg q7]
/-- what the reference tells of its circuit -/
def lkM (n : Nat) (S : zS) (x : Int32) : Int32 := if x = 1 then S.1 73 66 else if x = 2 then S.1 73 67 else if x = 3 then S.1 73 68 else if x = 4 then S.1 73 65 else if x = 5 then S.1 73 75 else if x = 6 then S.1 73 69 else if x = 7 then ((S.1 73 65) * ((nI n) - 1)) + ((S.1 73 67) * ((3 * (nI n)) - 1)) else S.1 73 70
theorem lk_eq (h : iCk n w S) : lkM n S x1 = lkC n S x1 := by
  obtain ⟨g, Dm, iw, no, bo, ⟨g', iw', -, -, h4, h66, -, -, h5, -, h6, -⟩, -, ⟨o11, o69, -⟩, -, ⟨-, i6, i7, i75, i65, -⟩, hst, -⟩ := h
  unfold lkM lkC
  rw [h4, h66, h5, h6, i7, i65, i6, i75, o11, o69, hst]
/-- x is one of 1 .. 8 -/
def o18 (x : Int32) : Prop := x = 1 ∨ x = 2 ∨ x = 3 ∨ x = 4 ∨ x = 5 ∨ x = 6 ∨ x = 7 ∨ x = 8
theorem o18_in (h : ¬ x1 < 1) (h2 : ¬ 8 < x1) : o18 x1 := by
  obtain ⟨j, hj, rfl⟩ := nI_of2 (M := nI 8) (n := 8) (nI_toInt (by omega)) (x := x1) (fun y => h (Int32.lt_trans y (by decide))) (Int32.not_lt.mp h2)
  match j, hj with
  | 0, _ => exact absurd (show nI 0 < 1 by decide) h
  | 1, _ => exact Or.inl rfl
  | 2, _ => exact Or.inr (Or.inl rfl)
  | 3, _ => exact Or.inr (Or.inr (Or.inl rfl))
  | 4, _ => exact Or.inr (Or.inr (Or.inr (Or.inl rfl)))
  | 5, _ => exact Or.inr (Or.inr (Or.inr (Or.inr (Or.inl rfl))))
  | 6, _ => exact Or.inr (Or.inr (Or.inr (Or.inr (Or.inr (Or.inl rfl)))))
  | 7, _ => exact Or.inr (Or.inr (Or.inr (Or.inr (Or.inr (Or.inr (Or.inl rfl))))))
  | 8, _ => exact Or.inr (Or.inr (Or.inr (Or.inr (Or.inr (Or.inr (Or.inr rfl))))))
theorem o18_no {y : Int32} (h : o18 x1) (e : x1 = y) (hy : ¬ o18 y := by unfold o18; decide) : False := hy (by rw [← e]; exact h)
theorem o18_b (h : o18 x1) : ¬ x1 < 1 ∧ ¬ 8 < x1 ∧ ¬ x1 ≤ 0 ∧ ¬ 9 ≤ x1 := by
  rcases h with rfl | rfl | rfl | rfl | rfl | rfl | rfl | rfl <;> decide
theorem mo_lk (h : o18 x1) : zW l Gr (zc n w) 168 M_Mo_look (d + 1) 19 [some (.ref 105), some (.int x1)] [] S (fun v S' => ∃ x, v = some (.int x) ∧ x = lkM n S x1 ∧ S' = S) := by
  refine b_Mo_look_19 (fun q => (o18_no h q).elim) (fun q => ?_) (fun q => ?_) (fun q => ?_) (fun q => ?_) (fun q => ?_) (fun q => ?_) (fun q => ?_) (fun q => ?_) (fun q => (o18_no h q).elim) (fun q => (o18_no h q).elim) (fun q => (o18_no h q).elim) (fun q => (o18_no h q).elim) (fun q => (o18_no h q).elim) (fun q => (o18_no h q).elim) (fun _ q1 q2 q3 q4 q5 q6 q7 q8 _ _ _ _ _ _ => ?_)
  · subst q; exact b_Mo_look_101 ⟨_, rfl, rfl, rfl⟩
  · subst q; exact b_Mo_look_106 ⟨_, rfl, rfl, rfl⟩
  · subst q; exact b_Mo_look_111 ⟨_, rfl, rfl, rfl⟩
  · subst q; exact b_Mo_look_116 ⟨_, rfl, rfl, rfl⟩
  · subst q; exact b_Mo_look_121 ⟨_, rfl, rfl, rfl⟩
  · subst q; exact b_Mo_look_126 ⟨_, rfl, rfl, rfl⟩
  · subst q; exact b_Mo_look_131 ⟨_, rfl, rfl, rfl⟩
  · subst q; exact b_Mo_look_157 ⟨_, rfl, rfl, rfl⟩
  · rcases h with h | h | h | h | h | h | h | h <;> exact absurd h (by assumption)
/-- what the class tells besides its circuit -/
def lkO (S : zS) (x : Int32) : Int32 := if x = 0 then (if S.1 3 5 = 0 then -1 else S.1 3 6) else if x = 9 then (if S.1 0 15 = 0 then 0 else S.1 65 10) else if x = 10 then (if S.1 0 15 = 0 then 0 else S.1 65 11) else if x = 11 then (if S.1 0 15 = 0 then 0 else S.1 65 12) else if x = 12 then (if S.1 0 15 = 0 then (if S.1 0 14 = 0 then 0 else 1) else 2) else if x = 13 then S.1 59 2 else if x = 14 then S.1 59 4 else -1
def lkP (n : Nat) (S : zS) (x : Int32) : Int32 := if x = 0 then (if S.1 73 7 = 0 then -1 else S.1 73 8) else if x = 9 then S.1 73 139 else if x = 10 then S.1 73 140 else if x = 11 then (if S.1 73 124 = 0 then 0 else nI (dnN S n)) else if x = 12 then (if S.1 73 83 = 0 then 0 else if S.1 73 124 = 0 then 1 else 2) else if x = 13 then S.1 73 121 else if x = 14 then S.1 73 120 else -1
theorem cl_28 : zW l Gr (zc n w) 168 M_H_look (d + 1) 28 [some (.ref 32), some (.int x1)] [] S (fun v S' => ∃ x, v = some (.int x) ∧ x = lkO S x1 ∧ S' = S) := by
  refine b_H_look_28 (fun q => ?_) (fun q => ?_) (fun q => ?_) (fun q => ?_) (fun q => ?_) (fun q => ?_) (fun q => ?_) (fun q0 q9 q10 q11 q12 q13 q14 => ?_)
  · subst q; exact b_H_look_104 ⟨_, rfl, rfl, rfl⟩
  · subst q
    refine b_H_look_112 (fun z => b_H_look_129 (b_H_look_130 ⟨_, rfl, ?_, rfl⟩)) (fun z => b_H_look_119 (b_H_look_130 ⟨_, rfl, ?_, rfl⟩))
    · show (0 : Int32) = if S.1 0 15 = 0 then 0 else S.1 65 10
      rw [if_pos z]
    · show S.1 65 10 = if S.1 0 15 = 0 then 0 else S.1 65 10
      rw [if_neg z]
  · subst q
    refine b_H_look_131 (fun z => b_H_look_148 (b_H_look_149 ⟨_, rfl, ?_, rfl⟩)) (fun z => b_H_look_138 (b_H_look_149 ⟨_, rfl, ?_, rfl⟩))
    · show (0 : Int32) = if S.1 0 15 = 0 then 0 else S.1 65 11
      rw [if_pos z]
    · show S.1 65 11 = if S.1 0 15 = 0 then 0 else S.1 65 11
      rw [if_neg z]
  · subst q
    refine b_H_look_150 (fun z => b_H_look_167 (b_H_look_168 ⟨_, rfl, ?_, rfl⟩)) (fun z => b_H_look_157 (b_H_look_168 ⟨_, rfl, ?_, rfl⟩))
    · show (0 : Int32) = if S.1 0 15 = 0 then 0 else S.1 65 12
      rw [if_pos z]
    · show S.1 65 12 = if S.1 0 15 = 0 then 0 else S.1 65 12
      rw [if_neg z]
  · subst q
    refine b_H_look_169 (fun z => b_H_look_180 (fun y => b_H_look_191 (b_H_look_192 ⟨_, rfl, ?_, rfl⟩)) (fun y => b_H_look_187 (b_H_look_192 ⟨_, rfl, ?_, rfl⟩))) (fun z => b_H_look_176 (b_H_look_192 ⟨_, rfl, ?_, rfl⟩))
    · show (0 : Int32) = if S.1 0 15 = 0 then (if S.1 0 14 = 0 then 0 else 1) else 2
      rw [if_pos z, if_pos y]
    · show (1 : Int32) = if S.1 0 15 = 0 then (if S.1 0 14 = 0 then 0 else 1) else 2
      rw [if_pos z, if_neg y]
    · show (2 : Int32) = if S.1 0 15 = 0 then (if S.1 0 14 = 0 then 0 else 1) else 2
      rw [if_neg z]
  · subst q; exact b_H_look_193 ⟨_, rfl, rfl, rfl⟩
  · subst q; exact b_H_look_201 ⟨_, rfl, rfl, rfl⟩
  · refine b_H_look_209 ⟨_, rfl, ?_, rfl⟩
    unfold lkO
    rw [if_neg q0, if_neg q9, if_neg q10, if_neg q11, if_neg q12, if_neg q13, if_neg q14]
theorem mo_19 (hg : ip_gk (lg_tbl, vwCl, Gr)) (hn : n ≤ 16) (h : ¬ o18 x1) : zW l Gr (zc n w) 168 M_Mo_look (d + 1) 19 [some (.ref 105), some (.int x1)] [] S (fun v S' => ∃ x, v = some (.int x) ∧ x = lkP n S x1 ∧ S' = S) := by
  refine b_Mo_look_19 (fun q => ?_) (fun q => absurd (Or.inl q) h) (fun q => absurd (Or.inr (Or.inl q)) h) (fun q => absurd (Or.inr (Or.inr (Or.inl q))) h) (fun q => absurd (Or.inr (Or.inr (Or.inr (Or.inl q)))) h) (fun q => absurd (Or.inr (Or.inr (Or.inr (Or.inr (Or.inl q))))) h) (fun q => absurd (Or.inr (Or.inr (Or.inr (Or.inr (Or.inr (Or.inl q)))))) h) (fun q => absurd (Or.inr (Or.inr (Or.inr (Or.inr (Or.inr (Or.inr (Or.inl q))))))) h) (fun q => absurd (Or.inr (Or.inr (Or.inr (Or.inr (Or.inr (Or.inr (Or.inr q))))))) h) (fun q => ?_) (fun q => ?_) (fun q => ?_) (fun q => ?_) (fun q => ?_) (fun q => ?_) (fun q0 _ _ _ _ _ _ _ _ q9 q10 q11 q12 q13 q14 => ?_)
  · subst q; exact b_Mo_look_96 ⟨_, rfl, rfl, rfl⟩
  · subst q; exact b_Mo_look_162 ⟨_, rfl, rfl, rfl⟩
  · subst q; exact b_Mo_look_167 ⟨_, rfl, rfl, rfl⟩
  · subst q
    by_cases z : S.1 73 124 = 0
    · refine b_Mo_look_172 hg (wm_done0 hn z) (fun v S' e => ?_)
      obtain ⟨rfl, rfl⟩ := e
      refine b_Mo_look_176 ⟨_, rfl, ?_, rfl⟩
      show (0 : Int32) = if S'.1 73 124 = 0 then 0 else nI (dnN S' n)
      rw [if_pos z]
    · refine b_Mo_look_172 hg (wm_done1 hn z) (fun v S' e => ?_)
      obtain ⟨rfl, rfl⟩ := e
      refine b_Mo_look_176 ⟨_, rfl, ?_, rfl⟩
      show nI (dnN S' n) = if S'.1 73 124 = 0 then 0 else nI (dnN S' n)
      rw [if_neg z]
  · subst q
    refine b_Mo_look_177 (fun z => b_Mo_look_188 (fun y => b_Mo_look_199 (b_Mo_look_200 ⟨_, rfl, ?_, rfl⟩)) (fun y => b_Mo_look_195 (b_Mo_look_200 ⟨_, rfl, ?_, rfl⟩))) (fun z => b_Mo_look_184 (b_Mo_look_200 ⟨_, rfl, ?_, rfl⟩))
    · show (1 : Int32) = if S.1 73 83 = 0 then 0 else if S.1 73 124 = 0 then 1 else 2
      rw [if_neg z, if_pos y]
    · show (2 : Int32) = if S.1 73 83 = 0 then 0 else if S.1 73 124 = 0 then 1 else 2
      rw [if_neg z, if_neg y]
    · show (0 : Int32) = if S.1 73 83 = 0 then 0 else if S.1 73 124 = 0 then 1 else 2
      rw [if_pos z]
  · subst q; exact b_Mo_look_201 ⟨_, rfl, rfl, rfl⟩
  · subst q; exact b_Mo_look_206 ⟨_, rfl, rfl, rfl⟩
  · refine b_Mo_look_211 ⟨_, rfl, ?_, rfl⟩
    unfold lkP
    rw [if_neg q0, if_neg q9, if_neg q10, if_neg q11, if_neg q12, if_neg q13, if_neg q14]
theorem lo_eq (hb : iBt n w S) (hc : iCt n S) (hl : iLk S) : lkP n S x1 = lkO S x1 := by
  obtain ⟨l1, l2, l3, l4⟩ := hl
  have e0 : (if S.1 73 7 = 0 then (-1 : Int32) else S.1 73 8) = if S.1 3 5 = 0 then -1 else S.1 3 6 := by
    rw [← l1]
    by_cases z : S.1 3 5 = 0
    · rw [if_pos z, if_pos z]
    · rw [if_neg z, if_neg z, l2 z]
  have e9 : S.1 73 139 = if S.1 0 15 = 0 then 0 else S.1 65 10 := by
    rcases hc with ⟨c1, -, c3, -⟩ | ⟨c1, -, c3, -⟩
    · rw [if_pos c1, c3]
    · rw [if_neg (by rw [c1]; decide), c3]
  have e10 : S.1 73 140 = if S.1 0 15 = 0 then 0 else S.1 65 11 := by
    rcases hc with ⟨c1, -, -, c3⟩ | ⟨c1, -, -, c3, -⟩
    · rw [if_pos c1, c3]
    · rw [if_neg (by rw [c1]; decide), c3]
  have e11 : (if S.1 73 124 = 0 then 0 else nI (dnN S n)) = if S.1 0 15 = 0 then 0 else S.1 65 12 := by
    rcases hc with ⟨c1, c2, -⟩ | ⟨c1, c2, -, -, c3, -⟩
    · rw [if_pos c1, if_pos c2]
    · rw [if_neg (show ¬ S.1 0 15 = 0 by rw [c1]; decide), if_neg (show ¬ S.1 73 124 = 0 by rw [c2]; decide), c3]
  have e12 : (if S.1 73 83 = 0 then (0 : Int32) else if S.1 73 124 = 0 then 1 else 2) = if S.1 0 15 = 0 then (if S.1 0 14 = 0 then 0 else 1) else 2 := by
    rcases hb with ⟨h14, h83, -, h15, -⟩ | ⟨h14, h83, -⟩
    · rw [if_pos h83, if_pos h15, if_pos h14]
    · rw [if_neg (show ¬ S.1 73 83 = 0 by rw [h83]; decide)]
      rcases hc with ⟨c1, c2, -⟩ | ⟨c1, c2, -⟩
      · rw [if_pos c2, if_pos c1, if_neg (show ¬ S.1 0 14 = 0 by rw [h14]; decide)]
      · rw [if_neg (show ¬ S.1 73 124 = 0 by rw [c2]; decide), if_neg (show ¬ S.1 0 15 = 0 by rw [c1]; decide)]
  unfold lkP lkO
  rw [e0, e9, e10, e11, e12, l3, l4]
theorem ro_look (hg : ip_gk (lg_tbl, vwCl, Gr)) (hn : n ≤ 16) (hb : iBt n w S) (hc : iCt n S) (hl : iLk S) : roI l Gr n w (d + 1) M_H_look M_Mo_look [.int x1] S := by
  by_cases h18 : o18 x1
  · obtain ⟨b1, b2, b3, b4⟩ := o18_b h18
    rcases hb with ⟨h14, h83, -⟩ | ⟨h14, h83, ck⟩
    · exact ro_i (x := -1) (e_H_look (b_H_look_0 (fun z => absurd z b1) (fun _ => b_H_look_5 (fun z => absurd z b2) (fun _ => b_H_look_11 (fun _ => b_H_look_26 (b_H_look_27 ⟨_, rfl, rfl, rfl⟩)) (fun z => absurd h14 z))))) (e_Mo_look (b_Mo_look_0 (fun z => absurd z b3) (fun _ => b_Mo_look_4 (fun z => absurd z b4) (fun _ => b_Mo_look_10 (fun z => absurd h83 z) (fun _ => b_Mo_look_17 ⟨_, rfl, rfl, rfl⟩)))))
    · have cH : zMi l Gr (zc n w) 168 M_H_look (d + 1) [.ref 32, .int x1] S (fun v S' => v = lkC n S x1 ∧ S' = S) := by
        refine e_H_look (b_H_look_0 (fun z => absurd z b1) (fun _ => b_H_look_5 (fun z => absurd z b2) (fun _ => b_H_look_11 (fun z => absurd z (by rw [h14]; decide)) (fun _ => b_H_look_18 hg cl_lk (fun v S' e => ?_)))))
        obtain ⟨rfl, rfl⟩ := e
        exact b_H_look_23 (b_H_look_27 ⟨_, rfl, rfl, rfl⟩)
      have cM : zMi l Gr (zc n w) 168 M_Mo_look (d + 1) [.ref 105, .int x1] S (fun v S' => v = lkC n S x1 ∧ S' = S) := by
        rw [← lk_eq ck]
        exact e_Mo_look (b_Mo_look_0 (fun z => absurd z b3) (fun _ => b_Mo_look_4 (fun z => absurd z b4) (fun _ => b_Mo_look_10 (fun _ => mo_lk h18) (fun z => absurd z (by rw [h83]; decide)))))
      exact ro_i cH cM
  · have cH : zMi l Gr (zc n w) 168 M_H_look (d + 1) [.ref 32, .int x1] S (fun v S' => v = lkO S x1 ∧ S' = S) :=
      e_H_look (b_H_look_0 (fun _ => cl_28) (fun z => b_H_look_5 (fun _ => cl_28) (fun z2 => absurd (o18_in z z2) h18)))
    have cM : zMi l Gr (zc n w) 168 M_Mo_look (d + 1) [.ref 105, .int x1] S (fun v S' => v = lkO S x1 ∧ S' = S) := by
      rw [← lo_eq hb hc hl]
      refine e_Mo_look (b_Mo_look_0 (fun _ => mo_19 hg hn h18) (fun z => b_Mo_look_4 (fun _ => mo_19 hg hn h18) (fun z2 => absurd (o18_in (fun y => ?_) (fun y => ?_)) h18)))
      · have a := Int32.lt_iff_toInt_lt.mp y
        have b := Int32.lt_iff_toInt_lt.mp (Int32.not_le.mp z)
        have e0 : (0 : Int32).toInt = 0 := by decide
        have e1 : (1 : Int32).toInt = 1 := by decide
        omega
      · have a := Int32.lt_iff_toInt_lt.mp y
        have b := Int32.lt_iff_toInt_lt.mp (Int32.not_le.mp z2)
        have e0 : (8 : Int32).toInt = 8 := by decide
        have e1 : (9 : Int32).toInt = 9 := by decide
        omega
    exact ro_i cH cM
end LOK
