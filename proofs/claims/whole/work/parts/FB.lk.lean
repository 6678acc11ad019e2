/-! look() on both -/
/-- parties p < n that are done -/
def dnN (S : zS) : Nat → Nat
  | 0 => 0
  | p + 1 => dnN S p + (if S.1 157 p = S.1 73 68 + 2 then 1 else 0)
/-- dealt on both, or on none; what look() tells of it -/
def iCt (n : Nat) (S : zS) : Prop := (S.1 0 15 = 0 ∧ S.1 73 124 = 0 ∧ S.1 73 139 = 0 ∧ S.1 73 140 = 0) ∨ (S.1 0 15 = 1 ∧ S.1 73 124 = 1 ∧ S.1 65 10 = S.1 73 139 ∧ S.1 65 11 = S.1 73 140 ∧ S.1 65 12 = nI (dnN S n) ∧ S.1 0 14 = 1)
/-- what both tell of the compiler and the draws -/
def iLk (S : zS) : Prop := S.1 3 5 = S.1 73 7 ∧ (¬ S.1 3 5 = 0 → S.1 3 6 = S.1 73 8) ∧ S.1 59 2 = S.1 73 121 ∧ S.1 59 4 = S.1 73 120
def lkC (n : Nat) (S : zS) (x : Int32) : Int32 := if x = 1 then S.1 24 4 else if x = 2 then S.1 24 5 else if x = 3 then S.1 24 6 else if x = 4 then S.1 17 7 else if x = 5 then S.1 17 6 else if x = 6 then S.1 24 11 else if x = 7 then ((S.1 17 7) * ((nI n) - 1)) + ((S.1 24 5) * ((3 * (nI n)) - 1)) else S.1 45 18
section LOK
variable {l : Launch} {Gr : zG} {n w d : Nat} {S : zS} {x1 : Int32}
theorem wm_done0 (hn : n ≤ 16) (h : S.1 73 124 = 0) : zMi l Gr (zc n w) 168 M_Mo_done d [.ref 105] S (fun v S' => v = 0 ∧ S' = S) := by
  have loop : ∀ c p, p + c = n → zW l Gr (zc n w) 168 M_Mo_done d 4 [some (.ref 105), some (.int 0), some (.int (nI p))] [] S (fun v S' => ∃ x, v = some (.int x) ∧ x = 0 ∧ S' = S) := fun c => by
    induction c with
    | zero =>
      intro p hp
      exact b_Mo_done_4 (fun _ => b_Mo_done_48 ⟨_, rfl, rfl, rfl⟩) (fun y => absurd (nI_le (by omega) (by omega)) y)
    | succ c ih =>
      intro p hp
      refine b_Mo_done_4 (fun y => absurd y (nI_ge (by omega) (by omega))) (fun _ => b_Mo_done_12 (fun _ => b_Mo_done_39 (b_Mo_done_40 ?_)) (fun y => absurd h y))
      rw [show nI p + Int32.ofInt 1 = nI (p + 1) from nI_add p 1, show (0 : Int32) + 0 = 0 from rfl]
      exact ih (p + 1) (by omega)
  exact e_Mo_done (b_Mo_done_0 (loop n 0 (by omega)))
theorem wm_done1 (hn : n ≤ 16) (h : ¬ S.1 73 124 = 0) : zMi l Gr (zc n w) 168 M_Mo_done d [.ref 105] S (fun v S' => v = nI (dnN S n) ∧ S' = S) := by
  have loop : ∀ c p, p + c = n → zW l Gr (zc n w) 168 M_Mo_done d 4 [some (.ref 105), some (.int (nI (dnN S p))), some (.int (nI p))] [] S (fun v S' => ∃ x, v = some (.int x) ∧ x = nI (dnN S n) ∧ S' = S) := fun c => by
    induction c with
    | zero =>
      intro p hp
      have ep : p = n := by omega
      exact b_Mo_done_4 (fun _ => b_Mo_done_48 ⟨_, rfl, by rw [ep], rfl⟩) (fun y => absurd (nI_le (by omega) (by omega)) y)
    | succ c ih =>
      intro p hp
      have ck : (nI p).toNatClampNeg = p := nI_clamp (by omega)
      refine b_Mo_done_4 (fun y => absurd y (nI_ge (by omega) (by omega))) (fun _ => b_Mo_done_12 (fun y => absurd y h) (fun _ => b_Mo_done_20 (vp_in_nI (by omega) (by omega)) (fun y => b_Mo_done_39 (b_Mo_done_40 ?_)) (fun y => b_Mo_done_35 (b_Mo_done_40 ?_))))
      · rw [ck] at y
        have e : dnN S (p + 1) = dnN S p := by
          show dnN S p + (if S.1 157 p = S.1 73 68 + 2 then 1 else 0) = _
          rw [if_neg y]
          rfl
        have q := ih (p + 1) (by omega)
        rw [e] at q
        rw [show nI p + Int32.ofInt 1 = nI (p + 1) from nI_add p 1, show nI (dnN S p) + 0 = nI (dnN S p) from nI_add _ 0]
        exact q
      · rw [ck] at y
        have e : dnN S (p + 1) = dnN S p + 1 := by
          show dnN S p + (if S.1 157 p = S.1 73 68 + 2 then 1 else 0) = _
          rw [if_pos y]
        have q := ih (p + 1) (by omega)
        rw [e] at q
        rw [show nI p + Int32.ofInt 1 = nI (p + 1) from nI_add p 1, show nI (dnN S p) + 1 = nI (dnN S p + 1) from nI_add _ 1]
        exact q
  exact e_Mo_done (b_Mo_done_0 (loop n 0 (by omega)))
theorem cl_lk : zMi l Gr (zc n w) 168 M_H_lookAtCircuit d [.ref 32, .int x1] S (fun v S' => v = lkC n S x1 ∧ S' = S) := by
  refine e_H_lookAtCircuit (b_H_lookAtCircuit_0 (fun q => ?_) (fun q => ?_) (fun q => ?_) (fun q => ?_) (fun q => ?_) (fun q => ?_) (fun q => ?_) (fun q1 q2 q3 q4 q5 q6 q7 => ?_))
  · subst q; exact b_H_lookAtCircuit_44 ⟨_, rfl, rfl, rfl⟩
  · subst q; exact b_H_lookAtCircuit_52 ⟨_, rfl, rfl, rfl⟩
  · subst q; exact b_H_lookAtCircuit_60 ⟨_, rfl, rfl, rfl⟩
  · subst q; exact b_H_lookAtCircuit_68 ⟨_, rfl, rfl, rfl⟩
  · subst q; exact b_H_lookAtCircuit_76 ⟨_, rfl, rfl, rfl⟩
  · subst q; exact b_H_lookAtCircuit_84 ⟨_, rfl, rfl, rfl⟩
  · subst q; exact b_H_lookAtCircuit_92 ⟨_, rfl, rfl, rfl⟩
  · refine b_H_lookAtCircuit_124 ⟨_, rfl, ?_, rfl⟩
    unfold lkC
    rw [if_neg q1, if_neg q2, if_neg q3, if_neg q4, if_neg q5, if_neg q6, if_neg q7]
/-- what the reference tells of its circuit -/
def lkM (n : Nat) (S : zS) (x : Int32) : Int32 := if x = 1 then S.1 73 66 else if x = 2 then S.1 73 67 else if x = 3 then S.1 73 68 else if x = 4 then S.1 73 65 else if x = 5 then S.1 73 75 else if x = 6 then S.1 73 69 else if x = 7 then ((S.1 73 65) * ((nI n) - 1)) + ((S.1 73 67) * ((3 * (nI n)) - 1)) else S.1 73 70
theorem lk_eq (h : iCk n w S) : lkM n S x1 = lkC n S x1 := by
  obtain ⟨g, Dm, iw, no, bo, ⟨g', iw', -, -, h4, h66, -, -, h5, -, h6, -⟩, -, ⟨o11, o69, -⟩, -, ⟨-, i6, i7, i75, i65, -⟩, hst, -⟩ := h
  unfold lkM lkC
  rw [h4, h66, h5, h6, i7, i65, i6, i75, o11, o69, hst]
end LOK
