/-! gate(): both over a circuit -/
def gtH (S : zS) (x1 x2 : Int32) : Int32 := if S.1 0 14 = 0 then -1 else if x1 < 0 then -1 else if x1 < S.1 24 4 then (if x2 = 0 then (if S.1 28 x1.toNatClampNeg = -1 then 0 else 1) else if x2 = 1 then S.1 27 x1.toNatClampNeg else if x2 = 2 then S.1 25 x1.toNatClampNeg else if x2 = 3 then S.1 26 x1.toNatClampNeg else -1) else -1
def gtM (S : zS) (x1 x2 : Int32) : Int32 := if S.1 73 83 = 0 then -1 else if x1 < 0 then -1 else if S.1 73 66 ≤ x1 then -1 else if x2 = 0 then S.1 111 x1.toNatClampNeg else if x2 = 1 then S.1 112 x1.toNatClampNeg else if x2 = 2 then S.1 113 x1.toNatClampNeg else if x2 = 3 then S.1 114 x1.toNatClampNeg else -1
theorem vp_lt {x : Int32} {G N : Nat} (h0 : ¬ x < 0) (h1 : x < nI G) (hG : G ≤ N) (hN : N < 2 ^ 31) : vp_in x N := by
  obtain ⟨j, hj, rfl⟩ := nI_of h0
  exact vp_in_nI (Nat.lt_of_lt_of_le ((nI_ltI hj (by omega)).mp h1) hG) hN
section GT
variable {l : Launch} {Gr : zG} {n w : Nat} {d : Nat} {S : zS}
theorem w_gate {x1 x2 : Int32} {G : Nat} (hG : G ≤ 40000) (h4 : S.1 24 4 = nI G) : zMi l Gr (zc n w) 168 M_H_gate d [.ref 32, .int x1, .int x2] S (fun v S' => v = gtH S x1 x2 ∧ S' = S) := by
  refine e_H_gate (b_H_gate_0 (fun q => b_H_gate_22 ⟨_, rfl, by simp [gtH, q], rfl⟩) (fun q => b_H_gate_7 (fun q1 => b_H_gate_22 ⟨_, rfl, by simp [gtH, q1], rfl⟩) (fun q1 => b_H_gate_11 (fun q2 => ?_) (fun q2 => b_H_gate_22 ⟨_, rfl, by simp [gtH, q2], rfl⟩))))
  have hin : vp_in x1 40000 := vp_lt q1 (by rw [← h4]; exact q2) hG (by omega)
  refine b_H_gate_24 (fun q3 => b_H_gate_56 hin (fun q4 => b_H_gate_73 (b_H_gate_74 ⟨_, rfl, ?_, rfl⟩)) (fun q4 => b_H_gate_69 (b_H_gate_74 ⟨_, rfl, ?_, rfl⟩))) (fun q3 => b_H_gate_75 hin ⟨_, rfl, ?_, rfl⟩) (fun q3 => b_H_gate_85 hin ⟨_, rfl, ?_, rfl⟩) (fun q3 => b_H_gate_95 hin ⟨_, rfl, ?_, rfl⟩) (fun q3 q4 q5 q6 => b_H_gate_105 ⟨_, rfl, ?_, rfl⟩)
  · simp [gtH, q, q1, q2, q3, q4]
  · simp [gtH, q, q1, q2, q3, q4]
  · subst q3; simp [gtH, q, q1, q2]
  · subst q3; simp [gtH, q, q1, q2]
  · subst q3; simp [gtH, q, q1, q2]
  · simp [gtH, q, q1, q2, q3, q4, q5, q6]
theorem wm_gate {x1 x2 : Int32} {G : Nat} (hG : G ≤ 40000) (h4 : S.1 73 66 = nI G) : zMi l Gr (zc n w) 168 M_Mo_gate d [.ref 105, .int x1, .int x2] S (fun v S' => v = gtM S x1 x2 ∧ S' = S) := by
  have bad : ∀ k : Int32, x2 = k → (k < 0 ∨ ¬ k ≤ 3) → (¬ x2 = 0 ∧ ¬ x2 = 1 ∧ ¬ x2 = 2 ∧ ¬ x2 = 3) := by
    intro k e h
    subst e
    refine ⟨?_, ?_, ?_, ?_⟩ <;> (intro z; subst z; rcases h with h | h <;> first | exact absurd h (by decide) | exact h (by decide))
  refine e_Mo_gate (b_Mo_gate_0 (fun q => b_Mo_gate_28 ⟨_, rfl, by simp [gtM, q], rfl⟩) (fun q => b_Mo_gate_7 (fun q1 => b_Mo_gate_28 ⟨_, rfl, by simp [gtM, q1], rfl⟩) (fun q1 => b_Mo_gate_11 (fun q2 => b_Mo_gate_28 ⟨_, rfl, by simp [gtM, q2], rfl⟩) (fun q2 => b_Mo_gate_19 (fun q3 => b_Mo_gate_28 ⟨_, rfl, ?_, rfl⟩) (fun q3 => b_Mo_gate_23 (fun q4 => ?_) (fun q4 => b_Mo_gate_28 ⟨_, rfl, ?_, rfl⟩))))))
  · obtain ⟨z0, z1, z2, z3⟩ := bad x2 rfl (Or.inl q3)
    simp [gtM, q, q1, q2, z0, z1, z2, z3]
  · have hin : vp_in x1 40000 := vp_lt q1 (Int32.not_le.mp (by rw [← h4]; exact q2)) hG (by omega)
    refine b_Mo_gate_30 (fun q5 => b_Mo_gate_43 (fun q6 => b_Mo_gate_57 (fun q7 => b_Mo_gate_71 hin (b_Mo_gate_77 ⟨_, rfl, ?_, rfl⟩)) (fun q7 => b_Mo_gate_62 hin (b_Mo_gate_77 ⟨_, rfl, ?_, rfl⟩))) (fun q6 => b_Mo_gate_48 hin (b_Mo_gate_77 ⟨_, rfl, ?_, rfl⟩))) (fun q5 => b_Mo_gate_34 hin (b_Mo_gate_77 ⟨_, rfl, ?_, rfl⟩))
    · have z3 : x2 = 3 := by
        obtain ⟨j, hj, rfl⟩ := nI_of2 (M := nI 3) (n := 3) (nI_toInt (by omega)) q3 q4
        match j, hj with
        | 0, _ => exact absurd rfl q5
        | 1, _ => exact absurd rfl q6
        | 2, _ => exact absurd rfl q7
        | 3, _ => rfl
      subst z3
      simp [gtM, q, q1, q2]
    · subst q7; simp [gtM, q, q1, q2]
    · subst q6; simp [gtM, q, q1, q2]
    · subst q5; simp [gtM, q, q1, q2]
  · obtain ⟨z0, z1, z2, z3⟩ := bad x2 rfl (Or.inr q4)
    simp [gtM, q, q1, q2, z0, z1, z2, z3]
end GT
