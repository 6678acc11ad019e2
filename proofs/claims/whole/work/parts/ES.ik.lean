/-! BUILD on both sides: if, what the first branch leaves -/
section YIK
variable {w : Nat} {Av Av2 : Nat → Nat → Prop} {S A A' B B' : zS} {hc vw nv nv2 u sd2 lo hi g : Nat} {vb vq vt : Nat → Nat}
theorem IF1_k (h : IF1 w Av S hc lo g u nv vb vq vt A B) (f : SF w (CXn w Av S) Av2 (hc + 1 + g) sd2 (u + 1) nv2 vw lo hi A A' B B') (hw : w ≤ 32) (hw1 : 1 ≤ w) (hgv : 0 < g → lo + g ≤ vw) (hgh : ∀ W, W < vw → lo + g ≤ W → hi ≤ W) (hvv : ∀ t, t < nv → vb t + vq t ≤ vw ∧ vt t ≤ w) (hvw : vw ≤ 256) : IF1 w Av S hc lo g u nv vb vq vt A' B' := by
  obtain ⟨⟨a1, a2⟩, ⟨a3, a4⟩, a5, a6⟩ := h
  obtain ⟨⟨f1, f2, -⟩, ⟨-, f4, f5, -⟩, vm, -⟩ := f
  have m1 : (hc + 1 + g) * w = (hc + 1) * w + g * w := Nat.add_mul _ _ _
  have m2 : (hc + 1) * w = hc * w + w := Nat.succ_mul _ _
  have e6 : ∀ c, 136 ≤ c → c ≤ 138 → B'.1 c u = B.1 c u := fun c q1 q2 => f4 u c (by omega) q1 q2
  refine ⟨⟨?_, ?_⟩, ⟨by rw [e6 137 (by omega) (by omega)]; exact a3, by rw [e6 138 (by omega) (by omega)]; exact a4⟩, fun t W x q1 q2 q3 q4 => ?_, fun k hk => ⟨?_, fun q => ?_⟩⟩
  · rw [f1 _ (by omega), e6 136 (by omega) (by omega)]
    exact a1
  · rw [e6 136 (by omega) (by omega)]
    exact vm _ a2
  · have hv := hvv t q1
    have e9 : B'.1 139 (8192 * u + 32 * W + x) = B.1 139 (8192 * u + 32 * W + x) := f5 _ 139 (by omega) (Or.inl rfl)
    have := a5 t W x q1 q2 q3 q4
    rw [e9]
    refine ⟨?_, vm _ this.2⟩
    rw [← this.1]
    by_cases q : lo ≤ W ∧ W < lo + g
    · rw [if_pos q, if_pos q]
      have m5 : (W - lo) * w + w ≤ g * w := by rw [← Nat.succ_mul]; exact Nat.mul_le_mul_right _ (by omega)
      exact f1 _ (by omega)
    · rw [if_neg q, if_neg q]
      have m6 : W * w + w ≤ vw * w := by rw [← Nat.succ_mul]; exact Nat.mul_le_mul_right _ (by omega)
      refine f2 _ (by omega) ?_
      by_cases y : W < lo
      · have : W * w + w ≤ lo * w := by rw [← Nat.succ_mul]; exact Nat.mul_le_mul_right _ y
        exact Or.inl (by omega)
      · have : hi * w ≤ W * w := Nat.mul_le_mul_right _ (hgh W (by omega) (by omega))
        exact Or.inr (Or.inl (by omega))
  · rw [f1 _ (by omega)]
    exact (a6 k hk).1
  · have g0 : 0 < g := by
      rcases Nat.eq_zero_or_pos g with y | y
      · rw [y, Nat.zero_mul] at hk
        omega
      · exact y
    have m7 : lo * w + g * w ≤ vw * w := by rw [← Nat.add_mul]; exact Nat.mul_le_mul_right _ (hgv g0)
    rw [f1 _ (by omega), f2 _ (by omega) (Or.inr (Or.inr q))]
    exact (a6 k hk).2 q
end YIK
