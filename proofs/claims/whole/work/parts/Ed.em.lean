/-! the reference's inputs, ahead of BUILD -/
def N23 (T : zS) (j j' : Nat) : Prop := ∀ x, j ≤ x → x < j' → ¬ T.1 78 x = 23
/-- the reference's words of inputs, iw of them -/
def INs (S B0 B : zS) (iw : Nat) : Prop := (∀ c i, ¬ (c = 73 ∧ (i = 65 ∨ i = 75)) → ¬ (115 ≤ c ∧ c ≤ 117) → B.1 c i = B0.1 c i) ∧ (∀ c i, ¬ c = 118 → B.2 c i = B0.2 c i) ∧ B.1 73 75 = nI iw ∧ B.1 73 65 = nI (iW S iw) ∧ ∀ a, a < iw → B.1 115 a = S.1 18 a ∧ B.1 116 a = S.1 19 a ∧ B.1 117 a = nI (iW S a) ∧ B.2 118 a = 0
section N3S
variable {l : Launch} {Gr : zG} {n w d D M : Nat} {S T B B0 : zS} {Av Av' : Nat → Nat → Prop} {i i' j j' k iw iw' vw vw' p x : Nat} {o : Int32} {H : Nat → Nat → Nat → Nat → Prop} {Q : Option Value → zS → Prop}
theorem N_nil : N23 T j j := fun x q1 q2 => absurd q2 (by omega)
theorem N_app (A : N23 T j k) (B : N23 T k j') : N23 T j j' := fun x q1 q2 => by
  by_cases z : x < k
  · exact A x q1 z
  · exact B x (by omega) q2
theorem N_1 (ho : T.1 78 j = o) (h : ¬ o = 23 := by decide) : N23 T j (j + 1) := fun x q1 q2 => by
  rw [show x = j by omega, ho]
  exact h
theorem aA_n {G : Nat → Nat → Nat → Nat → Nat → Prop} (hG : ∀ p i i' j j', G p i i' j j' → N23 T j j') {d : Nat} : ∀ m i i' j j', aA S T G d m i i' j j' → N23 T j j'
  | 0, i, i', j, j', h => by rw [h.2]; exact N_nil
  | m + 1, i, i', j, j', h => by
    obtain ⟨i1, j1, r, i2, j2, h1, -, h2, e1, e2, f1, f2, f3⟩ := h
    rw [e2]
    exact N_app (N_app (aA_n hG m _ _ _ _ h1) (hG _ _ _ _ _ h2)) (N_1 f3)
theorem aE_n : ∀ n r i i' j j', aE w D Av S T n r i i' j j' → N23 T j j'
  | 0, _, _, _, _, _, h => h.elim
  | n + 1, r, i, i', j, j', h => by
    have ih := aE_n n
    rcases h with h | h | h | h | h | h | h | h | h | h | h
    · obtain ⟨v, hv, e0, e1, e2, f1, f2, f3, f4, f5⟩ := h
      rw [e2]
      exact N_app (N_1 f3) (N_1 f4)
    · obtain ⟨e0, e1, e2, f1, f2, f3⟩ := h
      rw [e2]
      rcases f3 with ⟨-, f3⟩ | ⟨-, f3⟩ <;> exact N_app (N_1 f2) (N_1 f3)
    · obtain ⟨d, k, a, h1, h2, e1, e2, f1, f2, f3, f4⟩ := h
      rw [e2]
      exact N_app (N_1 f3) (N_1 f4)
    · obtain ⟨d, k, z, a, pb, q, i1, j1, h1, hz, hp, g, e1, e2, f1, f2, f3, f4, f5, f6, f7, f8, f9, f10, f11, -⟩ := h
      rw [e2]
      exact N_app (N_app (N_app (N_1 f9) (N_1 f10)) (ih _ _ _ _ _ g)) (N_1 f11)
    · obtain ⟨d, z, a, m, i1, j1, h1, g, hd, h15, e1, e2, f1, f2, f3, f4, f5, f6, f7, -⟩ := h
      rw [e2]
      exact N_app (N_app (N_app (N_1 f5) (N_1 f6)) (aA_n ih m _ _ _ _ g)) (N_1 f7)
    · obtain ⟨i1, j1, g, e0, e1, e2, f1, f2, f3, f4⟩ := h
      rw [e2]
      exact N_app (N_app (N_1 f3) (ih _ _ _ _ _ g)) (N_1 f4)
    · obtain ⟨q, i1, j1, i2, j2, g, g2, e0, e1, e2, f1, f2, f3, f4, f5, f6, f7, -⟩ := h
      rw [e2]
      exact N_app (N_app (N_app (N_app (N_1 f5) (ih _ _ _ _ _ g)) (N_1 f6)) (ih _ _ _ _ _ g2)) (N_1 f7)
    · obtain ⟨i1, j1, g, e1, e2, f1, f2⟩ := h
      rw [e2]
      exact N_app (ih _ _ _ _ _ g) (N_1 f1)
    · obtain ⟨q, i1, j1, i2, j2, o, r1, g, g2, o1, o2, h1, h2, h3, h4, e1, e2, f1, f2, f3, f4, -⟩ := h
      rw [e2]
      exact N_app (N_app (ih _ _ _ _ _ g) (ih _ _ _ _ _ g2)) (N_1 f4)
    · obtain ⟨i1, j1, i2, j2, i3, j3, g, g2, g3, e1, e2, f1, f2, f3, -⟩ := h
      rw [e2]
      exact N_app (N_app (N_app (ih _ _ _ _ _ g) (ih _ _ _ _ _ g2)) (ih _ _ _ _ _ g3)) (N_1 f3)
    · obtain ⟨j1, g, e1, f1, f2, f3⟩ := h
      rw [e1]
      exact N_app (N_app (N_1 f2) (ih _ _ _ _ _ g)) (N_1 f3)
theorem aX_n {r : Nat} (h : aX w D Av r S T i i' j j') : N23 T j j' := by
  obtain ⟨n, h⟩ := h
  exact aE_n n _ _ _ _ _ h
theorem aL_n {G : aSG} (hG : ∀ lo hi v v' A A' p i i' j j', G lo hi v v' A A' p i i' j j' → N23 T j j') {lo hi : Nat} : ∀ k v v' A A' i i' j j', aL G lo hi k v v' A A' i i' j j' → N23 T j j'
  | 0, v, v', A, A', i, i', j, j', h => by rw [h.2.1]; exact N_nil
  | k + 1, v, v', A, A', i, i', j, j', h => by
    obtain ⟨i1, j1, p1, v1, A1, h1, h2⟩ := h
    exact N_app (aL_n hG k _ _ _ _ _ _ _ _ h1) (hG _ _ _ _ _ _ _ _ _ _ _ h2)
theorem aS_n : ∀ n lo hi v v' A A' p i i' j j', aS w D S T n lo hi v v' A A' p i i' j j' → N23 T j j'
  | 0, _, _, _, _, _, _, _, _, _, _, _, h => h.elim
  | n + 1, lo, hi, v, v', A, A', p, i, i', j, j', h => by
    have ih := aS_n n
    rcases h with ⟨h, -⟩ | ⟨h, -⟩ | h | h | h
    · obtain ⟨d, a, r, i1, j1, -, -, -, h1, e1, e2, f1, f2, f3, f4, f5, f6, t1, t2, t3, t4, t5⟩ := h
      rw [e2]
      exact N_app (N_app (N_app (N_app (N_1 t1) (N_1 t3)) (aX_n h1)) (N_1 t4)) (N_1 t5)
    · obtain ⟨d, a, r, z, pb, q, i1, j1, i2, j2, -, -, -, -, -, -, h1, h2, e1, e2, f1, f2, f3, f4, f5, f6, f7, f8, f9, f10, t1, t2, t3, t4, t5, t6, t7, t8, t9⟩ := h
      rw [e2]
      exact N_app (N_app (N_app (N_app (N_app (N_app (N_1 t1) (N_1 t3)) (aX_n h1)) (N_1 t4)) (aX_n h2)) (N_1 t7)) (N_1 t9.1)
    · obtain ⟨e, r, z, j1, q1, q2, q3, q4, q5, q6, q7, q8, q9, q10, q11, e2, f1, f2, f3, t1, t2, t3, t4, t5, t6, t7, hx⟩ := h
      rw [e2]
      rcases hx with ⟨i1, hx, -⟩ | ⟨ej, -⟩
      · exact N_app (N_app (N_app (N_app (N_1 t1) (N_1 t3)) (aX_n hx)) (N_1 t4)) (N_1 t7)
      · rw [ej] at t4 t7 ⊢
        exact N_app (N_app (N_app (N_1 t1) (N_1 t3)) (N_1 t4)) (N_1 t7)
    · obtain ⟨i1, j1, k2, i2, j2, k3, i3, j3, lo1, hi1, vw2, A2, A3, hx, L1, L2, eA, b1, b2, b3, b4, b5, e1, e2, f1, f2, f3, f4, f5, f6, f7, f8, f9, f10, t1, t2, t3, t4, t5, shp⟩ := h
      have c1 := N_app (N_app (N_app (N_1 t1) (aX_n hx)) (N_1 t3)) (aL_n ih _ _ _ _ _ _ _ _ _ L1)
      have c2 := aL_n ih _ _ _ _ _ _ _ _ _ L2
      rw [e2]
      rcases shp with ⟨k0, hE⟩ | ⟨hE, hne, t36, -⟩
      · rw [if_pos ⟨k0, hE⟩] at c2
        exact N_app (N_app (N_app c1 c2) (N_1 t4)) (N_1 t5)
      · rw [if_neg (fun q => hne q.2)] at c2
        exact N_app (N_app (N_app (N_app c1 (N_1 t36)) c2) (N_1 t4)) (N_1 t5)
    · obtain ⟨e, i1, j1, i2, j2, k3, i3, j3, A3, he, g11, g12, g13, hf, hx1, hx2, L3, eA, e1, e2, f1, f2, f3, f4, f5, f6, f7, f8, f9, f10, f11, f12, t20, tp, t38, t41, t41', t39, t80, t81, t40, t79, t21⟩ := h
      rw [e2]
      exact N_app (N_app (N_app (N_app (N_app (N_app (N_app (N_app (N_app (N_1 t20) (N_1 t38)) (aX_n hx1)) (N_1 t41)) (aX_n hx2)) (N_1 t41')) (N_1 t39)) (aL_n ih _ _ _ _ _ _ _ _ _ L3)) (N_1 t40)) (N_1 t21.1)
theorem par_n : ∀ k, (∀ a, a < k → T.1 78 (j + a) = 27) → N23 T j (j + k)
  | 0, _ => N_nil
  | k + 1, h => N_app (par_n k (fun a ha => h a (by omega))) (N_1 (h k (by omega)))
/-- where no input is nothing happens -/
theorem io_skip (hM : M ≤ 12000) (h13 : B.1 73 13 = nI M) (hT : ∀ x, B.1 78 x = T.1 78 x) (hj' : j' ≤ M) : ∀ c j, j + c = j' → N23 T j j' → zW l Gr (zc n w) 168 M_Mo_inputsOfAll (d + 1) 12 [some (.ref 105), some (.int (nI j')), none, none] [] B Q → zW l Gr (zc n w) 168 M_Mo_inputsOfAll (d + 1) 12 [some (.ref 105), some (.int (nI j)), none, none] [] B Q
  | 0, j, h, _, q => by rw [show j = j' by omega]; exact q
  | c + 1, j, h, hn, q => by
    refine b_Mo_inputsOfAll_12 (fun y => absurd y (by rw [h13]; exact nI_ge (a := j) (b := M) (by omega) (by omega))) (fun _ => b_Mo_inputsOfAll_20 (vp_in_nI (by omega) (by omega)) (fun _ => b_Mo_inputsOfAll_153 ?_) (fun y => absurd (by rw [nI_clamp (by omega), hT] at y; exact y) (hn j (Nat.le_refl _) (by omega))))
    rw [show nI j + Int32.ofInt 1 = nI (j + 1) from nI_add j 1]
    exact io_skip hM h13 hT hj' c (j + 1) (by omega) (fun x q1 q2 => hn x (by omega) q2) q
end N3S
