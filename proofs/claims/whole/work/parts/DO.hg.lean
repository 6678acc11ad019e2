/-! how high the operands of an EXPR lie: E2 -/
section HGT
variable {w D : Nat} {A : Nat → Nat → Prop} {S T : zS} {x i i' j j' r n N : Nat} {o : Int32} {e2 : Int}
theorem ef_o (h : S.1 4 x = o) (h30 : ¬ o = 30) (g2 : E2 o.toInt = e2) : ef2 S x = e2 := by
  unfold ef2
  rw [h, if_neg h30, g2]
theorem hs_1 (h : ef2 S x = e2) : hs (ef2 S) x (x + 1) = e2 := by
  rw [hs_s (Nat.le_refl _), hs_le _ (Nat.le_refl _), h]
  omega
theorem hs_n (hi : i ≤ x) (h : ef2 S x = e2) : hs (ef2 S) i (x + 1) = hs (ef2 S) i x + e2 := by rw [hs_s hi, h]
theorem hs_c (hi : i + 1 ≤ x) (h : ef2 S i = e2) : hs (ef2 S) i x = e2 + hs (ef2 S) (i + 1) x := by rw [hs_add (m := i + 1) (by omega) x hi, hs_1 h]
theorem ef_b {o : Nat} (h1 : 1 ≤ o) (h2 : o ≤ 18) (h : S.1 4 x = nI (37 + o)) : ef2 S x = -1 := ef_o h (E_bin h1 h2).1 (E_bin h1 h2).2.2
theorem hsA {G : Nat → Nat → Nat → Nat → Nat → Prop} (hB : ∀ p i i' j j', G p i i' j j' → i < i' ∧ j < j') (hG : ∀ p i i' j j', i' ≤ N → G p i i' j j' → hs (ef2 S) i i' = 1) {d : Nat} : ∀ m i i' j j', i' ≤ N → aA S T G d m i i' j j' → hs (ef2 S) i i' = m
  | 0, i, i', j, j', _, h => by
    rw [h.1, hs_le _ (Nat.le_refl _)]
    rfl
  | m + 1, i, i', j, j', hN, h => by
    obtain ⟨i1, j1, r, i2, j2, h1, -, h2, e1, e2, f1, f2, f3⟩ := h
    have a1 := aA_bnd hB _ _ _ _ _ h1
    have a2 := hB _ _ _ _ _ h2
    have k1 := hsA hB hG m _ _ _ _ (by omega) h1
    have k2 := hG _ _ _ _ _ (by omega) h2
    rw [e1, hs_n (e2 := 0) (by omega) (ef_o f2 (by decide) (by decide)), hs_add (m := i1) a1.1 i2 (by omega), k1, k2]
    omega
theorem hs1 (hN : N ≤ 4000) (hD : D ≤ 800) : ∀ n r i i' j j', i' ≤ N → aE w D A S T n r i i' j j' → hs (ef2 S) i i' = 1
  | 0, _, _, _, _, _, _, h => h.elim
  | n + 1, r, i, i', j, j', hi', h => by
    have ih := hs1 hN hD n
    have bd := aE_bnd (w := w) (D := D) (A := A) (S := S) (T := T) n
    rcases h with h | h | h | h | h | h | h | h | h | h | h
    · obtain ⟨v, hv, e0, e1, e2, f1, f2, f3, f4, f5⟩ := h
      rw [e1]
      exact hs_1 (ef_o f1 (by decide) (by decide))
    · obtain ⟨e0, e1, e2, f1, f2, f3⟩ := h
      rw [e1]
      exact hs_1 (ef_o f1 (by decide) (by decide))
    · obtain ⟨d, k, a, h1, h2, e1, e2, f1, f2, f3, f4⟩ := h
      rw [e1]
      exact hs_1 (ef_o f1 (by decide) (by decide))
    · obtain ⟨d, k, z, a, pb, q, i1, j1, h1, hz, hp, g, e1, e2, f1, f2, f3, f4, f5, f6, f7, f8, f9, f10, f11, f12, f13⟩ := h
      have a1 := bd _ _ _ _ _ g
      rw [e1, hs_c (e2 := 0) (by omega) (ef_o f1 (by decide) (by decide)), hs_n (e2 := 0) (by omega) (ef_o f7 (by decide) (by decide)), hs_n (e2 := 0) (by omega) (ef_o f4 (by decide) (by decide)), ih _ _ _ _ _ (by omega) g]
      rfl
    · obtain ⟨d, z, a, m, i1, j1, h1, g, hd, h15, e1, e2, f1, f2, f3, f4, f5, f6, f7, s7⟩ := h
      have a1 := aA_bnd bd _ _ _ _ _ g
      have k1 := hsA bd (fun p i i' j j' q1 q2 => ih p i i' j j' q1 q2) m _ _ _ _ (by omega) g
      have e30 : ef2 S i1 = 1 - (m : Int) := by
        unfold ef2
        rw [if_pos f3, f4, nI_clamp (by omega), s7, nI_clamp (by omega)]
      rw [e1, hs_c (e2 := 0) (by omega) (ef_o f1 (by decide) (by decide)), hs_n (by omega) e30, k1]
      omega
    · obtain ⟨i1, j1, g, e0, e1, e2, f1, f2, f3, f4⟩ := h
      have a1 := bd _ _ _ _ _ g
      rw [e1, hs_c (e2 := 0) (by omega) (ef_o f1 (by decide) (by decide)), hs_n (e2 := 0) (by omega) (ef_o f2 (by decide) (by decide)), ih _ _ _ _ _ (by omega) g]
      rfl
    · obtain ⟨q, i1, j1, i2, j2, g, g2, e0, e1, e2, f1, f2, f3, f4, f5, f6, f7, f8⟩ := h
      have a1 := bd _ _ _ _ _ g
      have a2 := bd _ _ _ _ _ g2
      rw [e1, hs_c (e2 := 0) (by omega) (ef_o f1 (by decide) (by decide)), hs_n (e2 := -1) (by omega) (ef_o f3 (by decide) (by decide)), hs_add (m := i1) (by omega) i2 (by omega), hs_c (i := i1) (e2 := 0) (by omega) (ef_o f2 (by decide) (by decide)), ih _ _ _ _ _ (by omega) g, ih _ _ _ _ _ (by omega) g2]
      rfl
    · obtain ⟨i1, j1, g, e1, e2, f1, f2⟩ := h
      have a1 := bd _ _ _ _ _ g
      have e0 : ef2 S i1 = 0 := by
        rcases f2 with ⟨q, -⟩ | ⟨q, -⟩ | ⟨q, -⟩ <;> exact ef_o q (by decide) (by decide)
      rw [e1, hs_n (by omega) e0, ih _ _ _ _ _ (by omega) g]
      rfl
    · obtain ⟨q, i1, j1, i2, j2, o, r1, g, g2, o1, o2, h1, h2, h3, h4, e1, e2, f1, f2, f3, f4, f5, f6, f7⟩ := h
      have a1 := bd _ _ _ _ _ g
      have a2 := bd _ _ _ _ _ g2
      rw [e1, hs_n (by omega) (ef_b o1 o2 f1), hs_add (m := i1) (by omega) i2 (by omega), ih _ _ _ _ _ (by omega) g, ih _ _ _ _ _ (by omega) g2]
      rfl
    · obtain ⟨i1, j1, i2, j2, i3, j3, g, g2, g3, e1, e2, f1, f2, f3, f4⟩ := h
      have a1 := bd _ _ _ _ _ g
      have a2 := bd _ _ _ _ _ g2
      have a3 := bd _ _ _ _ _ g3
      rw [e1, hs_n (e2 := -2) (by omega) (ef_o f1 (by decide) (by decide)), hs_add (m := i2) (by omega) i3 (by omega), hs_add (m := i1) (by omega) i2 (by omega), ih _ _ _ _ _ (by omega) g, ih _ _ _ _ _ (by omega) g2, ih _ _ _ _ _ (by omega) g3]
      rfl
    · obtain ⟨j1, g, e1, f1, f2, f3⟩ := h
      have a1 := bd _ _ _ _ _ g
      rw [hs_c (e2 := 0) (by omega) (ef_o f1 (by decide) (by decide)), ih _ _ _ _ _ hi' g]
      rfl
end HGT
