/-! an EXPR leaves one EXPR more -/
def NE (S : zS) (i i' : Nat) (d1 d2 : Int) : Prop := i ≤ i' ∧ hs (ef1 S) i i' = d1 ∧ hs (ef2 S) i i' = d2
section NEs
variable {w : Nat} {S T : zS} {ni : Nat → Nat → Prop} {i i' m : Nat} {d1 d2 e1 e2 : Int}
theorem NE_app (h1 : NE S i m d1 d2) (h2 : NE S m i' e1 e2) : NE S i i' (d1 + e1) (d2 + e2) :=
  ⟨Nat.le_trans h1.1 h2.1, by rw [hs_add h1.1 i' h2.1, h1.2.1, h2.2.1], by rw [hs_add h1.1 i' h2.1, h1.2.2, h2.2.2]⟩
theorem NE_nil : NE S i i 0 0 := ⟨Nat.le_refl _, hs_le _ (Nat.le_refl _), hs_le _ (Nat.le_refl _)⟩
theorem NE_1 {o : Int32} (ho : S.1 4 i = o) (h30 : ¬ o = 30) (g1 : E1 o.toInt = e1) (g2 : E2 o.toInt = e2) : NE S i (i + 1) e1 e2 := by
  have f1 : ef1 S i = e1 := by unfold ef1; rw [ho, g1]
  have f2 : ef2 S i = e2 := by unfold ef2; rw [ho, if_neg h30, g2]
  refine ⟨by omega, ?_, ?_⟩
  · rw [hs_s (Nat.le_refl _), hs_le _ (Nat.le_refl _), f1]; omega
  · rw [hs_s (Nat.le_refl _), hs_le _ (Nat.le_refl _), f2]; omega
theorem NE_eq {f1 f2 : Int} (h : NE S i i' d1 d2) (a1 : d1 = f1) (a2 : d2 = f2) : NE S i i' f1 f2 := by subst a1 a2; exact h
theorem gA_ne {G : Nat → Nat → Nat → Nat → Nat → Prop} {hd cl : Nat} (hG : ∀ p i i' j j', G p i i' j j' → NE S i i' 1 1 ∧ i < i') : ∀ m i i' j j', gA S T G hd cl m i i' j j' → NE S i i' 0 m ∧ i + m ≤ i'
  | 0, i, i', j, j', h => by
    rw [h.1]
    exact ⟨NE_nil, Nat.le_refl _⟩
  | m + 1, i, i', j, j', h => by
    obtain ⟨i1, j1, p1, i2, j2, h1, h2, e1, e2, s4, -⟩ := h
    obtain ⟨a1, a2⟩ := gA_ne hG m _ _ _ _ h1
    obtain ⟨b1, b2⟩ := hG _ _ _ _ _ h2
    rw [e1]
    exact ⟨NE_eq (NE_app (NE_app a1 b1) (NE_1 (e1 := -1) (e2 := 0) s4 (by decide) (by decide) (by decide))) (by omega) (by omega), by omega⟩
theorem gE_ne : ∀ n p i i' j j', gE w S T ni n p i i' j j' → i' ≤ 4000 → NE S i i' 1 1 ∧ i < i'
  | 0, _, _, _, _, _, h, _ => h.elim
  | n + 1, p, i, i', j, j', h, hb => by
    have bd := (gE_bnd (n + 1) p i i' j j' h).1
    refine ⟨?_, bd⟩
    have ih := gE_ne n
    rcases h with h | h | h | h | h | h | h | h | h | h | h
    · obtain ⟨v, -, e1, -, s, -⟩ := h
      rw [e1]; exact NE_1 s (by decide) (by decide) (by decide)
    · obtain ⟨e1, -, s, -⟩ := h
      rw [e1]; exact NE_1 s (by decide) (by decide) (by decide)
    · obtain ⟨v, -, e1, -, s, -⟩ := h
      rw [e1]; exact NE_1 s (by decide) (by decide) (by decide)
    · obtain ⟨v, p1, i1, j1, -, h1, e1, -, s1, -, s2, -, -, s3, -⟩ := h
      obtain ⟨a1, -⟩ := ih _ _ _ _ _ h1 (by omega)
      rw [e1]
      exact NE_eq (NE_app (NE_app (NE_app (NE_1 (e1 := 0) (e2 := 0) s1 (by decide) (by decide) (by decide)) a1) (NE_1 (e1 := -1) (e2 := 0) s2 (by decide) (by decide) (by decide))) (NE_1 (e1 := 1) (e2 := 0) s3 (by decide) (by decide) (by decide))) (by omega) (by omega)
    · obtain ⟨v, m, i1, j1, -, h1, e1, -, s1, -, s7, s2, s5, -⟩ := h
      have bnd := gA_bnd (gE_bnd n) _ _ _ _ _ h1
      obtain ⟨a1, a2⟩ := gA_ne' ih m _ _ _ _ h1 (by omega)
      have A := NE_app (NE_1 (e1 := 1) (e2 := 0) s1 (by decide) (by decide) (by decide)) a1
      have f1 : ef1 S i1 = 0 := by unfold ef1; rw [s2]; rfl
      have f2 : ef2 S i1 = 1 - (m : Int) := by unfold ef2; rw [if_pos s2, s5, nI_clamp (by omega), s7, nI_clamp (by omega)]
      rw [e1]
      refine ⟨by omega, ?_, ?_⟩
      · rw [hs_s A.1, A.2.1, f1]; omega
      · rw [hs_s A.1, A.2.2, f2]; omega
    · obtain ⟨p1, i1, j1, h1, e1, -, s1, s2, -⟩ := h
      obtain ⟨a1, -⟩ := ih _ _ _ _ _ h1 (by omega)
      rw [e1]
      exact NE_eq (NE_app (NE_app (NE_1 (e1 := 0) (e2 := 0) s1 (by decide) (by decide) (by decide)) a1) (NE_1 (e1 := 0) (e2 := 0) s2 (by decide) (by decide) (by decide))) (by omega) (by omega)
    · obtain ⟨p1, i1, j1, p2, i2, j2, h1, h2, e1, -, s1, s2, -, s3, -⟩ := h
      have b2 := gE_bnd n _ _ _ _ _ h2
      obtain ⟨a1, -⟩ := ih _ _ _ _ _ h1 (by omega)
      obtain ⟨a2, -⟩ := ih _ _ _ _ _ h2 (by omega)
      rw [e1]
      exact NE_eq (NE_app (NE_app (NE_app (NE_app (NE_1 (e1 := 0) (e2 := 0) s1 (by decide) (by decide) (by decide)) a1) (NE_1 (e1 := 0) (e2 := 0) s2 (by decide) (by decide) (by decide))) a2) (NE_1 (e1 := -1) (e2 := -1) s3 (by decide) (by decide) (by decide))) (by omega) (by omega)
    · obtain ⟨p1, i1, j1, h1, e1, -, -, -, -, so⟩ := h
      obtain ⟨a1, -⟩ := ih _ _ _ _ _ h1 (by omega)
      rw [e1]
      rcases so with ⟨s, -⟩ | ⟨s, -⟩ | ⟨s, -⟩
      all_goals exact NE_eq (NE_app a1 (NE_1 (e1 := 0) (e2 := 0) s (by decide) (by decide) (by decide))) (by omega) (by omega)
    · obtain ⟨i1, j1, p2, i2, j2, o, a, h1, h2, o1, o2, e1, -, s, -⟩ := h
      have b2 := gE_bnd n _ _ _ _ _ h2
      obtain ⟨a1, -⟩ := ih _ _ _ _ _ h1 (by omega)
      obtain ⟨a2, -⟩ := ih _ _ _ _ _ h2 (by omega)
      obtain ⟨x30, x1, x2⟩ := E_bin o1 o2
      rw [e1]
      exact NE_eq (NE_app (NE_app a1 a2) (NE_1 s x30 x1 x2)) (by omega) (by omega)
    · obtain ⟨i1, j1, p2, i2, j2, p3, i3, j3, a, h1, h2, h3, e1, -, s, -⟩ := h
      have b2 := gE_bnd n _ _ _ _ _ h2
      have b3 := gE_bnd n _ _ _ _ _ h3
      obtain ⟨a1, -⟩ := ih _ _ _ _ _ h1 (by omega)
      obtain ⟨a2, -⟩ := ih _ _ _ _ _ h2 (by omega)
      obtain ⟨a3, -⟩ := ih _ _ _ _ _ h3 (by omega)
      rw [e1]
      exact NE_eq (NE_app (NE_app (NE_app a1 a2) a3) (NE_1 (e1 := -2) (e2 := -2) s (by decide) (by decide) (by decide))) (by omega) (by omega)
    · obtain ⟨p1, j1, h1, -, s1, -⟩ := h
      obtain ⟨a1, -⟩ := ih _ _ _ _ _ h1 hb
      exact NE_eq (NE_app (NE_1 (e1 := 0) (e2 := 0) s1 (by decide) (by decide) (by decide)) a1) (by omega) (by omega)
where
  gA_ne' {n hd cl : Nat} (hG : ∀ p i i' j j', gE w S T ni n p i i' j j' → i' ≤ 4000 → NE S i i' 1 1 ∧ i < i') : ∀ m i i' j j', gA S T (gE w S T ni n) hd cl m i i' j j' → i' ≤ 4000 → NE S i i' 0 m ∧ i + m ≤ i'
    | 0, i, i', j, j', h, _ => by
      rw [h.1]
      exact ⟨NE_nil, Nat.le_refl _⟩
    | m + 1, i, i', j, j', h, hb => by
      obtain ⟨i1, j1, p1, i2, j2, h1, h2, e1, e2, s4, -⟩ := h
      have b2 := gE_bnd n _ _ _ _ _ h2
      obtain ⟨a1, a2⟩ := gA_ne' hG m _ _ _ _ h1 (by omega)
      obtain ⟨c1, c2⟩ := hG _ _ _ _ _ h2 (by omega)
      rw [e1]
      exact ⟨NE_eq (NE_app (NE_app a1 c1) (NE_1 (e1 := -1) (e2 := 0) s4 (by decide) (by decide) (by decide))) (by omega) (by omega), by omega⟩
end NEs
