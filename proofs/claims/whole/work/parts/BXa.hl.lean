/-! SORTS of statements on both sides: single cells -/
section CEL
variable {A : Nat → Nat → Prop} {b : Nat → Int32} {t N D m tp mp tp' mp' sz mz sc u vw lo hi lo' hi' i i' j j' c k tq mq cq : Nat} {S S' T T' : zS}
theorem KSc_N (h : KSc S S' i i' m sc u) (h1 : 9 ≤ c) (h2 : c ≤ 15) : S'.1 c k = S.1 c k := h.1 c k (by omega) (by omega) (by omega) (by omega) (by omega) (by omega) (by omega) (by omega) (by omega)
theorem KSc_C (h : KSc S S' i i' m sc u) (h1 : c = 4 ∨ c = 6) : S'.1 c k = S.1 c k := h.1 c k (by omega) (by omega) (by omega) (by omega) (by omega) (by omega) (by omega) (by omega) (by omega)
theorem KSc_O (h : KSc S S' i i' m sc u) (h1 : c = 5 ∨ c = 7) (h2 : k < i ∨ i' ≤ k) : S'.1 c k = S.1 c k := h.1 c k (by omega) (by omega) (by omega) (by omega) (by omega) (by omega) (by omega) (by omega) (by omega)
theorem KSc_16 (h : KSc S S' i i' m sc u) (h1 : k < m) : S'.1 16 k = S.1 16 k := h.1 16 k (by omega) (by omega) (by omega) (by omega) (by omega) (by omega) (by omega) (by omega) (by omega)
theorem KSc_41 (h : KSc S S' i i' m sc u) (h1 : k < sc) : S'.1 41 k = S.1 41 k := h.1 41 k (by omega) (by omega) (by omega) (by omega) (by omega) (by omega) (by omega) (by omega) (by omega)
theorem KSc_42 (h : KSc S S' i i' m sc u) (h1 : k < u) : S'.1 42 k = S.1 42 k := h.1 42 k (by omega) (by omega) (by omega) (by omega) (by omega) (by omega) (by omega) (by omega) (by omega)
theorem KSc_43 (h : KSc S S' i i' m sc u) (h0 : c = 43 ∨ c = 44) (h1 : k + 1 < u) : S'.1 c k = S.1 c k := h.1 c k (by omega) (by omega) (by omega) (by omega) (by omega) (by omega) (by omega) (by omega) (by omega)
theorem KSc_8 (h : KSc S S' i i' m sc u) (h1 : ¬ k = 11) : S'.1 8 k = S.1 8 k := h.1 8 k (by omega) (by omega) (by omega) (by omega) (by omega) (by omega) (by omega) (by omega) (by omega)
theorem KSm_C (h : KSm T T' j j' m sc) (h1 : c = 76 ∨ c = 78 ∨ c = 79 ∨ c = 81 ∨ c = 89) : T'.1 c k = T.1 c k := h.1 c k (by omega) (by omega) (by omega) (by omega) (by omega) (by omega)
theorem KSm_80 (h : KSm T T' j j' m sc) (h1 : c = 80 ∨ (102 ≤ c ∧ c ≤ 107)) (h2 : k < j ∨ j' ≤ k) : T'.1 c k = T.1 c k := h.1 c k (by omega) (by omega) (by omega) (by omega) (by omega) (by omega)
theorem KSm_90 (h : KSm T T' j j' m sc) (h1 : 90 ≤ c) (h0 : c ≤ 97) (h2 : k < m) : T'.1 c k = T.1 c k := h.1 c k (by omega) (by omega) (by omega) (by omega) (by omega) (by omega)
theorem KSm_101 (h : KSm T T' j j' m sc) (h2 : k < sc) : T'.1 101 k = T.1 101 k := h.1 101 k (by omega) (by omega) (by omega) (by omega) (by omega) (by omega)
theorem KSm_73 (h : KSm T T' j j' m sc) (h1 : k = 9 ∨ k = 13 ∨ k = 47 ∨ k = 59 ∨ k = 60 ∨ k = 61 ∨ k = 62 ∨ k = 63) : T'.1 73 k = T.1 73 k := h.1 73 k (by omega) (by omega) (by omega) (by omega) (by omega) (by omega)
theorem KKc_N (h : KKc S S' i i' tq) (h1 : 8 ≤ c) (h2 : c ≤ 16) : S'.1 c k = S.1 c k := h.1 c k (by omega) (by omega) (by omega) (by omega)
theorem KKc_C (h : KKc S S' i i' tq) (h1 : c = 4 ∨ c = 6) : S'.1 c k = S.1 c k := h.1 c k (by omega) (by omega) (by omega) (by omega)
theorem KKc_O (h : KKc S S' i i' tq) (h1 : c = 5 ∨ c = 7) (h2 : k < i ∨ i' ≤ k) : S'.1 c k = S.1 c k := h.1 c k (by omega) (by omega) (by omega) (by omega)
theorem KKm_C (h : KKm T T' j j' mq cq) (h1 : c = 76 ∨ c = 78 ∨ c = 79 ∨ c = 81 ∨ (89 ≤ c ∧ c ≤ 97) ∨ c = 101) : T'.1 c k = T.1 c k := h.1 c k (by omega) (by omega) (by omega) (by omega)
theorem KKm_80 (h : KKm T T' j j' mq cq) (h1 : c = 80 ∨ (102 ≤ c ∧ c ≤ 107)) (h2 : k < j ∨ j' ≤ k) : T'.1 c k = T.1 c k := h.1 c k (by omega) (by omega) (by omega) (by omega)
/-- an if may have been told of an assigned NAME, an EXPR taken -/
theorem KSc_nt (hx : ∀ c k, ¬ ((c = 43 ∨ c = 44) ∧ k + 1 = u) → ¬ (c = 39 ∧ k = 3) → ¬ (c = 7 ∧ i ≤ k ∧ k < i') → S'.1 c k = S.1 c k) (h2 : ∀ c k, S'.2 c k = S.2 c k) : KSc S S' i i' m sc u := ⟨fun c k q1 q2 q3 q4 q5 q6 q7 q8 q9 => hx c k (fun y => q9 ⟨y.1, by omega⟩) (fun y => q5 ⟨y.1, Or.inl y.2⟩) (fun y => q2 ⟨Or.inr y.1, y.2⟩), h2⟩
theorem KSm_rf {jj : Nat} (a1 : j ≤ jj) (a2 : jj < j') (hx : ∀ c k, ¬ (c = 73 ∧ k = 43) → ¬ ((102 ≤ c ∧ c ≤ 107) ∧ k = jj) → T'.1 c k = T.1 c k) (h2 : ∀ c k, T'.2 c k = T.2 c k) : KSm T T' j j' m sc := ⟨fun c k q1 q2 q3 q4 q5 q6 => hx c k (fun y => q1 ⟨y.1, by omega⟩) (fun y => q4 ⟨Or.inr y.1, by omega⟩), h2⟩
theorem LSt_nt {jj : Nat} (h : LSt b t N D m A tp mp sz mz sc u vw lo hi S T) (hx : ∀ c k, ¬ ((c = 43 ∨ c = 44) ∧ k + 1 = u) → ¬ (c = 39 ∧ k = 3) → ¬ (c = 7 ∧ i ≤ k ∧ k < i') → S'.1 c k = S.1 c k) (hx2 : ∀ c k, S'.2 c k = S.2 c k) (hy : ∀ c k, ¬ (c = 73 ∧ k = 43) → ¬ ((102 ≤ c ∧ c ≤ 107) ∧ k = jj) → T'.1 c k = T.1 c k) (hy2 : ∀ c k, T'.2 c k = T.2 c k) (e3 : S'.1 39 3 = nI tp') (e43 : T'.1 73 43 = nI mp') (hB : BDS S' u lo' hi') : LSt b t N D m A tp' mp' sz mz sc u vw lo' hi' S' T' := by
  have hL := h.1
  exact LSt_s h (KSc_nt (i := i) (i' := i') hx hx2) (KSm_rf (j := jj) (j' := jj + 1) (Nat.le_refl _) (Nat.lt_succ_self _) hy hy2) ((hx 8 11 (by omega) (by omega) (by omega)).trans hL.1.2.1.1) ((hy 73 34 (by omega) (by omega)).trans hL.1.2.2.1) ((hx 3 5 (by omega) (by omega) (by omega)).trans hL.2.1.2.2) e3 ((hy 73 7 (by omega) (by omega)).trans hL.2.2.2.1.2.2) e43 ((hy 73 56 (by omega) (by omega)).trans hL.2.2.2.2.2) ((hx 39 5 (by omega) (by omega) (by omega)).trans h.2.2.1.1) ((hy 73 49 (by omega) (by omega)).trans h.2.2.1.2) ((hx 39 9 (by omega) (by omega) (by omega)).trans h.2.2.2.1.1) ((hx 39 10 (by omega) (by omega) (by omega)).trans h.2.2.2.2.1.1) ⟨Nat.le_refl _, h.2.2.2.2.1.2⟩ hB
theorem BDS_k (h : BDS S u lo hi) (hx : ∀ k, S'.1 43 k = S.1 43 k ∧ S'.1 44 k = S.1 44 k) : BDS S' u lo hi := by
  rcases h with q | ⟨u', q1, q2, q3, q4⟩
  · exact Or.inl q
  · exact Or.inr ⟨u', q1, (hx u').1.trans q2, (hx u').2.trans q3, q4⟩
end CEL
