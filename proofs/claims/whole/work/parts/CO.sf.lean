/-! the class's shift; the reference's swap, pops and push -/
/-- what a shift by s makes of X -/
def SHf (w : Nat) (s : Int32) (X F : Nat → Int32) : Prop := ∀ j, j < w → ((nI j - s < 0 ∨ ¬ nI j - s < nI w) ∧ F j = -2) ∨ (∃ i, i < w ∧ nI j - s = nI i ∧ F j = X i)
section SHI
variable {l : Launch} {Gr : zG} {n w : Nat} {d : Nat} {S A T B : zS} {s : Int32} {X Y F : Nat → Int32} {Q : Option Value → zS → Prop} {a b m q : Nat}
theorem ki_shift (hw : w ≤ 32) (ha : a + w ≤ 9682 * w) (hF : SHf w s X F) : ∀ (k j : Nat) (A : zS), j + k = w → KEc S A → (∀ i, i < w → A.1 51 i = X i) → (∀ i, i < j → A.1 57 (a + i) = F i) → (∀ A', KEc S A' → FK (fun c i => c = 57 ∧ a ≤ i ∧ i < a + w) A A' → (∀ i, i < w → A'.1 57 (a + i) = F i) → Q none A') → zW l Gr (zc n w) 168 M_Logic_shift (d + 1) 17 [some (.ref 82), some (.ref 89), some (.int (nI a)), some (.int s), some (.int (nI j)), none] [] A Q
  | 0, j, A, h, hK, h1, h2, hQ => b_Logic_shift_r89_17 (fun _ => b_Logic_shift_r89_70 (hQ A hK FK_rfl (fun i hi => h2 i (by omega)))) (fun q => absurd (nI_le (a := w) (b := j) (by omega) (by omega)) q)
  | k + 1, j, A, h, hK, h1, h2, hQ => by
    have main : ∀ v, v = F j → zW l Gr (zc n w) 168 M_Logic_shift (d + 1) 63 [some (.ref 82), some (.ref 89), some (.int (nI a)), some (.int s), some (.int (nI j)), none] [.int v, .int (nI a + nI j), .ref 89] A Q := fun v hv => by
      refine b_Logic_shift_r89_63 (by rw [nI_add]; exact vp_in_nI (by omega) (by omega)) ?_
      rw [nI_add, nI_clamp (by omega), show nI j + Int32.ofInt 1 = nI (j + 1) from nI_add j 1, hv]
      refine ki_shift hw ha hF k (j + 1) _ (by omega) (KEc_zi hK (by omega)) (fun i hi => ?_) (fun i hi => ?_) (fun A' e1 e2 e3 => hQ A' e1 (FK_tr (FK_zi (P := fun c i => c = 57 ∧ a ≤ i ∧ i < a + w) ⟨rfl, by omega, by omega⟩) e2 (fun _ _ z => z) (fun _ _ z => z)) e3)
      · rw [zi_c (by decide)]
        exact h1 i hi
      · rw [zi_get]
        by_cases z : i = j
        · rw [if_pos ⟨rfl, by omega⟩, z]
        · rw [if_neg (by omega)]
          exact h2 i (by omega)
    refine b_Logic_shift_r89_17 (fun q => absurd q (nI_ge (a := j) (b := w) (by omega) (by omega))) (fun _ => b_Logic_shift_r89_26 (fun z => b_Logic_shift_r89_51 (main _ ?_)) (fun z => b_Logic_shift_r89_42 (fun z2 => ?_) (fun z2 => b_Logic_shift_r89_51 (main _ ?_))))
    · rcases hF j (by omega) with q | ⟨i, hi, e, _⟩
      · exact q.2.symm
      · rw [e] at z
        exact absurd z (nI_pos (by omega))
    · rcases hF j (by omega) with q | ⟨i, hi, e, e2⟩
      · exact absurd (q.1.resolve_left z) (fun y => y z2)
      · rw [e]
        refine b_Logic_shift_r89_56 (vp_in_nI (by omega) (by omega)) ?_
        rw [nI_clamp (by omega)]
        exact main _ ((h1 i hi).trans e2.symm)
    · rcases hF j (by omega) with q | ⟨i, hi, e, _⟩
      · exact q.2.symm
      · rw [e] at z2
        exact absurd ((nI_ltI (by omega) (by omega)).mpr hi) z2
theorem w_shift (hw : w ≤ 32) (ha : a + w ≤ 9682 * w) (hF : SHf w s X F) (hK : KEc S A) (hX : ∀ j, j < w → A.1 57 (a + j) = X j) : zMv l Gr (zc n w) 168 M_Logic_shift (d + 1) [.ref 82, .ref 89, .int (nI a), .int s] A (fun A' => KEc S A' ∧ FK (fun c i => (c = 51 ∧ i < w) ∨ (c = 57 ∧ a ≤ i ∧ i < a + w)) A A' ∧ ∀ i, i < w → A'.1 57 (a + i) = F i) := by
  have cw : (nI w).toNatClampNeg = w := nI_clamp (by omega)
  have ca : (nI a).toNatClampNeg = a := nI_clamp (by omega)
  refine e_Logic_shift_r89 (b_Logic_shift_r89_0 (nI_pos (by omega)) (nI_pos (by omega)) (by rw [cw, ca]; exact ha) (by rw [cw]; exact Nat.le_of_eq (Nat.zero_add w)) ?_)
  rw [cw, ca, show (0 : Int32).toNatClampNeg = 0 from rfl]
  have F1 : FK (fun c i => c = 51 ∧ i < w) A (zI A 51 (va_cpy (A.1 57) (A.1 51) a 0 w)) := FK_zI (fun j hj => by
    show (if 0 ≤ j ∧ j < 0 + w then _ else A.1 51 j) = _
    rw [if_neg (by omega)])
  refine ki_shift hw ha hF w 0 _ (by omega) (KEc_zI hK (by omega)) (fun i hi => ?_) (fun i hi => absurd hi (by omega)) (fun A' e1 e2 e3 => ⟨rfl, e1, FK_tr F1 e2 (by omega) (by omega), e3⟩)
  show (if 0 ≤ i ∧ i < 0 + w then A.1 57 (a + (i - 0)) else _) = X i
  rw [if_pos (by omega), Nat.sub_zero]
  exact hX i hi
/-! the reference's stack -/
theorem mq_swap (hw : w ≤ 32) : ∀ (k j : Nat) (B : zS), j + k = w → MEc T B → (∀ i, i < j → B.1 123 i = Y i ∧ B.1 124 i = X i) → (∀ i, j ≤ i → i < w → B.1 123 i = X i ∧ B.1 124 i = Y i) → (∀ B', MEc T B' → FM (fun c i => (c = 123 ∨ c = 124) ∧ i < 40) B B' → (∀ i, i < w → B'.1 123 i = Y i ∧ B'.1 124 i = X i) → Q none B') → zW l Gr (zc n w) 168 M_Mo_swap d 2 [some (.ref 105), some (.int (nI j)), none] [] B Q
  | 0, j, B, h, hK, h1, h2, hQ => b_Mo_swap_2 (fun _ => b_Mo_swap_42 (hQ B hK FM_rfl (fun i hi => h1 i (by omega)))) (fun q => absurd (nI_le (a := w) (b := j) (by omega) (by omega)) q)
  | k + 1, j, B, h, hK, h1, h2, hQ => by
    refine b_Mo_swap_2 (fun q => absurd q (nI_ge (a := j) (b := w) (by omega) (by omega))) (fun _ => b_Mo_swap_10 (vp_in_nI (by omega) (by omega)) ?_)
    rw [nI_clamp (by omega), (h2 j (by omega) (by omega)).1, (h2 j (by omega) (by omega)).2, show nI j + Int32.ofInt 1 = nI (j + 1) from nI_add j 1]
    refine mq_swap hw k (j + 1) _ (by omega) (MEc_zi (MEc_zi hK (by omega)) (by omega)) (fun i hi => ⟨?_, ?_⟩) (fun i q1 q2 => ⟨?_, ?_⟩) (fun B' e1 e2 e3 => hQ B' e1 (FM_tr (FM_zi (P := fun c i => (c = 123 ∨ c = 124) ∧ i < 40) ⟨Or.inl rfl, by omega⟩) (FM_tr (FM_zi (P := fun c i => (c = 123 ∨ c = 124) ∧ i < 40) ⟨Or.inr rfl, by omega⟩) e2 (P'' := fun c i => (c = 123 ∨ c = 124) ∧ i < 40) (fun _ _ z => z) (fun _ _ z => z)) (fun _ _ z => z) (fun _ _ z => z)) e3)
    · rw [zi_c (by decide), zi_get]
      by_cases z : i = j
      · rw [if_pos ⟨rfl, z⟩, z]
      · rw [if_neg (by omega)]
        exact (h1 i (by omega)).1
    · rw [zi_get]
      by_cases z : i = j
      · rw [if_pos ⟨rfl, z⟩, z]
      · rw [if_neg (by omega), zi_c (by decide)]
        exact (h1 i (by omega)).2
    · rw [zi_c (by decide), zi_get, if_neg (by omega)]
      exact (h2 i (by omega) q2).1
    · rw [zi_get, if_neg (by omega), zi_c (by decide)]
      exact (h2 i (by omega) q2).2
theorem wm_swap (hw : w ≤ 32) (hK : MEc T B) (hX : ∀ j, j < w → B.1 123 j = X j) (hY : ∀ j, j < w → B.1 124 j = Y j) : zMv l Gr (zc n w) 168 M_Mo_swap d [.ref 105] B (fun B' => MEc T B' ∧ FM (fun c i => (c = 123 ∨ c = 124) ∧ i < 40) B B' ∧ ∀ i, i < w → B'.1 123 i = Y i ∧ B'.1 124 i = X i) := e_Mo_swap (b_Mo_swap_0 (mq_swap hw w 0 B (by omega) hK (fun _ h => absurd h (by omega)) (fun i _ hi => ⟨hX i hi, hY i hi⟩) (fun B' e1 e2 e3 => ⟨rfl, e1, e2, e3⟩)))
end SHI
