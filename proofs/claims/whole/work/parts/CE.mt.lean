/-! times: the reference -/
section MTI
variable {l : Launch} {Gr : zG} {n w : Nat} {d : Nat} {S A T B : zS} {c x y : Int32} {X Y O R : Nat → Int32} {Q : Option Value → zS → Prop} {a b m i : Nat}
theorem mm_copy (hw : w ≤ 32) : ∀ (k i : Nat) (B : zS), i + k = w → MEc T B → (∀ j, j < w → B.1 123 j = X j) → (∀ j, j < w → B.1 124 j = Y j) → (∀ j, j < i → B.1 127 j = X j ∧ B.1 126 j = Y j) → (∀ B', MEc T B' → FM (fun c j => (c = 126 ∨ c = 127) ∧ j < 40) B B' → (∀ j, j < w → B'.1 127 j = X j ∧ B'.1 126 j = Y j) → zW l Gr (zc n w) 168 M_Mo_multiply (d + 4) 40 [some (.ref 105), none, none] [] B' Q) → zW l Gr (zc n w) 168 M_Mo_multiply (d + 4) 2 [some (.ref 105), some (.int (nI i)), none] [] B Q
  | 0, i, B, h, hK, hX, hY, hB, hQ => b_Mo_multiply_2 (fun _ => hQ B hK FM_rfl (fun j hj => hB j (by omega))) (fun q => absurd (nI_le (a := w) (b := i) (by omega) (by omega)) q)
  | k + 1, i, B, h, hK, hX, hY, hB, hQ => by
    refine b_Mo_multiply_2 (fun q => absurd q (nI_ge (a := i) (b := w) (by omega) (by omega))) (fun _ => b_Mo_multiply_10 (vp_in_nI (by omega) (by omega)) ?_)
    rw [nI_clamp (by omega), show nI i + Int32.ofInt 1 = nI (i + 1) from nI_add i 1, hX i (by omega), hY i (by omega)]
    refine mm_copy hw k (i + 1) _ (by omega) (MEc_zi (MEc_zi hK (by omega)) (by omega)) (fun j hj => ?_) (fun j hj => ?_) (fun j hj => ⟨?_, ?_⟩) (fun B' e1 e2 e3 => hQ B' e1 ?_ e3)
    · rw [zi_c (by decide), zi_c (by decide)]
      exact hX j hj
    · rw [zi_c (by decide), zi_c (by decide)]
      exact hY j hj
    · rw [zi_c (by decide), zi_get]
      by_cases z : j = i
      · subst z
        rw [if_pos ⟨rfl, rfl⟩]
      · rw [if_neg (by omega)]
        exact (hB j (by omega)).1
    · rw [zi_get]
      by_cases z : j = i
      · subst z
        rw [if_pos ⟨rfl, rfl⟩]
      · rw [if_neg (by omega), zi_c (by decide)]
        exact (hB j (by omega)).2
    · exact FM_tr (FM_zi (P := fun c j => (c = 126 ∨ c = 127) ∧ j < 40) ⟨Or.inr rfl, by omega⟩) (FM_tr (FM_zi (P := fun c j => (c = 126 ∨ c = 127) ∧ j < 40) ⟨Or.inl rfl, by omega⟩) e2 (P'' := fun c j => (c = 126 ∨ c = 127) ∧ j < 40) (fun _ _ z => z) (fun _ _ z => z)) (fun _ _ z => z) (fun _ _ z => z)
theorem mm_128 (hg : ip_gk (lg_tbl, vwCl, Gr)) (hw : w ≤ 32) : ∀ (k i : Nat) (T B : zS), i + k = w → MEc T B → MW T → (∀ j, VC T (X j)) → (∀ j, VC T (Y j)) → (∀ j, j < w → B.1 127 j = X j ∧ B.1 126 j = Y j) → (∀ B', MEc ((andsP X (Y 0) k i).2 T).2 B' → FM (fun c j => c = 128 ∧ i ≤ j ∧ j < 40) B B' → (∀ j, j < k → B'.1 128 (i + j) = ((andsP X (Y 0) k i).2 T).1.getD j (-2)) → zW l Gr (zc n w) 168 M_Mo_multiply (d + 4) 78 [some (.ref 105), none, none] [] B' Q) → zW l Gr (zc n w) 168 M_Mo_multiply (d + 4) 42 [some (.ref 105), some (.int (nI i)), none] [] B Q
  | 0, i, T, B, h, hK, hW, vX, vY, hB, hQ => b_Mo_multiply_42 (fun _ => hQ B hK FM_rfl (fun j hj => absurd hj (by omega))) (fun q => absurd (nI_le (a := w) (b := i) (by omega) (by omega)) q)
  | k + 1, i, T, B, h, hK, hW, vX, vY, hB, hQ => by
    have o1 := m_op (b := true) hW (vX i) (vY 0)
    refine b_Mo_multiply_42 (fun q => absurd q (nI_ge (a := i) (b := w) (by omega) (by omega))) (fun _ => b_Mo_multiply_50 hg (vp_in_nI (by omega) (by omega)) (by
      rw [nI_clamp (by omega), (hB i (by omega)).1, show B.1 126 ((0 : Int32).toNatClampNeg) = Y 0 from (hB 0 (by omega)).2]
      exact wm_andK (d := d + 1) hg hK hW (vX i) (vY 0)) (fun v B1 h1 => b_Mo_multiply_71 (vp_in_nI (by omega) (by omega)) ?_))
    obtain ⟨ev, K1, F1⟩ := h1
    subst ev
    rw [nI_clamp (by omega), show nI i + Int32.ofInt 1 = nI (i + 1) from nI_add i 1]
    refine mm_128 hg hw k (i + 1) _ _ (by omega) (MEc_zi K1 (by omega)) (MOK_W o1.1) (fun j => VC_m o1.1 (vX j)) (fun j => VC_m o1.1 (vY j)) (fun j hj => ⟨?_, ?_⟩) (fun B' e1 e2 e3 => hQ B' e1 ?_ (fun j hj => ?_))
    · rw [zi_c (by decide), F1.1 127 j (by omega) (by omega)]
      exact (hB j hj).1
    · rw [zi_c (by decide), F1.1 126 j (by omega) (by omega)]
      exact (hB j hj).2
    · exact FM_tr (FM_x (P := fun _ _ => False) F1) (FM_tr (FM_zi (P := fun c j => c = 128 ∧ j = i) ⟨rfl, rfl⟩) e2 (P'' := fun c j => c = 128 ∧ i ≤ j ∧ j < 40) (by omega) (by omega)) (fun _ _ z => z.elim) (fun _ _ z => z)
    · cases j with
      | zero => exact (e2.1 128 (i + 0) (by omega) (by omega) (by omega)).trans zi_v
      | succ j => exact (congrArg (B'.1 128) (by omega)).trans (e3 j (by omega))
theorem mm_in (hg : ip_gk (lg_tbl, vwCl, Gr)) (hw : w ≤ 32) (hi : i < w) : ∀ (k j0 : Nat) (T B : zS), j0 + k = w - i → MEc T B → MW T → (∀ j, VC T (X j)) → (∀ j, VC T (Y j)) → (∀ j, j < w → B.1 127 j = X j ∧ B.1 126 j = Y j) → (∀ j, j < w → B.1 128 j = R j) → (∀ j, j < j0 → B.1 123 j = R (i + j)) → (∀ B', MEc ((andsP X (Y i) k j0).2 T).2 B' → FM (fun c j => (c = 123 ∧ j < 40) ∨ (c = 124 ∧ j0 ≤ j ∧ j < 40)) B B' → (∀ j, j < k → B'.1 124 (j0 + j) = ((andsP X (Y i) k j0).2 T).1.getD j (-2)) → (∀ j, j < w - i → B'.1 123 j = R (i + j)) → zW l Gr (zc n w) 168 M_Mo_multiply (d + 4) 142 [some (.ref 105), some (.int (nI i)), none] [] B' Q) → zW l Gr (zc n w) 168 M_Mo_multiply (d + 4) 90 [some (.ref 105), some (.int (nI i)), some (.int (nI j0))] [] B Q
  | 0, j0, T, B, h, hK, hW, vX, vY, hB, hR, h123, hQ => b_Mo_multiply_90 (fun _ => hQ B hK FM_rfl (fun j hj => absurd hj (by omega)) (fun j hj => h123 j (by omega))) (fun q => absurd (by rw [pk_sub (by omega)]; exact nI_le (by omega) (by omega)) q)
  | k + 1, j0, T, B, h, hK, hW, vX, vY, hB, hR, h123, hQ => by
    have o1 := m_op (b := true) hW (vX j0) (vY i)
    refine b_Mo_multiply_90 (fun q => absurd q (by rw [pk_sub (by omega)]; exact nI_ge (by omega) (by omega))) (fun _ => b_Mo_multiply_100 hg (vp_in_nI (by omega) (by omega)) (vp_in_nI (by omega) (by omega)) (by
      rw [nI_clamp (by omega), nI_clamp (by omega), (hB j0 (by omega)).1, (hB i (by omega)).2]
      exact wm_andK (d := d + 1) hg hK hW (vX j0) (vY i)) (fun v B1 h1 => b_Mo_multiply_121 (vp_in_nI (by omega) (by omega)) (by rw [nI_add]; exact vp_in_nI (by omega) (by omega)) (vp_in_nI (by omega) (by omega)) ?_))
    obtain ⟨ev, K1, F1⟩ := h1
    subst ev
    rw [nI_add, nI_clamp (by omega), nI_clamp (by omega), show nI j0 + Int32.ofInt 1 = nI (j0 + 1) from nI_add j0 1, F1.1 128 (i + j0) (by omega) (by omega), hR (i + j0) (by omega)]
    refine mm_in hg hw hi k (j0 + 1) _ _ (by omega) (MEc_zi (MEc_zi K1 (by omega)) (by omega)) (MOK_W o1.1) (fun j => VC_m o1.1 (vX j)) (fun j => VC_m o1.1 (vY j)) (fun j hj => ⟨?_, ?_⟩) (fun j hj => ?_) (fun j hj => ?_) (fun B' e1 e2 e3 e4 => hQ B' e1 ?_ (fun j hj => ?_) e4)
    · rw [zi_c (by decide), zi_c (by decide), F1.1 127 j (by omega) (by omega)]
      exact (hB j hj).1
    · rw [zi_c (by decide), zi_c (by decide), F1.1 126 j (by omega) (by omega)]
      exact (hB j hj).2
    · rw [zi_c (by decide), zi_c (by decide), F1.1 128 j (by omega) (by omega)]
      exact hR j hj
    · rw [zi_get]
      by_cases z : j = j0
      · subst z
        rw [if_pos ⟨rfl, rfl⟩]
      · rw [if_neg (by omega), zi_c (by decide), F1.1 123 j (by omega) (by omega)]
        exact h123 j (by omega)
    · exact FM_tr (FM_x (P := fun _ _ => False) F1) (FM_tr (FM_zi (P := fun c j => c = 124 ∧ j = j0) ⟨rfl, rfl⟩) (FM_tr (FM_zi (P := fun c j => c = 123 ∧ j = j0) ⟨rfl, rfl⟩) e2 (P'' := fun c j => (c = 123 ∧ j < 40) ∨ (c = 124 ∧ j0 + 1 ≤ j ∧ j < 40)) (by omega) (by omega)) (P'' := fun c j => (c = 123 ∧ j < 40) ∨ (c = 124 ∧ j0 ≤ j ∧ j < 40)) (by omega) (by omega)) (fun _ _ z => z.elim) (fun _ _ z => z)
    · cases j with
      | zero =>
        refine (e2.1 124 (j0 + 0) (by omega) (by omega) (by omega)).trans ?_
        rw [zi_c (by decide)]
        exact zi_v
      | succ j => exact (congrArg (B'.1 124) (by omega)).trans (e3 j (by omega))
theorem mm_back (hw : w ≤ 32) (hi : i < w) : ∀ (k j0 : Nat) (B : zS), j0 + k = w - i → MEc T B → (∀ j, j < w - i → B.1 125 j = O j) → (∀ j, j < j0 → B.1 128 (i + j) = O j) → (∀ B', MEc T B' → FM (fun c j => c = 128 ∧ i ≤ j ∧ j < 40) B B' → (∀ j, j < w - i → B'.1 128 (i + j) = O j) → zW l Gr (zc n w) 168 M_Mo_multiply (d + 4) 186 [some (.ref 105), some (.int (nI i)), none] [] B' Q) → zW l Gr (zc n w) 168 M_Mo_multiply (d + 4) 156 [some (.ref 105), some (.int (nI i)), some (.int (nI j0))] [] B Q
  | 0, j0, B, h, hK, hO, hB, hQ => b_Mo_multiply_156 (fun _ => hQ B hK FM_rfl (fun j hj => hB j (by omega))) (fun q => absurd (by rw [pk_sub (by omega)]; exact nI_le (by omega) (by omega)) q)
  | k + 1, j0, B, h, hK, hO, hB, hQ => by
    refine b_Mo_multiply_156 (fun q => absurd q (by rw [pk_sub (by omega)]; exact nI_ge (by omega) (by omega))) (fun _ => b_Mo_multiply_166 (vp_in_nI (by omega) (by omega)) (by rw [nI_add]; exact vp_in_nI (by omega) (by omega)) ?_)
    rw [nI_add, nI_clamp (by omega), nI_clamp (by omega), show nI j0 + Int32.ofInt 1 = nI (j0 + 1) from nI_add j0 1, hO j0 (by omega)]
    refine mm_back hw hi k (j0 + 1) _ (by omega) (MEc_zi hK (by omega)) (fun j hj => ?_) (fun j hj => ?_) (fun B' e1 e2 e3 => hQ B' e1 ?_ e3)
    · rw [zi_c (by decide)]
      exact hO j hj
    · rw [zi_get]
      by_cases z : j = j0
      · subst z
        rw [if_pos ⟨rfl, rfl⟩]
      · rw [if_neg (by omega)]
        exact hB j (by omega)
    · exact FM_tr (FM_zi (P := fun c j => c = 128 ∧ i ≤ j ∧ j < 40) ⟨rfl, by omega, by omega⟩) e2 (fun _ _ z => z) (fun _ _ z => z)
theorem mm_tim (hg : ip_gk (lg_tbl, vwCl, Gr)) (hw : w ≤ 32) : ∀ (k i : Nat) (R : Nat → Int32) (T B : zS), i + k = w → MEc T B → MW T → (∀ j, VC T (X j)) → (∀ j, VC T (Y j)) → (∀ j, VC T (R j)) → (∀ j, j < w → B.1 127 j = X j ∧ B.1 126 j = Y j) → (∀ j, j < w → B.1 128 j = R j) → (∀ B', MEc ((timP X Y w k i R).2 T).2 B' → FM (fun c j => ((123 ≤ c ∧ c ≤ 125) ∨ c = 128) ∧ j < 40) B B' → (∀ j, j < w → B'.1 128 j = ((timP X Y w k i R).2 T).1 j) → zW l Gr (zc n w) 168 M_Mo_multiply (d + 4) 192 [some (.ref 105), none, none] [] B' Q) → zW l Gr (zc n w) 168 M_Mo_multiply (d + 4) 80 [some (.ref 105), some (.int (nI i)), none] [] B Q
  | 0, i, R, T, B, h, hK, hW, vX, vY, vR, hB, hR, hQ => b_Mo_multiply_80 (fun _ => hQ B hK FM_rfl hR) (fun q => absurd (nI_le (a := w) (b := i) (by omega) (by omega)) q)
  | k + 1, i, R, T, B, h, hK, hW, vX, vY, vR, hB, hR, hQ => by
    have o1 := m_run hW (W_ands (X := X) (y := Y i) (w - i) 0 T vX (vY i))
    have o2 := m_run (MOK_W o1.1) (W_sum (X := fun j => R (i + j)) (Y := fun j => ((andsP X (Y i) (w - i) 0).2 T).1.getD j (-2)) (w - i) 0 (-2) _ (fun j => VC_m o1.1 (vR (i + j))) o1.2.1 VC_c2)
    refine b_Mo_multiply_80 (fun q => absurd q (nI_ge (a := i) (b := w) (by omega) (by omega))) (fun _ => b_Mo_multiply_88 (mm_in (X := X) (Y := Y) (R := R) hg hw (by omega) (w - i) 0 T B (by omega) hK hW vX vY hB hR (fun j hj => absurd hj (by omega)) (fun B1 e1 e2 e3 e4 => b_Mo_multiply_142 hg (by
      rw [pk_sub (by omega)]
      exact wm_sum (d := d) (m := w - i) (X := fun j => R (i + j)) (Y := fun j => ((andsP X (Y i) (w - i) 0).2 T).1.getD j (-2)) hg (by omega) e1 (MOK_W o1.1) VC_c2 (fun j => VC_m o1.1 (vR (i + j))) o1.2.1 e4 (fun j hj => by
        have := e3 j hj
        rw [Nat.zero_add] at this
        exact this)) (fun B2 h2 => b_Mo_multiply_154 ?_))))
    refine mm_back hw (by omega) (w - i) 0 B2 (by omega) h2.1 h2.2.2 (fun j hj => absurd hj (by omega)) (fun B3 q1 q2 q3 => b_Mo_multiply_186 ?_)
    rw [show nI i + Int32.ofInt 1 = nI (i + 1) from nI_add i 1]
    have F : FM (fun c j => ((123 ≤ c ∧ c ≤ 125) ∨ c = 128) ∧ j < 40) B B3 := FM_tr e2 (FM_tr h2.2.1 q2 (P'' := fun c j => ((123 ≤ c ∧ c ≤ 125) ∨ c = 128) ∧ j < 40) (by omega) (by omega)) (by omega) (fun _ _ z => z)
    refine mm_tim hg hw k (i + 1) _ _ B3 (by omega) q1 (MOK_W o2.1) (fun j => VC_m o2.1 (VC_m o1.1 (vX j))) (fun j => VC_m o2.1 (VC_m o1.1 (vY j))) (fun j => ?_) (fun j hj => ⟨?_, ?_⟩) (fun j hj => ?_) (fun B' z1 z2 z3 => hQ B' z1 (FM_tr F z2 (fun _ _ z => z) (fun _ _ z => z)) z3)
    · by_cases z : j < i
      · simp only [if_pos z]
        exact VC_m o2.1 (VC_m o1.1 (vR j))
      · simp only [if_neg z]
        exact o2.2.1 (j - i)
    · rw [F.1 127 j (by omega) (by omega) (by omega)]
      exact (hB j hj).1
    · rw [F.1 126 j (by omega) (by omega) (by omega)]
      exact (hB j hj).2
    · by_cases z : j < i
      · simp only [if_pos z]
        rw [q2.1 128 j (by omega) (by omega) (by omega), h2.2.1.1 128 j (by omega) (by omega) (by omega), e2.1 128 j (by omega) (by omega) (by omega)]
        exact hR j hj
      · simp only [if_neg z]
        have := q3 (j - i) (by omega)
        rw [show i + (j - i) = j by omega] at this
        exact this
theorem mm_out (hw : w ≤ 32) : ∀ (k j0 : Nat) (B : zS), j0 + k = w → MEc T B → (∀ j, j < w → B.1 128 j = O j) → (∀ j, j < j0 → B.1 125 j = O j) → (∀ B', MEc T B' → FM (fun c j => c = 125 ∧ j < 40) B B' → (∀ j, j < w → B'.1 125 j = O j) → Q none B') → zW l Gr (zc n w) 168 M_Mo_multiply (d + 4) 194 [some (.ref 105), some (.int (nI j0)), none] [] B Q
  | 0, j0, B, h, hK, hO, hB, hQ => b_Mo_multiply_194 (fun _ => b_Mo_multiply_220 (hQ B hK FM_rfl (fun j hj => hB j (by omega)))) (fun q => absurd (nI_le (by omega) (by omega)) q)
  | k + 1, j0, B, h, hK, hO, hB, hQ => by
    refine b_Mo_multiply_194 (fun q => absurd q (nI_ge (by omega) (by omega))) (fun _ => b_Mo_multiply_202 (vp_in_nI (by omega) (by omega)) ?_)
    rw [nI_clamp (by omega), show nI j0 + Int32.ofInt 1 = nI (j0 + 1) from nI_add j0 1, hO j0 (by omega)]
    refine mm_out hw k (j0 + 1) _ (by omega) (MEc_zi hK (by omega)) (fun j hj => ?_) (fun j hj => ?_) (fun B' e1 e2 e3 => hQ B' e1 ?_ e3)
    · rw [zi_c (by decide)]
      exact hO j hj
    · rw [zi_get]
      by_cases z : j = j0
      · subst z
        rw [if_pos ⟨rfl, rfl⟩]
      · rw [if_neg (by omega)]
        exact hB j (by omega)
    · exact FM_tr (FM_zi (P := fun c j => c = 125 ∧ j < 40) ⟨rfl, by omega⟩) e2 (fun _ _ z => z) (fun _ _ z => z)
theorem wm_multiply (hg : ip_gk (lg_tbl, vwCl, Gr)) (hw : w ≤ 32) (hw1 : 1 ≤ w) (hK : MEc T B) (hW : MW T) (vX : ∀ j, VC T (X j)) (vY : ∀ j, VC T (Y j)) (hX : ∀ j, j < w → B.1 123 j = X j) (hY : ∀ j, j < w → B.1 124 j = Y j) : zMv l Gr (zc n w) 168 M_Mo_multiply (d + 4) [.ref 105] B (fun B' => MEc ((timesP X Y w).2 T).2 B' ∧ FM (fun c j => (123 ≤ c ∧ c ≤ 128) ∧ j < 40) B B' ∧ ∀ j, j < w → B'.1 125 j = ((timesP X Y w).2 T).1 j) := by
  have o1 := m_run hW (W_ands (X := X) (y := Y 0) w 0 T vX (vY 0))
  refine e_Mo_multiply (b_Mo_multiply_0 (mm_copy (X := X) (Y := Y) hw w 0 B (by omega) hK hX hY (fun j hj => absurd hj (by omega)) (fun B1 e1 e2 e3 => b_Mo_multiply_40 (mm_128 (X := X) (Y := Y) hg hw w 0 T B1 (by omega) e1 hW vX vY e3 (fun B2 f1 f2 f3 => b_Mo_multiply_78 (mm_tim (X := X) (Y := Y) hg hw (w - 1) 1 (fun j => ((andsP X (Y 0) w 0).2 T).1.getD j (-2)) _ B2 (by omega) f1 (MOK_W o1.1) (fun j => VC_m o1.1 (vX j)) (fun j => VC_m o1.1 (vY j)) o1.2.1 (fun j hj => ⟨?_, ?_⟩) (fun j hj => ?_) (fun B3 g1 g2 g3 => b_Mo_multiply_192 (mm_out hw w 0 B3 (by omega) g1 g3 (fun j hj => absurd hj (by omega)) (fun B4 z1 z2 z3 => ⟨rfl, z1, ?_, z3⟩)))))))))
  · rw [f2.1 127 j (by omega) (by omega) (by omega)]
    exact (e3 j hj).1
  · rw [f2.1 126 j (by omega) (by omega) (by omega)]
    exact (e3 j hj).2
  · have := f3 j hj
    rw [Nat.zero_add] at this
    exact this
  · exact FM_tr e2 (FM_tr f2 (FM_tr g2 z2 (P'' := fun c j => (123 ≤ c ∧ c ≤ 128) ∧ j < 40) (by omega) (by omega)) (P'' := fun c j => (123 ≤ c ∧ c ≤ 128) ∧ j < 40) (by omega) (fun _ _ z => z)) (by omega) (fun _ _ z => z)
end MTI
