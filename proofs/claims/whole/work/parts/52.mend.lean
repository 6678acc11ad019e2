section MEN
variable {l : Launch} {Gr : zG} {n w : Nat} {d : Nat} {S : zS}
theorem wm_l1 {m : Nat} (hm : m ≤ 20) {Q : Option Value → zS → Prop} (hN : ¬ (∀ k, k < m → tx (S.1 74 k)) → Q (some (.int (-1))) S) (hY : (∀ k, k < m → tx (S.1 74 k)) → zW l Gr (zc n w) 168 M_Mo_end d 83 [some (.ref 105), some (.int (nI m)), none] [] S Q) : ∀ (j i : Nat), i + j = m → (∀ k, k < i → tx (S.1 74 k)) → zW l Gr (zc n w) 168 M_Mo_end d 26 [some (.ref 105), some (.int (nI m)), some (.int (nI i))] [] S Q
  | 0, i, h, hp => b_Mo_end_26 (fun _ => hY (by rw [show m = i by omega]; exact hp)) (fun q => absurd (nI_le (a := m) (b := i) (by omega) (by omega)) q)
  | j + 1, i, h, hp => by
    have hc : (nI i).toNatClampNeg = i := nI_clamp (by omega)
    have hin : vp_in (nI i) 20 := vp_in_nI (by omega) (by omega)
    have go : tx (S.1 74 i) → zW l Gr (zc n w) 168 M_Mo_end d 77 [some (.ref 105), some (.int (nI m)), some (.int (nI i))] [] S Q := fun ht => b_Mo_end_77 (by
      rw [show nI i + Int32.ofInt 1 = nI (i + 1) from nI_add i 1]
      exact wm_l1 hm hN hY j (i + 1) (by omega) (fun k hk => by
        by_cases e : k = i
        · subst e; exact ht
        · exact hp k (by omega)))
    have no : ¬ tx (S.1 74 i) → zW l Gr (zc n w) 168 M_Mo_end d 75 [none, none, none] [] S Q := fun ht => b_Mo_end_75 (hN (fun z => ht (z i (by omega))))
    refine b_Mo_end_26 (fun q => absurd q (nI_ge (a := i) (b := m) (by omega) (by omega))) (fun _ => b_Mo_end_31 hin (fun q => ?_) (fun q => b_Mo_end_42 hin (fun q2 => ?_) (fun q2 => b_Mo_end_53 hin (fun q3 => ?_) (fun q3 => b_Mo_end_64 hin (fun q4 => ?_) (fun q4 => ?_)))))
    · rw [hc] at q
      exact go (Or.inr (Or.inl q))
    · rw [hc] at q2
      exact go (Or.inr (Or.inr q2))
    · rw [hc] at q q2 q3
      exact no (fun z => z.elim (fun z => absurd q3 (Int32.not_lt.mpr z.1)) (fun z => z.elim q q2))
    · rw [hc] at q3 q4
      exact go (Or.inl ⟨Int32.not_lt.mp q3, q4⟩)
    · rw [hc] at q q2 q4
      exact no (fun z => z.elim (fun z => q4 z.2) (fun z => z.elim q q2))
theorem wm_l2 {m t : Nat} (hm : m ≤ 20) (h5 : t + m ≤ 4000) {S0 : zS} (h0 : S0.1 73 5 = nI t) {Q : Option Value → zS → Prop} (hY : ∀ T : zS, pI S0 T 75 t m (S0.1 74) → zW l Gr (zc n w) 168 M_Mo_end d 113 [some (.ref 105), some (.int (nI m)), none] [] T Q) : ∀ (j i : Nat) (S : zS), i + j = m → pI S0 S 75 t i (S0.1 74) → zW l Gr (zc n w) 168 M_Mo_end d 85 [some (.ref 105), some (.int (nI m)), some (.int (nI i))] [] S Q
  | 0, i, S, h, hp => b_Mo_end_85 (fun _ => hY S (by rw [show m = i by omega]; exact hp)) (fun q => absurd (nI_le (a := m) (b := i) (by omega) (by omega)) q)
  | j + 1, i, S, h, hp => by
    have e5 : S.1 73 5 = nI t := by rw [hp.1 73 (by decide)]; exact h0
    refine b_Mo_end_85 (fun q => absurd q (nI_ge (a := i) (b := m) (by omega) (by omega))) (fun _ => b_Mo_end_90 (vp_in_nI (by omega) (by omega)) (by rw [e5, nI_add]; exact vp_in_nI (by omega) (by omega)) ?_)
    rw [show nI i + Int32.ofInt 1 = nI (i + 1) from nI_add i 1, e5, nI_add, nI_clamp (by omega), nI_clamp (by omega), hp.1 74 (by decide)]
    exact wm_l2 hm h5 h0 hY j (i + 1) _ (by omega) (pI_s hp)
theorem wm_l3 {S0 : zS} {Q : Option Value → zS → Prop} (hY : ∀ T : zS, pI S0 T 74 0 20 (fun _ => 0) → Q (some (.int (T.1 73 5))) T) : ∀ (j i : Nat) (S : zS), i + j = 20 → pI S0 S 74 0 i (fun _ => 0) → zW l Gr (zc n w) 168 M_Mo_end d 125 [some (.ref 105), none, some (.int (nI i))] [] S Q
  | 0, i, S, h, hp => b_Mo_end_125 (fun _ => b_Mo_end_144 (hY S (by rw [show 20 = i by omega]; exact hp))) (fun q => absurd (nI_le (a := 20) (b := i) (by omega) (by omega)) q)
  | j + 1, i, S, h, hp => b_Mo_end_125 (fun q => absurd q (nI_ge (a := i) (b := 20) (by omega) (by omega))) (fun _ => b_Mo_end_131 (vp_in_nI (by omega) (by omega)) (by
      rw [show nI i + Int32.ofInt 1 = nI (i + 1) from nI_add i 1, nI_clamp (by omega)]
      have := pI_s hp
      rw [Nat.zero_add] at this
      exact wm_l3 hY j (i + 1) _ (by omega) this))
theorem wm_end {x1 : Int32} {t : Nat} (ht : t ≤ 4000) (h4 : S.1 73 5 = nI t) : zMi l Gr (zc n w) 168 M_Mo_end d [.ref 105, .int x1] S (fun v S' => (v = -1 ∧ S' = S ∧ ∀ m : Nat, x1 = nI m → m ≤ 20 → t + m ≤ 4000 → ¬ (∀ k, k < m → tx (S.1 74 k))) ∨ ∃ m : Nat, x1 = nI m ∧ m ≤ 20 ∧ t + m ≤ 4000 ∧ (∀ k, k < m → tx (S.1 74 k)) ∧ v = nI (t + m) ∧ ∃ T : zS, pI S T 75 t m (S.1 74) ∧ pI (zi T 73 5 (nI (t + m))) S' 74 0 20 (fun _ => 0)) := by
  refine e_Mo_end (b_Mo_end_0 (fun q => b_Mo_end_22 ⟨_, rfl, Or.inl ⟨rfl, rfl, fun m e hm _ => ?_⟩⟩) (fun q => b_Mo_end_4 (fun q2 => b_Mo_end_22 ⟨_, rfl, Or.inl ⟨rfl, rfl, fun m e hm _ => ?_⟩⟩) (fun q2 => ?_)))
  · subst e
    exact absurd q (nI_pos (by omega))
  · subst e
    exact absurd q2 (nI_nlt (a := 20) (b := m) hm (by omega))
  · have h20 : x1 ≤ nI 20 := Int32.not_lt.mp q2
    obtain ⟨m, hm, rfl⟩ := nI_of2 (M := nI 20) (n := 20) (nI_toInt (by omega)) q h20
    refine b_Mo_end_10 (fun q3 => b_Mo_end_24 ?_) (fun q3 => b_Mo_end_22 ⟨_, rfl, Or.inl ⟨rfl, rfl, fun m' e hm' h5 => ?_⟩⟩)
    · rw [h4, nI_add] at q3
      have h5 : t + m ≤ 4000 := (nI_leI (a := t + m) (b := 4000) (by omega) (by omega)).mp q3
      refine wm_l1 hm ?no ?yes m 0 (by omega) (fun k hk => absurd hk (Nat.not_lt_zero k))
      case no =>
        intro z
        refine ⟨_, rfl, Or.inl ⟨rfl, rfl, fun m' e hm' _ => ?_⟩⟩
        have : m = m' := (nI_eq (by omega) (by omega)).mp e
        subst this
        exact z
      case yes =>
        intro hall
        refine b_Mo_end_83 (wm_l2 hm h5 h4 (fun T hT => b_Mo_end_113 ?_) m 0 S (by omega) (pI_0 _ _ _ _))
        have e5 : T.1 73 5 + nI m = nI (t + m) := by rw [hT.1 73 (by decide), h4, nI_add]
        rw [e5]
        refine wm_l3 (fun T2 h2 => ⟨_, rfl, Or.inr ⟨m, rfl, hm, h5, hall, ?_, T, hT, h2⟩⟩) 20 0 _ rfl (pI_0 _ _ _ _)
        rw [h2.1 73 (by decide)]
        exact zi_v
    · have : m = m' := (nI_eq (by omega) (by omega)).mp e
      subst this
      rw [h4, nI_add] at q3
      exact absurd (nI_le (a := t + m) (b := 4000) h5 (by omega)) q3
end MEN
/-! the tie between both: ready bytes, tape -/
def iRT (S : zS) : Prop := ∃ t : Nat, t ≤ 4000 ∧ S.1 0 4 = nI t ∧ S.1 73 5 = nI t ∧ (∀ k, k < 20 → bt (S.1 1 k) (S.1 74 k)) ∧ ∀ k, k < t → tx (S.1 2 k) ∧ S.1 75 k = S.1 2 k
theorem bt_0 : bt 0 0 := ⟨0, by omega, rfl, rfl⟩
theorem iRT_feed {S S1 S2 : zS} {x1 x2 x3 x4 x5 : Int32} (h : iRT S) (h1 : pI S S1 1 0 20 (p5 x1 x2 x3 x4 x5 cb)) (h2 : pI S1 S2 74 0 20 (p5 x1 x2 x3 x4 x5 mb)) : iRT S2 := by
  obtain ⟨t, ht, a1, a2, a3, a4⟩ := h
  refine ⟨t, ht, by rw [h2.1 0 (by decide), h1.1 0 (by decide)]; exact a1, by rw [h2.1 73 (by decide), h1.1 73 (by decide)]; exact a2, fun k hk => ?_, fun k hk => ?_⟩
  · have e1 := h1.2.2.2 k hk
    have e2 := h2.2.2.2 k hk
    rw [Nat.zero_add] at e1 e2
    rw [e2, h2.1 1 (by decide), e1]
    exact bt_5 k hk
  · rw [h2.1 2 (by decide), h1.1 2 (by decide), h2.1 75 (by decide), h1.1 75 (by decide)]
    exact a4 k hk
