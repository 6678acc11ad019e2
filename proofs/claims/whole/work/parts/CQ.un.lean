/-! the reference's unary operators -/
/-- an operand O of m bits lies at place q, the circuit is T's -/
def OPd (T B B' : zS) (q m : Nat) (O : Nat → Int32) : Prop := MEc T B' ∧ FM (fun c i => (c = 73 ∧ i = 85) ∨ ((123 ≤ c ∧ c ≤ 130) ∧ i < 40) ∨ (c = 122 ∧ 32 * q ≤ i ∧ i < 32 * q + 32)) B B' ∧ B'.1 73 85 = nI (q + 1) ∧ ∀ i, i < m → B'.1 122 (32 * q + i) = O i
section UNA
variable {l : Launch} {Gr : zG} {n w : Nat} {d : Nat} {S A T B : zS} {s v x1 : Int32} {X Y F : Nat → Int32} {Q : Option Value → zS → Prop} {a b m q : Nat}
theorem mq_un28 (hw : w ≤ 32) : ∀ (k j : Nat) (B : zS), j + k = w → MEc T B → (∀ i, i < j → B.1 123 i = -2 ∧ B.1 124 i = X i ^^^ 1) → (∀ i, j ≤ i → i < w → B.1 123 i = X i) → (∀ B', MEc T B' → FM (fun c i => (c = 123 ∨ c = 124) ∧ i < 40) B B' → (∀ i, i < w → B'.1 123 i = -2 ∧ B'.1 124 i = X i ^^^ 1) → zW l Gr (zc n w) 168 M_Mo_unary (d + 4) 64 [some (.ref 105), none, some (.int (nI w)), none] [] B' Q) → zW l Gr (zc n w) 168 M_Mo_unary (d + 4) 28 [some (.ref 105), none, some (.int (nI w)), some (.int (nI j))] [] B Q
  | 0, j, B, h, hK, h1, h2, hQ => b_Mo_unary_28 (fun _ => hQ B hK FM_rfl (fun i hi => h1 i (by omega))) (fun z => absurd (nI_le (a := w) (b := j) (by omega) (by omega)) z)
  | k + 1, j, B, h, hK, h1, h2, hQ => by
    refine b_Mo_unary_28 (fun z => absurd z (nI_ge (a := j) (b := w) (by omega) (by omega))) (fun _ => b_Mo_unary_36 (vp_in_nI (by omega) (by omega)) ?_)
    rw [nI_clamp (by omega), h2 j (by omega) (by omega), show nI j + Int32.ofInt 1 = nI (j + 1) from nI_add j 1]
    refine mq_un28 hw k (j + 1) _ (by omega) (MEc_zi (MEc_zi hK (by omega)) (by omega)) (fun i hi => ⟨?_, ?_⟩) (fun i q1 q2 => ?_) (fun B' e1 e2 e3 => hQ B' e1 (FM_tr (FM_zi (P := fun c i => (c = 123 ∨ c = 124) ∧ i < 40) ⟨Or.inr rfl, by omega⟩) (FM_tr (FM_zi (P := fun c i => (c = 123 ∨ c = 124) ∧ i < 40) ⟨Or.inl rfl, by omega⟩) e2 (P'' := fun c i => (c = 123 ∨ c = 124) ∧ i < 40) (fun _ _ z => z) (fun _ _ z => z)) (fun _ _ z => z) (fun _ _ z => z)) e3)
    · rw [zi_get]
      by_cases z : i = j
      · rw [if_pos ⟨rfl, z⟩]
      · rw [if_neg (by omega), zi_c (by decide)]
        exact (h1 i (by omega)).1
    · rw [zi_c (by decide), zi_get]
      by_cases z : i = j
      · rw [if_pos ⟨rfl, z⟩, z]
      · rw [if_neg (by omega)]
        exact (h1 i (by omega)).2
    · rw [zi_get, if_neg (by omega), zi_c (by decide)]
      exact h2 i (by omega) q2
theorem mq_un78 (hm : m ≤ 32) : ∀ (k j : Nat) (B : zS), j + k = m → MEc T B → (∀ i, i < m → B.1 123 i = X i) → (∀ i, i < j → B.1 125 i = X i ^^^ 1) → (∀ B', MEc T B' → FM (fun c i => c = 125 ∧ i < 40) B B' → (∀ i, i < m → B'.1 125 i = X i ^^^ 1) → zW l Gr (zc n w) 168 M_Mo_unary (d + 4) 103 [some (.ref 105), none, some (.int (nI m)), none] [] B' Q) → zW l Gr (zc n w) 168 M_Mo_unary (d + 4) 78 [some (.ref 105), none, some (.int (nI m)), some (.int (nI j))] [] B Q
  | 0, j, B, h, hK, h1, h2, hQ => b_Mo_unary_78 (fun _ => hQ B hK FM_rfl (fun i hi => h2 i (by omega))) (fun z => absurd (nI_le (a := m) (b := j) (by omega) (by omega)) z)
  | k + 1, j, B, h, hK, h1, h2, hQ => by
    refine b_Mo_unary_78 (fun z => absurd z (nI_ge (a := j) (b := m) (by omega) (by omega))) (fun _ => b_Mo_unary_83 (vp_in_nI (by omega) (by omega)) ?_)
    rw [nI_clamp (by omega), h1 j (by omega), show nI j + Int32.ofInt 1 = nI (j + 1) from nI_add j 1]
    refine mq_un78 hm k (j + 1) _ (by omega) (MEc_zi hK (by omega)) (fun i hi => by rw [zi_c (by decide)]; exact h1 i hi) (fun i hi => ?_) (fun B' e1 e2 e3 => hQ B' e1 (FM_tr (FM_zi (P := fun c i => c = 125 ∧ i < 40) ⟨rfl, by omega⟩) e2 (fun _ _ z => z) (fun _ _ z => z)) e3)
    rw [zi_get]
    by_cases z : i = j
    · rw [if_pos ⟨rfl, z⟩, z]
    · rw [if_neg (by omega)]
      exact h2 i (by omega)
theorem wm_neg (hg : ip_gk (lg_tbl, vwCl, Gr)) (hw : w ≤ 32) (hq : q < 4200) (hK : MEc T B) (hW : MW T) (h85 : B.1 73 85 = nI (q + 1)) (vX : ∀ j, VC T (X j)) (hX : ∀ i, i < w → B.1 122 (32 * q + i) = X i) : zMv l Gr (zc n w) 168 M_Mo_unary (d + 4) [.ref 105, .int 45] B (fun B' => OPd ((sumP (fun _ => -2) (fun j => X j ^^^ 1) w 0 (-1)).2 T).2 B B' q w (fun j => ((sumP (fun _ => -2) (fun j => X j ^^^ 1) w 0 (-1)).2 T).1.getD j (-2))) := by
  refine e_Mo_unary (b_Mo_unary_0 (fun _ => b_Mo_unary_10 (b_Mo_unary_14 hg (wm_popX (X := X) hw hq hK h85 hX) (fun B1 h1 => ?_))) (fun z => absurd z (by decide)))
  refine b_Mo_unary_20 (fun z => absurd rfl z) (fun _ => b_Mo_unary_26 (mq_un28 (X := X) hw w 0 B1 (by omega) h1.1 (fun i hi => absurd hi (by omega)) (fun i _ hi => h1.2.2.2 i hi) (fun B2 e1 e2 e3 => ?_)))
  refine b_Mo_unary_64 hg (wm_sum (d := d) (m := w) (X := fun _ => -2) (Y := fun j => X j ^^^ 1) hg (by omega) e1 hW VC_c1 (fun _ => VC_c2) (fun j => VC_f (vX j)) (fun j hj => (e3 j hj).1) (fun j hj => (e3 j hj).2)) (fun B3 h3 => b_Mo_unary_73 ?_)
  have s85 : B3.1 73 85 = nI q := by
    rw [h3.2.1.1 73 85 (by omega) (by omega) (by omega), e2.1 73 85 (by omega) (by omega) (by omega)]
    exact h1.2.2.1
  refine b_Mo_unary_103 hg (wm_pushZ hw hq h3.1 s85 h3.2.2) (fun B4 h4 => b_Mo_unary_108 ⟨rfl, h4.1, ?_, h4.2.2.1, h4.2.2.2⟩)
  exact FM_tr h1.2.1 (FM_tr e2 (FM_tr h3.2.1 h4.2.1 (P'' := fun c i => (c = 73 ∧ i = 85) ∨ ((123 ≤ c ∧ c ≤ 130) ∧ i < 40) ∨ (c = 122 ∧ 32 * q ≤ i ∧ i < 32 * q + 32)) (by omega) (by omega)) (P'' := fun c i => (c = 73 ∧ i = 85) ∨ ((123 ≤ c ∧ c ≤ 130) ∧ i < 40) ∨ (c = 122 ∧ 32 * q ≤ i ∧ i < 32 * q + 32)) (by omega) (fun _ _ z => z)) (by omega) (fun _ _ z => z)
theorem wm_not (hg : ip_gk (lg_tbl, vwCl, Gr)) (hw : w ≤ 32) (hw1 : 1 ≤ w) (hq : q < 4200) (hx : ¬ x1 = 45) (hm : m = if x1 = 33 then 1 else w) (hK : MEc T B) (h85 : B.1 73 85 = nI (q + 1)) (hX : ∀ i, i < m → B.1 122 (32 * q + i) = X i) : zMv l Gr (zc n w) 168 M_Mo_unary (d + 4) [.ref 105, .int x1] B (fun B' => OPd T B B' q m (fun j => X j ^^^ 1)) := by
  have hm2 : m ≤ 32 := by rw [hm]; split <;> omega
  have go : zW l Gr (zc n w) 168 M_Mo_unary (d + 4) 14 [some (.ref 105), some (.int x1), none, none] [.int (nI m)] B (fun v B' => v = none ∧ OPd T B B' q m (fun j => X j ^^^ 1)) := by
    refine b_Mo_unary_14 hg (wm_popX (X := X) hm2 hq hK h85 hX) (fun B1 h1 => ?_)
    refine b_Mo_unary_20 (fun _ => b_Mo_unary_76 (mq_un78 (X := X) hm2 m 0 B1 (by omega) h1.1 h1.2.2.2 (fun i hi => absurd hi (by omega)) (fun B2 e1 e2 e3 => ?_))) (fun z => absurd z hx)
    have s85 : B2.1 73 85 = nI q := by
      rw [e2.1 73 85 (by omega) (by omega) (by omega)]
      exact h1.2.2.1
    refine b_Mo_unary_103 hg (wm_pushZ (X := fun j => X j ^^^ 1) hm2 hq e1 s85 e3) (fun B4 h4 => b_Mo_unary_108 ⟨rfl, h4.1, ?_, h4.2.2.1, h4.2.2.2⟩)
    exact FM_tr h1.2.1 (FM_tr e2 h4.2.1 (P'' := fun c i => (c = 73 ∧ i = 85) ∨ ((123 ≤ c ∧ c ≤ 130) ∧ i < 40) ∨ (c = 122 ∧ 32 * q ≤ i ∧ i < 32 * q + 32)) (by omega) (by omega)) (by omega) (fun _ _ z => z)
  refine e_Mo_unary (b_Mo_unary_0 (fun z => b_Mo_unary_10 ?_) (fun z => b_Mo_unary_6 ?_))
  · rw [if_neg z] at hm
    rw [← hm]
    rw [hm]
    rw [hm] at go
    exact go
  · rw [if_pos z] at hm
    rw [hm] at go ⊢
    exact go
end UNA
