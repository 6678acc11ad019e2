/-! the reference's operands: popX, popY, pushZ -/
theorem nI_mul32 (m : Nat) : 32 * nI m = nI (32 * m) := (Int32.ofNat_mul 32 m).symm
section POP
variable {l : Launch} {Gr : zG} {n w : Nat} {d : Nat} {S A T B : zS} {s v : Int32} {X Y F : Nat → Int32} {Q : Option Value → zS → Prop} {a b m q : Nat}
theorem MEc_85 (h : MEc T B) : MEc T (zi B 73 85 v) := ⟨fun k q1 => by rw [zi_get, if_neg (by omega)]; exact h.1 k q1, fun c k q1 => by rw [zi_get, if_neg (by omega)]; exact h.2 c k q1⟩
theorem mq_popX (hm : m ≤ 32) (hq : q < 4200) : ∀ (k j : Nat) (B : zS), j + k = m → MEc T B → B.1 73 85 = nI q → (∀ i, i < m → B.1 122 (32 * q + i) = X i) → (∀ i, i < j → B.1 123 i = X i) → (∀ B', MEc T B' → FM (fun c i => c = 123 ∧ i < 40) B B' → (∀ i, i < m → B'.1 123 i = X i) → Q none B') → zW l Gr (zc n w) 168 M_Mo_popX d 12 [some (.ref 105), some (.int (nI m)), some (.int (nI j))] [] B Q
  | 0, j, B, h, hK, h85, hX, h1, hQ => b_Mo_popX_12 (fun _ => b_Mo_popX_43 (hQ B hK FM_rfl (fun i hi => h1 i (by omega)))) (fun z => absurd (nI_le (a := m) (b := j) (by omega) (by omega)) z)
  | k + 1, j, B, h, hK, h85, hX, h1, hQ => by
    have ea : (32 : Int32) * B.1 73 85 + nI j = nI (32 * q + j) := by rw [h85, nI_mul32, nI_add]
    refine b_Mo_popX_12 (fun z => absurd z (nI_ge (a := j) (b := m) (by omega) (by omega))) (fun _ => b_Mo_popX_17 (by rw [ea]; exact vp_in_nI (by omega) (by omega)) (vp_in_nI (by omega) (by omega)) ?_)
    rw [ea, nI_clamp (by omega), nI_clamp (by omega), hX j (by omega), show nI j + Int32.ofInt 1 = nI (j + 1) from nI_add j 1]
    refine mq_popX hm hq k (j + 1) _ (by omega) (MEc_zi hK (by omega)) (by rw [zi_c (by decide)]; exact h85) (fun i hi => by rw [zi_c (by decide)]; exact hX i hi) (fun i hi => ?_) (fun B' e1 e2 e3 => hQ B' e1 (FM_tr (FM_zi (P := fun c i => c = 123 ∧ i < 40) ⟨rfl, by omega⟩) e2 (fun _ _ z => z) (fun _ _ z => z)) e3)
    rw [zi_get]
    by_cases z : i = j
    · rw [if_pos ⟨rfl, z⟩, z]
    · rw [if_neg (by omega)]
      exact h1 i (by omega)
theorem wm_popX (hm : m ≤ 32) (hq : q < 4200) (hK : MEc T B) (h85 : B.1 73 85 = nI (q + 1)) (hX : ∀ i, i < m → B.1 122 (32 * q + i) = X i) : zMv l Gr (zc n w) 168 M_Mo_popX d [.ref 105, .int (nI m)] B (fun B' => MEc T B' ∧ FM (fun c i => (c = 73 ∧ i = 85) ∨ (c = 123 ∧ i < 40)) B B' ∧ B'.1 73 85 = nI q ∧ ∀ i, i < m → B'.1 123 i = X i) := by
  refine e_Mo_popX (b_Mo_popX_0 ?_)
  rw [h85, nI_pred]
  refine mq_popX hm hq m 0 _ (by omega) (MEc_85 hK) zi_v (fun i hi => by rw [zi_c (by decide)]; exact hX i hi) (fun i hi => absurd hi (by omega)) (fun B' e1 e2 e3 => ⟨rfl, e1, FM_tr (FM_zi (P := fun c i => c = 73 ∧ i = 85) ⟨rfl, rfl⟩) e2 (fun _ _ z => Or.inl z) (fun _ _ z => Or.inr z), ?_, e3⟩)
  rw [e2.1 73 85 (by omega) (by omega) (by omega)]
  exact zi_v
theorem mq_popY (hm : m ≤ 32) (hq : q < 4200) : ∀ (k j : Nat) (B : zS), j + k = m → MEc T B → B.1 73 85 = nI q → (∀ i, i < m → B.1 122 (32 * q + i) = X i) → (∀ i, i < j → B.1 124 i = X i) → (∀ B', MEc T B' → FM (fun c i => c = 124 ∧ i < 40) B B' → (∀ i, i < m → B'.1 124 i = X i) → Q none B') → zW l Gr (zc n w) 168 M_Mo_popY d 12 [some (.ref 105), some (.int (nI m)), some (.int (nI j))] [] B Q
  | 0, j, B, h, hK, h85, hX, h1, hQ => b_Mo_popY_12 (fun _ => b_Mo_popY_43 (hQ B hK FM_rfl (fun i hi => h1 i (by omega)))) (fun z => absurd (nI_le (a := m) (b := j) (by omega) (by omega)) z)
  | k + 1, j, B, h, hK, h85, hX, h1, hQ => by
    have ea : (32 : Int32) * B.1 73 85 + nI j = nI (32 * q + j) := by rw [h85, nI_mul32, nI_add]
    refine b_Mo_popY_12 (fun z => absurd z (nI_ge (a := j) (b := m) (by omega) (by omega))) (fun _ => b_Mo_popY_17 (by rw [ea]; exact vp_in_nI (by omega) (by omega)) (vp_in_nI (by omega) (by omega)) ?_)
    rw [ea, nI_clamp (by omega), nI_clamp (by omega), hX j (by omega), show nI j + Int32.ofInt 1 = nI (j + 1) from nI_add j 1]
    refine mq_popY hm hq k (j + 1) _ (by omega) (MEc_zi hK (by omega)) (by rw [zi_c (by decide)]; exact h85) (fun i hi => by rw [zi_c (by decide)]; exact hX i hi) (fun i hi => ?_) (fun B' e1 e2 e3 => hQ B' e1 (FM_tr (FM_zi (P := fun c i => c = 124 ∧ i < 40) ⟨rfl, by omega⟩) e2 (fun _ _ z => z) (fun _ _ z => z)) e3)
    rw [zi_get]
    by_cases z : i = j
    · rw [if_pos ⟨rfl, z⟩, z]
    · rw [if_neg (by omega)]
      exact h1 i (by omega)
theorem wm_popY (hm : m ≤ 32) (hq : q < 4200) (hK : MEc T B) (h85 : B.1 73 85 = nI (q + 1)) (hX : ∀ i, i < m → B.1 122 (32 * q + i) = X i) : zMv l Gr (zc n w) 168 M_Mo_popY d [.ref 105, .int (nI m)] B (fun B' => MEc T B' ∧ FM (fun c i => (c = 73 ∧ i = 85) ∨ (c = 124 ∧ i < 40)) B B' ∧ B'.1 73 85 = nI q ∧ ∀ i, i < m → B'.1 124 i = X i) := by
  refine e_Mo_popY (b_Mo_popY_0 ?_)
  rw [h85, nI_pred]
  refine mq_popY hm hq m 0 _ (by omega) (MEc_85 hK) zi_v (fun i hi => by rw [zi_c (by decide)]; exact hX i hi) (fun i hi => absurd hi (by omega)) (fun B' e1 e2 e3 => ⟨rfl, e1, FM_tr (FM_zi (P := fun c i => c = 73 ∧ i = 85) ⟨rfl, rfl⟩) e2 (fun _ _ z => Or.inl z) (fun _ _ z => Or.inr z), ?_, e3⟩)
  rw [e2.1 73 85 (by omega) (by omega) (by omega)]
  exact zi_v
theorem mq_pushZ (hm : m ≤ 32) (hq : q < 4200) : ∀ (k j : Nat) (B : zS), j + k = m → MEc T B → B.1 73 85 = nI q → (∀ i, i < m → B.1 125 i = X i) → (∀ i, i < j → B.1 122 (32 * q + i) = X i) → (∀ B', MEc T B' → FM (fun c i => (c = 73 ∧ i = 85) ∨ (c = 122 ∧ 32 * q ≤ i ∧ i < 32 * q + m)) B B' → B'.1 73 85 = nI (q + 1) → (∀ i, i < m → B'.1 122 (32 * q + i) = X i) → Q none B') → zW l Gr (zc n w) 168 M_Mo_pushZ d 2 [some (.ref 105), some (.int (nI m)), some (.int (nI j))] [] B Q
  | 0, j, B, h, hK, h85, hX, h1, hQ => b_Mo_pushZ_2 (fun _ => b_Mo_pushZ_33 (hQ _ (MEc_85 hK) (FM_zi (Or.inl ⟨rfl, rfl⟩)) (by rw [zi_v, h85, nI_1]) (fun i hi => by rw [zi_c (by decide)]; exact h1 i (by omega)))) (fun z => absurd (nI_le (a := m) (b := j) (by omega) (by omega)) z)
  | k + 1, j, B, h, hK, h85, hX, h1, hQ => by
    have ea : (32 : Int32) * B.1 73 85 + nI j = nI (32 * q + j) := by rw [h85, nI_mul32, nI_add]
    refine b_Mo_pushZ_2 (fun z => absurd z (nI_ge (a := j) (b := m) (by omega) (by omega))) (fun _ => b_Mo_pushZ_7 (vp_in_nI (by omega) (by omega)) (by rw [ea]; exact vp_in_nI (by omega) (by omega)) ?_)
    rw [ea, nI_clamp (by omega), nI_clamp (by omega), hX j (by omega), show nI j + Int32.ofInt 1 = nI (j + 1) from nI_add j 1]
    refine mq_pushZ hm hq k (j + 1) _ (by omega) (MEc_zi hK (by omega)) (by rw [zi_c (by decide)]; exact h85) (fun i hi => by rw [zi_c (by decide)]; exact hX i hi) (fun i hi => ?_) (fun B' e1 e2 e3 e4 => hQ B' e1 (FM_tr (FM_zi (P := fun c i => c = 122 ∧ i = 32 * q + j) ⟨rfl, rfl⟩) e2 (by omega) (fun _ _ z => z)) e3 e4)
    rw [zi_get]
    by_cases z : i = j
    · rw [if_pos ⟨rfl, by omega⟩, z]
    · rw [if_neg (by omega)]
      exact h1 i (by omega)
theorem wm_pushZ (hm : m ≤ 32) (hq : q < 4200) (hK : MEc T B) (h85 : B.1 73 85 = nI q) (hX : ∀ i, i < m → B.1 125 i = X i) : zMv l Gr (zc n w) 168 M_Mo_pushZ d [.ref 105, .int (nI m)] B (fun B' => MEc T B' ∧ FM (fun c i => (c = 73 ∧ i = 85) ∨ (c = 122 ∧ 32 * q ≤ i ∧ i < 32 * q + m)) B B' ∧ B'.1 73 85 = nI (q + 1) ∧ ∀ i, i < m → B'.1 122 (32 * q + i) = X i) := e_Mo_pushZ (b_Mo_pushZ_0 (mq_pushZ hm hq m 0 B (by omega) hK h85 hX (fun i hi => absurd hi (by omega)) (fun B' e1 e2 e3 e4 => ⟨rfl, e1, e2, e3, e4⟩)))
end POP
