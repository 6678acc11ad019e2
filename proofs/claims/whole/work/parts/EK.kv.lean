/-! if: the reference's keepVars(), bringVars() -/
/-- only row R changes, at the level u -/
def KVi (R u : Nat) (B0 B : zS) : Prop := (∀ c i, ¬ (c = R ∧ 8192 * u ≤ i ∧ i < 8192 * u + 8192) → B.1 c i = B0.1 c i) ∧ ∀ c i, B.2 c i = B0.2 c i
section IFM
variable {l : Launch} {Gr : zG} {n w : Nat} {d : Nat} {S A A0 T B B0 : zS} {Q : Option Value → zS → Prop} {a b m i q j u nv t vw : Nat} {vb vq vt : Nat → Nat}
theorem nI_8192 (m : Nat) : 8192 * nI m = nI (8192 * m) := (Int32.ofNat_mul 8192 m).symm
theorem kv1_21 (hu : u < 40) (ht : t < 300) (hv : vb t + vq t ≤ 256) (h133 : B0.1 133 t = nI (vb t)) (h134 : B0.1 134 t = nI (vq t)) : ∀ (c k : Nat) (D : Nat → Prop) (B : zS), k + c = 32 * (vb t + vq t) → KVi 139 u B0 B → (∀ k', D k' → B.1 139 (8192 * u + k') = B0.1 132 k') → (∀ B', KVi 139 u B0 B' → (∀ k', D k' ∨ (k ≤ k' ∧ k' < 32 * (vb t + vq t)) → B'.1 139 (8192 * u + k') = B0.1 132 k') → zW l Gr (zc n w) 168 M_Mo_keepVars d 65 [some (.ref 105), some (.ref 171), some (.int (nI u)), some (.int (nI t)), none] [] B' Q) → zW l Gr (zc n w) 168 M_Mo_keepVars d 21 [some (.ref 105), some (.ref 171), some (.int (nI u)), some (.int (nI t)), some (.int (nI k))] [] B Q := by
  have ct : ((nI t : Int32)).toNatClampNeg = t := nI_clamp (by omega)
  have ee : ∀ B, KVi 139 u B0 B → 32 * (B.1 133 ((nI t : Int32)).toNatClampNeg + B.1 134 ((nI t : Int32)).toNatClampNeg) = nI (32 * (vb t + vq t)) := fun B h => by rw [ct, h.1 133 t (by omega), h.1 134 t (by omega), h133, h134, nI_add, nI_mul32]
  intro c
  induction c with
  | zero =>
    intro k D B h hI hD hQ
    exact b_Mo_keepVars_r171_21 (vp_in_nI ht (by omega)) (fun _ => hQ B hI (fun k' q => hD k' (q.resolve_right (by omega)))) (fun y => absurd (by rw [ee B hI]; exact nI_le (by omega) (by omega)) y)
  | succ c ih =>
    intro k D B h hI hD hQ
    refine b_Mo_keepVars_r171_21 (vp_in_nI ht (by omega)) (fun y => absurd (by rw [ee B hI] at y; exact y) (nI_ge (by omega) (by omega))) (fun _ => b_Mo_keepVars_r171_42 (vp_in_nI (by omega) (by omega)) (by rw [nI_8192, nI_add]; exact vp_in_nI (by omega) (by omega)) ?_)
    rw [nI_8192, nI_add, nI_clamp (by omega), nI_clamp (by omega), show nI k + Int32.ofInt 1 = nI (k + 1) from nI_add k 1, hI.1 132 k (by omega)]
    refine ih (k + 1) (fun k' => D k' ∨ k' = k) _ (by omega) ⟨fun c i q => ?_, hI.2⟩ (fun k' q => ?_) (fun B' i1 i2 => hQ B' i1 (fun k' q => i2 k' (q.elim (fun q => Or.inl (Or.inl q)) (fun q => if y : k' = k then Or.inl (Or.inr y) else Or.inr ⟨by omega, q.2⟩))))
    · rw [zi_get, if_neg (by omega)]
      exact hI.1 c i q
    · rw [zi_get]
      by_cases y : k' = k
      · rw [if_pos ⟨rfl, by omega⟩, y]
      · rw [if_neg (by omega)]
        exact hD k' (q.resolve_right y)
theorem kv1_2 (hu : u < 40) (hnv : nv ≤ 256) (h97 : B0.1 73 97 = nI nv) (hv : ∀ t, t < nv → B0.1 133 t = nI (vb t) ∧ B0.1 134 t = nI (vq t) ∧ vb t + vq t ≤ 256) : ∀ (c t : Nat) (D : Nat → Prop) (B : zS), t + c = nv → KVi 139 u B0 B → (∀ k', D k' → B.1 139 (8192 * u + k') = B0.1 132 k') → (∀ B', KVi 139 u B0 B' → (∀ k', D k' ∨ (∃ t', t ≤ t' ∧ t' < nv ∧ 32 * vb t' ≤ k' ∧ k' < 32 * (vb t' + vq t')) → B'.1 139 (8192 * u + k') = B0.1 132 k') → Q none B') → zW l Gr (zc n w) 168 M_Mo_keepVars d 2 [some (.ref 105), some (.ref 171), some (.int (nI u)), some (.int (nI t)), none] [] B Q
  | 0, t, D, B, h, hI, hD, hQ => b_Mo_keepVars_r171_2 (fun _ => b_Mo_keepVars_r171_71 (hQ B hI (fun k' q => hD k' (q.resolve_right (fun ⟨t', q1, q2, _⟩ => by omega))))) (fun y => absurd (by rw [hI.1 73 97 (by omega), h97]; exact nI_le (by omega) (by omega)) y)
  | c + 1, t, D, B, h, hI, hD, hQ => by
    obtain ⟨v1, v2, v3⟩ := hv t (by omega)
    refine b_Mo_keepVars_r171_2 (fun y => absurd (by rw [hI.1 73 97 (by omega), h97] at y; exact y) (nI_ge (by omega) (by omega))) (fun _ => b_Mo_keepVars_r171_10 (vp_in_nI (by omega) (by omega)) ?_)
    rw [nI_clamp (by omega), hI.1 133 t (by omega), v1, nI_mul32]
    refine kv1_21 hu (by omega) v3 v1 v2 (32 * vq t) (32 * vb t) D B (by omega) hI hD (fun B' i1 i2 => b_Mo_keepVars_r171_65 ?_)
    rw [show nI t + Int32.ofInt 1 = nI (t + 1) from nI_add t 1]
    refine kv1_2 hu hnv h97 hv c (t + 1) (fun k' => D k' ∨ (32 * vb t ≤ k' ∧ k' < 32 * (vb t + vq t))) B' (by omega) i1 i2 (fun B2 j1 j2 => hQ B2 j1 (fun k' q => j2 k' ?_))
    rcases q with q | ⟨t', q1, q2, q3⟩
    · exact Or.inl (Or.inl q)
    · by_cases y : t' = t
      · rw [y] at q3
        exact Or.inl (Or.inr q3)
      · exact Or.inr ⟨t', by omega, q2, q3⟩
theorem wm_keep1 (hu : u < 40) (hnv : nv ≤ 256) (h97 : B.1 73 97 = nI nv) (hv : ∀ t, t < nv → B.1 133 t = nI (vb t) ∧ B.1 134 t = nI (vq t) ∧ vb t + vq t ≤ 256) : zMv l Gr (zc n w) 168 M_Mo_keepVars d [.ref 105, .ref 171, .int (nI u)] B (fun B' => KVi 139 u B B' ∧ ∀ t k, t < nv → 32 * vb t ≤ k → k < 32 * (vb t + vq t) → B'.1 139 (8192 * u + k) = B.1 132 k) :=
  e_Mo_keepVars_r171 (b_Mo_keepVars_r171_0 (kv1_2 (B0 := B) hu hnv h97 hv nv 0 (fun _ => False) B (by omega) ⟨fun _ _ _ => rfl, fun _ _ => rfl⟩ (fun _ q => absurd q (fun h => h)) (fun B' i1 i2 => ⟨rfl, i1, fun t k q1 q2 q3 => i2 k (Or.inr ⟨t, Nat.zero_le _, q1, q2, q3⟩)⟩)))
theorem kv2_21 (hu : u < 40) (ht : t < 300) (hv : vb t + vq t ≤ 256) (h133 : B0.1 133 t = nI (vb t)) (h134 : B0.1 134 t = nI (vq t)) : ∀ (c k : Nat) (D : Nat → Prop) (B : zS), k + c = 32 * (vb t + vq t) → KVi 140 u B0 B → (∀ k', D k' → B.1 140 (8192 * u + k') = B0.1 132 k') → (∀ B', KVi 140 u B0 B' → (∀ k', D k' ∨ (k ≤ k' ∧ k' < 32 * (vb t + vq t)) → B'.1 140 (8192 * u + k') = B0.1 132 k') → zW l Gr (zc n w) 168 M_Mo_keepVars d 65 [some (.ref 105), some (.ref 172), some (.int (nI u)), some (.int (nI t)), none] [] B' Q) → zW l Gr (zc n w) 168 M_Mo_keepVars d 21 [some (.ref 105), some (.ref 172), some (.int (nI u)), some (.int (nI t)), some (.int (nI k))] [] B Q := by
  have ct : ((nI t : Int32)).toNatClampNeg = t := nI_clamp (by omega)
  have ee : ∀ B, KVi 140 u B0 B → 32 * (B.1 133 ((nI t : Int32)).toNatClampNeg + B.1 134 ((nI t : Int32)).toNatClampNeg) = nI (32 * (vb t + vq t)) := fun B h => by rw [ct, h.1 133 t (by omega), h.1 134 t (by omega), h133, h134, nI_add, nI_mul32]
  intro c
  induction c with
  | zero =>
    intro k D B h hI hD hQ
    exact b_Mo_keepVars_r172_21 (vp_in_nI ht (by omega)) (fun _ => hQ B hI (fun k' q => hD k' (q.resolve_right (by omega)))) (fun y => absurd (by rw [ee B hI]; exact nI_le (by omega) (by omega)) y)
  | succ c ih =>
    intro k D B h hI hD hQ
    refine b_Mo_keepVars_r172_21 (vp_in_nI ht (by omega)) (fun y => absurd (by rw [ee B hI] at y; exact y) (nI_ge (by omega) (by omega))) (fun _ => b_Mo_keepVars_r172_42 (vp_in_nI (by omega) (by omega)) (by rw [nI_8192, nI_add]; exact vp_in_nI (by omega) (by omega)) ?_)
    rw [nI_8192, nI_add, nI_clamp (by omega), nI_clamp (by omega), show nI k + Int32.ofInt 1 = nI (k + 1) from nI_add k 1, hI.1 132 k (by omega)]
    refine ih (k + 1) (fun k' => D k' ∨ k' = k) _ (by omega) ⟨fun c i q => ?_, hI.2⟩ (fun k' q => ?_) (fun B' i1 i2 => hQ B' i1 (fun k' q => i2 k' (q.elim (fun q => Or.inl (Or.inl q)) (fun q => if y : k' = k then Or.inl (Or.inr y) else Or.inr ⟨by omega, q.2⟩))))
    · rw [zi_get, if_neg (by omega)]
      exact hI.1 c i q
    · rw [zi_get]
      by_cases y : k' = k
      · rw [if_pos ⟨rfl, by omega⟩, y]
      · rw [if_neg (by omega)]
        exact hD k' (q.resolve_right y)
theorem kv2_2 (hu : u < 40) (hnv : nv ≤ 256) (h97 : B0.1 73 97 = nI nv) (hv : ∀ t, t < nv → B0.1 133 t = nI (vb t) ∧ B0.1 134 t = nI (vq t) ∧ vb t + vq t ≤ 256) : ∀ (c t : Nat) (D : Nat → Prop) (B : zS), t + c = nv → KVi 140 u B0 B → (∀ k', D k' → B.1 140 (8192 * u + k') = B0.1 132 k') → (∀ B', KVi 140 u B0 B' → (∀ k', D k' ∨ (∃ t', t ≤ t' ∧ t' < nv ∧ 32 * vb t' ≤ k' ∧ k' < 32 * (vb t' + vq t')) → B'.1 140 (8192 * u + k') = B0.1 132 k') → Q none B') → zW l Gr (zc n w) 168 M_Mo_keepVars d 2 [some (.ref 105), some (.ref 172), some (.int (nI u)), some (.int (nI t)), none] [] B Q
  | 0, t, D, B, h, hI, hD, hQ => b_Mo_keepVars_r172_2 (fun _ => b_Mo_keepVars_r172_71 (hQ B hI (fun k' q => hD k' (q.resolve_right (fun ⟨t', q1, q2, _⟩ => by omega))))) (fun y => absurd (by rw [hI.1 73 97 (by omega), h97]; exact nI_le (by omega) (by omega)) y)
  | c + 1, t, D, B, h, hI, hD, hQ => by
    obtain ⟨v1, v2, v3⟩ := hv t (by omega)
    refine b_Mo_keepVars_r172_2 (fun y => absurd (by rw [hI.1 73 97 (by omega), h97] at y; exact y) (nI_ge (by omega) (by omega))) (fun _ => b_Mo_keepVars_r172_10 (vp_in_nI (by omega) (by omega)) ?_)
    rw [nI_clamp (by omega), hI.1 133 t (by omega), v1, nI_mul32]
    refine kv2_21 hu (by omega) v3 v1 v2 (32 * vq t) (32 * vb t) D B (by omega) hI hD (fun B' i1 i2 => b_Mo_keepVars_r172_65 ?_)
    rw [show nI t + Int32.ofInt 1 = nI (t + 1) from nI_add t 1]
    refine kv2_2 hu hnv h97 hv c (t + 1) (fun k' => D k' ∨ (32 * vb t ≤ k' ∧ k' < 32 * (vb t + vq t))) B' (by omega) i1 i2 (fun B2 j1 j2 => hQ B2 j1 (fun k' q => j2 k' ?_))
    rcases q with q | ⟨t', q1, q2, q3⟩
    · exact Or.inl (Or.inl q)
    · by_cases y : t' = t
      · rw [y] at q3
        exact Or.inl (Or.inr q3)
      · exact Or.inr ⟨t', by omega, q2, q3⟩
theorem wm_keep2 (hu : u < 40) (hnv : nv ≤ 256) (h97 : B.1 73 97 = nI nv) (hv : ∀ t, t < nv → B.1 133 t = nI (vb t) ∧ B.1 134 t = nI (vq t) ∧ vb t + vq t ≤ 256) : zMv l Gr (zc n w) 168 M_Mo_keepVars d [.ref 105, .ref 172, .int (nI u)] B (fun B' => KVi 140 u B B' ∧ ∀ t k, t < nv → 32 * vb t ≤ k → k < 32 * (vb t + vq t) → B'.1 140 (8192 * u + k) = B.1 132 k) :=
  e_Mo_keepVars_r172 (b_Mo_keepVars_r172_0 (kv2_2 (B0 := B) hu hnv h97 hv nv 0 (fun _ => False) B (by omega) ⟨fun _ _ _ => rfl, fun _ _ => rfl⟩ (fun _ q => absurd q (fun h => h)) (fun B' i1 i2 => ⟨rfl, i1, fun t k q1 q2 q3 => i2 k (Or.inr ⟨t, Nat.zero_le _, q1, q2, q3⟩)⟩)))
theorem bv_21 (hu : u < 40) (ht : t < 300) (hv : vb t + vq t ≤ 256) (h133 : B0.1 133 t = nI (vb t)) (h134 : B0.1 134 t = nI (vq t)) : ∀ (c k : Nat) (D : Nat → Prop) (B : zS), k + c = 32 * (vb t + vq t) → (∀ c i, ¬ c = 132 → B.1 c i = B0.1 c i) ∧ (∀ c i, B.2 c i = B0.2 c i) → (∀ k', (D k' → B.1 132 k' = B0.1 139 (8192 * u + k')) ∧ (¬ D k' → B.1 132 k' = B0.1 132 k')) → (∀ B', (∀ c i, ¬ c = 132 → B'.1 c i = B0.1 c i) ∧ (∀ c i, B'.2 c i = B0.2 c i) → (∀ k', ((D k' ∨ (k ≤ k' ∧ k' < 32 * (vb t + vq t))) → B'.1 132 k' = B0.1 139 (8192 * u + k')) ∧ (¬ (D k' ∨ (k ≤ k' ∧ k' < 32 * (vb t + vq t))) → B'.1 132 k' = B0.1 132 k')) → zW l Gr (zc n w) 168 M_Mo_bringVars d 65 [some (.ref 105), some (.ref 171), some (.int (nI u)), some (.int (nI t)), none] [] B' Q) → zW l Gr (zc n w) 168 M_Mo_bringVars d 21 [some (.ref 105), some (.ref 171), some (.int (nI u)), some (.int (nI t)), some (.int (nI k))] [] B Q := by
  have ct : ((nI t : Int32)).toNatClampNeg = t := nI_clamp (by omega)
  have ee : ∀ B : zS, (∀ c i, ¬ c = 132 → B.1 c i = B0.1 c i) → 32 * (B.1 133 ((nI t : Int32)).toNatClampNeg + B.1 134 ((nI t : Int32)).toNatClampNeg) = nI (32 * (vb t + vq t)) := fun B h => by rw [ct, h 133 t (by omega), h 134 t (by omega), h133, h134, nI_add, nI_mul32]
  intro c
  induction c with
  | zero =>
    intro k D B h hI hD hQ
    exact b_Mo_bringVars_r171_21 (vp_in_nI ht (by omega)) (fun _ => hQ B hI (fun k' => ⟨fun q => (hD k').1 (q.resolve_right (by omega)), fun q => (hD k').2 (fun y => q (Or.inl y))⟩)) (fun y => absurd (by rw [ee B hI.1]; exact nI_le (by omega) (by omega)) y)
  | succ c ih =>
    intro k D B h hI hD hQ
    refine b_Mo_bringVars_r171_21 (vp_in_nI ht (by omega)) (fun y => absurd (by rw [ee B hI.1] at y; exact y) (nI_ge (by omega) (by omega))) (fun _ => b_Mo_bringVars_r171_42 (by rw [nI_8192, nI_add]; exact vp_in_nI (by omega) (by omega)) (vp_in_nI (by omega) (by omega)) ?_)
    rw [nI_8192, nI_add, nI_clamp (by omega), nI_clamp (by omega), show nI k + Int32.ofInt 1 = nI (k + 1) from nI_add k 1, hI.1 139 _ (by omega)]
    refine ih (k + 1) (fun k' => D k' ∨ k' = k) _ (by omega) ⟨fun c i q => ?_, hI.2⟩ (fun k' => ⟨fun q => ?_, fun q => ?_⟩) (fun B' i1 i2 => hQ B' i1 (fun k' => ⟨fun q => (i2 k').1 ?_, fun q => (i2 k').2 (fun y => q ?_)⟩))
    · rw [zi_get, if_neg (by omega)]
      exact hI.1 c i q
    · rw [zi_get]
      by_cases y : k' = k
      · rw [if_pos ⟨rfl, y⟩, y]
      · rw [if_neg (by omega)]
        exact (hD k').1 (q.resolve_right y)
    · rw [zi_get, if_neg (fun y => q (Or.inr y.2))]
      exact (hD k').2 (fun y => q (Or.inl y))
    · rcases q with q | q
      · exact Or.inl (Or.inl q)
      · by_cases y : k' = k
        · exact Or.inl (Or.inr y)
        · exact Or.inr ⟨by omega, q.2⟩
    · rcases y with (y | y) | y
      · exact Or.inl y
      · exact Or.inr ⟨by omega, by omega⟩
      · exact Or.inr ⟨by omega, y.2⟩
theorem bv_2 (hu : u < 40) (hnv : nv ≤ 256) (h97 : B0.1 73 97 = nI nv) (hv : ∀ t, t < nv → B0.1 133 t = nI (vb t) ∧ B0.1 134 t = nI (vq t) ∧ vb t + vq t ≤ 256) : ∀ (c t : Nat) (D : Nat → Prop) (B : zS), t + c = nv → (∀ c i, ¬ c = 132 → B.1 c i = B0.1 c i) ∧ (∀ c i, B.2 c i = B0.2 c i) → (∀ k', (D k' → B.1 132 k' = B0.1 139 (8192 * u + k')) ∧ (¬ D k' → B.1 132 k' = B0.1 132 k')) → (∀ B', (∀ c i, ¬ c = 132 → B'.1 c i = B0.1 c i) ∧ (∀ c i, B'.2 c i = B0.2 c i) → (∀ k', ((D k' ∨ (∃ t', t ≤ t' ∧ t' < nv ∧ 32 * vb t' ≤ k' ∧ k' < 32 * (vb t' + vq t'))) → B'.1 132 k' = B0.1 139 (8192 * u + k')) ∧ (¬ (D k' ∨ (∃ t', t ≤ t' ∧ t' < nv ∧ 32 * vb t' ≤ k' ∧ k' < 32 * (vb t' + vq t'))) → B'.1 132 k' = B0.1 132 k')) → Q none B') → zW l Gr (zc n w) 168 M_Mo_bringVars d 2 [some (.ref 105), some (.ref 171), some (.int (nI u)), some (.int (nI t)), none] [] B Q
  | 0, t, D, B, h, hI, hD, hQ => b_Mo_bringVars_r171_2 (fun _ => b_Mo_bringVars_r171_71 (hQ B hI (fun k' => ⟨fun q => (hD k').1 (q.resolve_right (fun ⟨t', q1, q2, _⟩ => by omega)), fun q => (hD k').2 (fun y => q (Or.inl y))⟩))) (fun y => absurd (by rw [hI.1 73 97 (by omega), h97]; exact nI_le (by omega) (by omega)) y)
  | c + 1, t, D, B, h, hI, hD, hQ => by
    obtain ⟨v1, v2, v3⟩ := hv t (by omega)
    refine b_Mo_bringVars_r171_2 (fun y => absurd (by rw [hI.1 73 97 (by omega), h97] at y; exact y) (nI_ge (by omega) (by omega))) (fun _ => b_Mo_bringVars_r171_10 (vp_in_nI (by omega) (by omega)) ?_)
    rw [nI_clamp (by omega), hI.1 133 t (by omega), v1, nI_mul32]
    refine bv_21 hu (by omega) v3 v1 v2 (32 * vq t) (32 * vb t) D B (by omega) hI hD (fun B' i1 i2 => b_Mo_bringVars_r171_65 ?_)
    rw [show nI t + Int32.ofInt 1 = nI (t + 1) from nI_add t 1]
    have eq : ∀ k', (D k' ∨ (∃ t', t ≤ t' ∧ t' < nv ∧ 32 * vb t' ≤ k' ∧ k' < 32 * (vb t' + vq t'))) ↔ ((D k' ∨ (32 * vb t ≤ k' ∧ k' < 32 * (vb t + vq t))) ∨ (∃ t', t + 1 ≤ t' ∧ t' < nv ∧ 32 * vb t' ≤ k' ∧ k' < 32 * (vb t' + vq t'))) := fun k' => ⟨fun q => by
      rcases q with q | ⟨t', q1, q2, q3⟩
      · exact Or.inl (Or.inl q)
      · by_cases y : t' = t
        · rw [y] at q3
          exact Or.inl (Or.inr q3)
        · exact Or.inr ⟨t', by omega, q2, q3⟩, fun q => by
      rcases q with (q | q) | ⟨t', q1, q2, q3⟩
      · exact Or.inl q
      · exact Or.inr ⟨t, Nat.le_refl _, by omega, q⟩
      · exact Or.inr ⟨t', by omega, q2, q3⟩⟩
    exact bv_2 hu hnv h97 hv c (t + 1) (fun k' => D k' ∨ (32 * vb t ≤ k' ∧ k' < 32 * (vb t + vq t))) B' (by omega) i1 i2 (fun B2 j1 j2 => hQ B2 j1 (fun k' => ⟨fun q => (j2 k').1 ((eq k').mp q), fun q => (j2 k').2 (fun y => q ((eq k').mpr y))⟩))
theorem wm_bring (hu : u < 40) (hnv : nv ≤ 256) (h97 : B.1 73 97 = nI nv) (hv : ∀ t, t < nv → B.1 133 t = nI (vb t) ∧ B.1 134 t = nI (vq t) ∧ vb t + vq t ≤ 256) : zMv l Gr (zc n w) 168 M_Mo_bringVars d [.ref 105, .ref 171, .int (nI u)] B (fun B' => (∀ c i, ¬ c = 132 → B'.1 c i = B.1 c i) ∧ (∀ c i, B'.2 c i = B.2 c i) ∧ (∀ t k, t < nv → 32 * vb t ≤ k → k < 32 * (vb t + vq t) → B'.1 132 k = B.1 139 (8192 * u + k)) ∧ ∀ k, (∀ t, t < nv → ¬ (32 * vb t ≤ k ∧ k < 32 * (vb t + vq t))) → B'.1 132 k = B.1 132 k) :=
  e_Mo_bringVars_r171 (b_Mo_bringVars_r171_0 (bv_2 (B0 := B) hu hnv h97 hv nv 0 (fun _ => False) B (by omega) ⟨fun _ _ _ => rfl, fun _ _ => rfl⟩ (fun k' => ⟨fun q => absurd q (fun h => h), fun _ => rfl⟩) (fun B' i1 i2 => ⟨rfl, i1.1, i1.2, fun t k q1 q2 q3 => (i2 k).1 (Or.inr ⟨t, Nat.zero_le _, q1, q2, q3⟩), fun k q => (i2 k).2 (fun y => y.elim (fun h => h) (fun ⟨t', _, q2, q3⟩ => q t' q2 q3))⟩)))
end IFM
