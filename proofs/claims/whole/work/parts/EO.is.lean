/-! if: the reference's instructions 35, 36 -/
section IFS
variable {l : Launch} {Gr : zG} {n w : Nat} {d : Nat} {B : zS} {u t nv q j : Nat} {vb vq : Nat → Nat}
theorem ms_35 (hg : ip_gk (lg_tbl, vwCl, Gr)) (hj : j < 12000) (hq : q < 4200) (hu : u < 40) (hnv : nv ≤ 256) (h78 : B.1 78 j = 35) (h85 : B.1 73 85 = nI (q + 1)) (h101 : B.1 73 101 = nI u) (h97 : B.1 73 97 = nI nv) (hv : ∀ t, t < nv → B.1 133 t = nI (vb t) ∧ B.1 134 t = nI (vq t) ∧ vb t + vq t ≤ 256) : zMi l Gr (zc n w) 168 M_Mo_statement (d + 6) [.ref 105, .int (nI j)] B (fun v B' => v = nI (j + 1) ∧ (∀ c i, ¬ (c = 73 ∧ (i = 85 ∨ i = 101)) → ¬ ((136 ≤ c ∧ c ≤ 138) ∧ i = u) → ¬ (c = 139 ∧ 8192 * u ≤ i ∧ i < 8192 * u + 8192) → B'.1 c i = B.1 c i) ∧ (∀ c i, B'.2 c i = B.2 c i) ∧ B'.1 73 85 = nI q ∧ B'.1 73 101 = nI (u + 1) ∧ B'.1 136 u = B.1 122 (32 * q) ∧ B'.1 137 u = nI nv ∧ B'.1 138 u = 0 ∧ ∀ t k, t < nv → 32 * vb t ≤ k → k < 32 * (vb t + vq t) → B'.1 139 (8192 * u + k) = B.1 132 k) := by
  have e85 : B.1 73 85 - 1 = nI q := by rw [h85, nI_pred]
  have cu : ((nI u : Int32)).toNatClampNeg = u := nI_clamp (by omega)
  refine e_Mo_statement (ms_0 (z := 35) hj h78 (by omega) (by omega) (by omega) (by omega) (by omega) (by omega) (by omega) (by omega) (by omega) (fun _ => b_Mo_statement_462 hg (R := fun B' => KVi 139 u (zi (zi (zi (zi B 73 85 (nI q)) 136 u (B.1 122 (32 * q))) 137 u (nI nv)) 138 u 0) B' ∧ ∀ t k, t < nv → 32 * vb t ≤ k → k < 32 * (vb t + vq t) → B'.1 139 (8192 * u + k) = B.1 132 k) (by rw [e85, nI_mul32]; exact vp_in_nI (by omega) (by omega)) (by rw [h101]; exact vp_in_nI (by omega) (by omega)) ?_ (fun B1 k1 => b_Mo_statement_528 ?_)) (by omega) (by omega) (by omega) (by omega) (by omega) (by omega))
  · rw [e85, h101, cu, nI_mul32, nI_clamp (by omega), h97, show ((0 : Int32) &&& 1) = 0 from rfl]
    have f : ∀ c i, ¬ (c = 73 ∧ i = 85) → ¬ (136 ≤ c ∧ c ≤ 138) → (zi (zi (zi (zi B 73 85 (nI q)) 136 u (B.1 122 (32 * q))) 137 u (nI nv)) 138 u 0).1 c i = B.1 c i := fun c i q1 q2 => by rw [zi_c (by omega), zi_c (by omega), zi_c (by omega), zi_get, if_neg (by omega)]
    refine zMv_imp (wm_keep1 (nv := nv) (vb := vb) (vq := vq) hu hnv ((f 73 97 (by omega) (by omega)).trans h97) (fun t ht => by rw [f 133 t (by omega) (by omega), f 134 t (by omega) (by omega)]; exact hv t ht)) (fun B' h => ⟨h.1, fun t k q1 q2 q3 => ?_⟩)
    rw [h.2 t k q1 q2 q3, f 132 k (by omega) (by omega)]
  · obtain ⟨⟨k1, k2⟩, k3⟩ := k1
    have f : ∀ c i, ¬ (c = 73 ∧ i = 85) → ¬ ((136 ≤ c ∧ c ≤ 138) ∧ i = u) → ¬ (c = 139 ∧ 8192 * u ≤ i ∧ i < 8192 * u + 8192) → B1.1 c i = B.1 c i := fun c i q1 q2 q3 => by rw [k1 c i q3, zi_get, if_neg (by omega), zi_get, if_neg (by omega), zi_get, if_neg (by omega), zi_get, if_neg (by omega)]
    rw [f 73 101 (by omega) (by omega) (by omega), h101, nI_1]
    refine ms_end (R := fun B' => (∀ c i, ¬ (c = 73 ∧ (i = 85 ∨ i = 101)) → ¬ ((136 ≤ c ∧ c ≤ 138) ∧ i = u) → ¬ (c = 139 ∧ 8192 * u ≤ i ∧ i < 8192 * u + 8192) → B'.1 c i = B.1 c i) ∧ (∀ c i, B'.2 c i = B.2 c i) ∧ B'.1 73 85 = nI q ∧ B'.1 73 101 = nI (u + 1) ∧ B'.1 136 u = B.1 122 (32 * q) ∧ B'.1 137 u = nI nv ∧ B'.1 138 u = 0 ∧ ∀ t k, t < nv → 32 * vb t ≤ k → k < 32 * (vb t + vq t) → B'.1 139 (8192 * u + k) = B.1 132 k) ⟨fun c i q1 q2 q3 => ?_, k2, ?_, zi_v, ?_, ?_, ?_, fun t k q1 q2 q3 => ?_⟩
    · rw [zi_get, if_neg (by omega)]
      exact f c i (by omega) q2 q3
    · rw [zi_k (by decide), k1 73 85 (by omega), zi_c (by decide), zi_c (by decide), zi_c (by decide)]
      exact zi_v
    · rw [zi_c (by decide), k1 136 u (by omega), zi_c (by decide), zi_c (by decide)]
      exact zi_v
    · rw [zi_c (by decide), k1 137 u (by omega), zi_c (by decide)]
      exact zi_v
    · rw [zi_c (by decide), k1 138 u (by omega)]
      exact zi_v
    · rw [zi_c (by decide)]
      exact k3 t k q1 q2 q3
/-- the words go, the words of before the if come back -/
def IFt (u nv : Nat) (vb vq : Nat → Nat) (B B' : zS) : Prop := (∀ c i, ¬ c = 132 → ¬ (c = 140 ∧ 8192 * u ≤ i ∧ i < 8192 * u + 8192) → B'.1 c i = B.1 c i) ∧ (∀ c i, B'.2 c i = B.2 c i) ∧ (∀ t k, t < nv → 32 * vb t ≤ k → k < 32 * (vb t + vq t) → B'.1 140 (8192 * u + k) = B.1 132 k ∧ B'.1 132 k = B.1 139 (8192 * u + k)) ∧ ∀ k, (∀ t, t < nv → ¬ (32 * vb t ≤ k ∧ k < 32 * (vb t + vq t))) → B'.1 132 k = B.1 132 k
theorem IFt_of {B1 B2 : zS} (h1 : KVi 140 u B B1 ∧ ∀ t k, t < nv → 32 * vb t ≤ k → k < 32 * (vb t + vq t) → B1.1 140 (8192 * u + k) = B.1 132 k) (h2 : (∀ c i, ¬ c = 132 → B2.1 c i = B1.1 c i) ∧ (∀ c i, B2.2 c i = B1.2 c i) ∧ (∀ t k, t < nv → 32 * vb t ≤ k → k < 32 * (vb t + vq t) → B2.1 132 k = B1.1 139 (8192 * u + k)) ∧ ∀ k, (∀ t, t < nv → ¬ (32 * vb t ≤ k ∧ k < 32 * (vb t + vq t))) → B2.1 132 k = B1.1 132 k) : IFt u nv vb vq B B2 :=
  ⟨fun c i q1 q2 => (h2.1 c i q1).trans (h1.1.1 c i q2), fun c i => (h2.2.1 c i).trans (h1.1.2 c i), fun t k q1 q2 q3 => ⟨(h2.1 140 _ (by omega)).trans (h1.2 t k q1 q2 q3), (h2.2.2.1 t k q1 q2 q3).trans (h1.1.1 139 _ (by omega))⟩, fun k q => (h2.2.2.2 k q).trans (h1.1.1 132 k (by omega))⟩
theorem ms_36 (hg : ip_gk (lg_tbl, vwCl, Gr)) (hj : j < 12000) (hu : u < 40) (hnv : nv ≤ 256) (h78 : B.1 78 j = 36) (h101 : B.1 73 101 = nI (u + 1)) (h137 : B.1 137 u = nI nv) (hv : ∀ t, t < nv → B.1 133 t = nI (vb t) ∧ B.1 134 t = nI (vq t) ∧ vb t + vq t ≤ 256) : zMi l Gr (zc n w) 168 M_Mo_statement (d + 6) [.ref 105, .int (nI j)] B (fun v B' => v = nI (j + 1) ∧ IFt u nv vb vq (zi (zi B 73 97 (nI nv)) 138 u 1) B') := by
  have e101 : B.1 73 101 - 1 = nI u := by rw [h101, nI_pred]
  have cu : ((nI u : Int32)).toNatClampNeg = u := nI_clamp (by omega)
  have f : ∀ c i, ¬ (c = 73 ∧ i = 97) → ¬ c = 138 → (zi (zi B 73 97 (nI nv)) 138 u 1).1 c i = B.1 c i := fun c i q1 q2 => by rw [zi_c (by omega), zi_get, if_neg (by omega)]
  have hv' : ∀ t, t < nv → (zi (zi B 73 97 (nI nv)) 138 u 1).1 133 t = nI (vb t) ∧ (zi (zi B 73 97 (nI nv)) 138 u 1).1 134 t = nI (vq t) ∧ vb t + vq t ≤ 256 := fun t ht => by rw [f 133 t (by omega) (by omega), f 134 t (by omega) (by omega)]; exact hv t ht
  have h97 : (zi (zi B 73 97 (nI nv)) 138 u 1).1 73 97 = nI nv := by rw [zi_c (by decide)]; exact zi_v
  refine e_Mo_statement (ms_0 (z := 36) hj h78 (by omega) (by omega) (by omega) (by omega) (by omega) (by omega) (by omega) (by omega) (by omega) (by omega) (fun _ => b_Mo_statement_541 hg (R := fun B' => KVi 140 u (zi (zi B 73 97 (nI nv)) 138 u 1) B' ∧ ∀ t k, t < nv → 32 * vb t ≤ k → k < 32 * (vb t + vq t) → B'.1 140 (8192 * u + k) = (zi (zi B 73 97 (nI nv)) 138 u 1).1 132 k) (by rw [e101]; exact vp_in_nI (by omega) (by omega)) ?_ (fun B1 k1 => ?_)) (by omega) (by omega) (by omega) (by omega) (by omega))
  · rw [e101, cu, h137, show ((1 : Int32) &&& 1) = 1 from rfl]
    exact wm_keep2 hu hnv h97 hv'
  · have b101 : B1.1 73 101 - 1 = nI u := by rw [k1.1.1 73 101 (by omega), f 73 101 (by omega) (by omega)]; exact e101
    refine b_Mo_statement_582 hg (R := fun B2 => IFt u nv vb vq (zi (zi B 73 97 (nI nv)) 138 u 1) B2) ?_ (fun B2 k2 => b_Mo_statement_596 (ms_end k2))
    rw [b101]
    exact zMv_imp (wm_bring (nv := nv) (vb := vb) (vq := vq) hu hnv ((k1.1.1 73 97 (by omega)).trans h97) (fun t ht => by rw [k1.1.1 133 t (by omega), k1.1.1 134 t (by omega)]; exact hv' t ht)) (fun B2 h => IFt_of k1 h)
end IFS
