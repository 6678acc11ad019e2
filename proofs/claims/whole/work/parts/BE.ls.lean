/-! SORTS on both sides: what is visible -/
/-- the declaration that stands at v on both sides -/
def EVv (b : Nat → Int32) (t D : Nat) (A : Nat → Nat → Prop) (S T : zS) (v : Nat) : Prop := ∃ d s x k, d < D ∧ S.1 16 v = nI d ∧ s < t ∧ S.1 9 d = nI s ∧ nid b t T x s ∧ T.1 90 v = nI x ∧ k ≤ 4 ∧ S.1 11 d = nI k ∧ T.1 91 v = nI (k + 1) ∧ T.1 92 v = S.1 12 d ∧ T.1 93 v = S.1 13 d ∧ (∃ r, r ≤ 1 ∧ S.1 12 d = nI r) ∧ (∃ z, z ≤ 64 ∧ S.1 13 d = nI z) ∧ (∃ a, a < 12000 ∧ T.1 94 v = nI a ∧ ((T.1 73 47 = 0 ∨ k = 3 ∨ k = 4) → A d a) ∧ (¬ (k = 2 ∨ k = 4) → S.1 14 d = nI a)) ∧
  (k = 4 → ∃ a q, S.1 15 d = nI a ∧ T.1 97 v = nI a ∧ T.1 96 v = nI q ∧ (q + a ≤ 900 ∧ q + a ≤ (T.1 73 60).toNatClampNeg) ∧ d + a < D ∧ ∀ e, e < a → T.1 110 (q + e) = S.1 12 (d + 1 + e) ∧ ∃ r, r ≤ 1 ∧ S.1 12 (d + 1 + e) = nI r)
def EV (b : Nat → Int32) (t N D m f : Nat) (A : Nat → Nat → Prop) (S T : zS) : Prop := KT b t D S ∧ KV S m f D ∧ T.1 73 34 = nI m ∧ nmO b t T N ∧ N ≤ 2000 ∧ ((f = 0 ∧ T.1 73 47 = 0) ∨ (T.1 73 47 = 1 ∧ ∀ v d, v < m → S.1 16 v = nI d → d < D → (f ≤ v ↔ S.1 11 d = 3))) ∧ ∀ v, v < m → EVv b t D A S T v ∧ ¬ T.1 95 v = 0
section LS
variable {A : Nat → Nat → Prop} {b : Nat → Int32} {t N D m f p x : Nat} {S T : zS}
/-- two numbers of NAMEs are the same where the NAMEs are -/
theorem nid_eq (ht : t ≤ 4000) (hO : nmO b t T N) (hN : N ≤ 2000) {x y s p : Nat} (h1 : nid b t T x s) (h2 : nid b t T y p) : nI x = nI y ↔ wW b t s = wW b t p := by
  obtain ⟨N1, a1, n1, l1, m1, t1, e1, w1, -⟩ := h1
  obtain ⟨N2, a2, n2, l2, m2, t2, e2, w2, -⟩ := h2
  have c1 : N1 = N := (nI_eq (by omega) (by omega)).mp (n1.symm.trans hO.1)
  have c2 : N2 = N := (nI_eq (by omega) (by omega)).mp (n2.symm.trans hO.1)
  rw [c1] at l1
  rw [c2] at l2
  refine ⟨fun h => ?_, fun h => ?_⟩
  · have exy : x = y := (nI_eq (by omega) (by omega)).mp h
    subst exy
    have ea : a1 = a2 := (nI_eq (by omega) (by omega)).mp (e1.symm.trans e2)
    rw [← w1, ← w2, ea]
  · have := hO.2.2 x y a1 a2 l1 l2 t1 t2 e1 e2 (by rw [w1, w2]; exact h)
    rw [this]
/-- one step of looking a NAME up -/
theorem see_eq (hE : EV b t N D m f A S T) (hid : nid b t T x p) {v : Nat} (hv : v < m) : ((S.1 8 12 ≤ nI v ∨ S.1 11 (S.1 16 v).toNatClampNeg = 4) ∧ wW b t (S.1 9 (S.1 16 v).toNatClampNeg).toNatClampNeg = wW b t p) ↔ (¬ T.1 95 v = 0 ∧ T.1 90 v = nI x ∧ (T.1 73 47 = 0 ∨ T.1 91 v = 5 ∨ T.1 91 v = 4)) := by
  obtain ⟨hT, hV, h34, hO, hN, hD, hA⟩ := hE
  obtain ⟨⟨d, s, y, k, hd, e16, hs, h9, hy, h90, hk, h11, h91, -⟩, h95⟩ := hA v hv
  have ht := hT.2.1
  have hDD := hT.2.2.2.2
  have hm := hV.2.1
  have hf := hV.2.2.2.1
  have cd : (S.1 16 v).toNatClampNeg = d := by rw [e16]; exact nI_clamp (by omega)
  have cs : (S.1 9 d).toNatClampNeg = s := by rw [h9]; exact nI_clamp (by omega)
  have nm := nid_eq ht hO hN hy hid
  have k4 : nI k = 4 ↔ k = 4 := nI_eq (b := 4) (by omega) (by omega)
  have k3 : nI k = 3 ↔ k = 3 := nI_eq (b := 3) (by omega) (by omega)
  have q5 : nI (k + 1) = 5 ↔ k = 4 := ⟨fun h => by have := (nI_eq (a := k + 1) (b := 5) (by omega) (by omega)).mp h; omega, fun h => by rw [h]; rfl⟩
  have q4 : nI (k + 1) = 4 ↔ k = 3 := ⟨fun h => by have := (nI_eq (a := k + 1) (b := 4) (by omega) (by omega)).mp h; omega, fun h => by rw [h]; rfl⟩
  have fv : nI f ≤ nI v ↔ f ≤ v := nI_leI (by omega) (by omega)
  rw [cd, cs, h11, h90, h91, hV.2.2.1, k4, q5, q4, fv, nm]
  rcases hD with ⟨f0, i0⟩ | ⟨i1, hq⟩
  · subst f0
    rw [i0]
    exact ⟨fun h => ⟨h95, h.2, Or.inl rfl⟩, fun h => ⟨Or.inl (Nat.zero_le _), h.2.1⟩⟩
  · have := hq v d hv e16 hd
    rw [h11, k3] at this
    rw [i1]
    refine ⟨fun h => ⟨h95, h.2, Or.inr ?_⟩, fun h => ⟨?_, h.2.1⟩⟩
    · exact h.1.elim (fun q => Or.inr (this.mp q)) (fun q => Or.inl q)
    · rcases h.2.2 with q | q | q
      · exact absurd q (by decide)
      · exact Or.inr q
      · exact Or.inl (this.mpr q)
/-- a NAME is looked up alike -/
theorem find_eq (hE : EV b t N D m f A S T) (hid : nid b t T x p) : ∀ v, v ≤ m → (kf b t S p v = -1 ∧ mv T (nI x) v = -1) ∨ ∃ u d, u < v ∧ d < D ∧ S.1 16 u = nI d ∧ kf b t S p v = nI d ∧ mv T (nI x) v = nI u ∧ (T.1 73 47 = 0 ∨ T.1 91 u = 5 ∨ T.1 91 u = 4)
  | 0, _ => Or.inl ⟨rfl, rfl⟩
  | v + 1, h => by
    have hs := see_eq hE hid (v := v) (by omega)
    by_cases z : (S.1 8 12 ≤ nI v ∨ S.1 11 (S.1 16 v).toNatClampNeg = 4) ∧ wW b t (S.1 9 (S.1 16 v).toNatClampNeg).toNatClampNeg = wW b t p
    · obtain ⟨d, hd, e⟩ := hE.2.1.2.2.2.2 v (by omega)
      right
      refine ⟨v, d, by omega, hd, e, ?_, ?_, (hs.mp z).2.2⟩
      · show (if _ then _ else _) = _
        rw [if_pos z, e]
      · show (if _ then _ else _) = _
        rw [if_pos (hs.mp z)]
    · have e1 : kf b t S p (v + 1) = kf b t S p v := by
        show (if _ then _ else _) = _
        rw [if_neg z]
      have e2 : mv T (nI x) (v + 1) = mv T (nI x) v := by
        show (if _ then _ else _) = _
        rw [if_neg (fun y => z (hs.mpr y))]
      rw [e1, e2]
      rcases find_eq hE hid v (by omega) with h | ⟨u, d, h1, h2⟩
      · exact Or.inl h
      · exact Or.inr ⟨u, d, by omega, h2⟩
theorem kFind_eq (hE : EV b t N D m f A S T) (hid : nid b t T x p) : (kFind b t S p = -1 ∧ mv T (nI x) m = -1) ∨ ∃ u d, u < m ∧ d < D ∧ S.1 16 u = nI d ∧ kFind b t S p = nI d ∧ mv T (nI x) m = nI u ∧ (T.1 73 47 = 0 ∨ T.1 91 u = 5 ∨ T.1 91 u = 4) := by
  have hm := hE.2.1.2.1
  have e : kFind b t S p = kf b t S p m := by
    unfold kFind
    rw [hE.2.1.1, nI_clamp (by omega)]
  rw [e]
  exact find_eq hE hid m (Nat.le_refl _)
theorem vis_k {u k : Nat} (h : T.1 73 47 = 0 ∨ T.1 91 u = 5 ∨ T.1 91 u = 4) (h91 : T.1 91 u = nI (k + 1)) (hk : k ≤ 4) : T.1 73 47 = 0 ∨ k = 3 ∨ k = 4 := by
  rw [h91] at h
  rcases h with h | h | h
  · exact Or.inl h
  · have := (nI_eq (a := k + 1) (b := 5) (by omega) (by omega)).mp h
    omega
  · have := (nI_eq (a := k + 1) (b := 4) (by omega) (by omega)).mp h
    omega
end LS
