/-! the class's buildFactor(), kind by kind -/
section KFA
variable {l : Launch} {Gr : zG} {n w : Nat} {d : Nat} {S A A0 T B : zS} {x y x1 x2 x3 x4 : Int32} {X Y O F : Nat → Int32} {R : zS → Prop} {Q : Option Value → zS → Prop} {a b m q o i e r v st cf N z h k : Nat}
theorem kf_0 (hz : z < 56) (k1 : z = 21 ∨ z = 25 ∨ z = 28 → zW l Gr (zc n w) 168 M_Builder_buildFactor (d + 7) 68 [some (.ref 77), none, none] [] A Q) (k2 : z = 22 → zW l Gr (zc n w) 168 M_Builder_buildFactor (d + 7) 81 [some (.ref 77), some (.int x1), none] [] A Q) (k3 : z = 23 → zW l Gr (zc n w) 168 M_Builder_buildFactor (d + 7) 108 [some (.ref 77), some (.int x1), none] [] A Q) (k4 : z = 24 → zW l Gr (zc n w) 168 M_Builder_buildFactor (d + 7) 149 [some (.ref 77), some (.int x1), none] [] A Q) (k6 : z = 26 → zW l Gr (zc n w) 168 M_Builder_buildFactor (d + 7) 175 [some (.ref 77), some (.int x1), none] [] A Q) (k7 : z = 27 → zW l Gr (zc n w) 168 M_Builder_buildFactor (d + 7) 183 [some (.ref 77), some (.int x1), none] [] A Q) (k10 : z = 30 → zW l Gr (zc n w) 168 M_Builder_buildFactor (d + 7) 199 [some (.ref 77), some (.int x1), none] [] A Q) (k11 : z = 31 → zW l Gr (zc n w) 168 M_Builder_buildFactor (d + 7) 223 [some (.ref 77), none, none] [] A Q) (k13 : z = 33 → zW l Gr (zc n w) 168 M_Builder_buildFactor (d + 7) 250 [some (.ref 77), some (.int x1), none] [] A Q) (k0 : z < 21 ∨ z = 29 ∨ z = 32 ∨ 34 ≤ z → zW l Gr (zc n w) 168 M_Builder_buildFactor (d + 7) 258 [none, none, none] [] A Q) : zW l Gr (zc n w) 168 M_Builder_buildFactor (d + 7) 0 [some (.ref 77), some (.int x1), some (.int (nI z))] [] A Q := by
  have g : ∀ t : Nat, t < 100 → nI z = nI t → z = t := fun t ht y => (nI_eq (by omega) (by omega)).mp y
  have g' : ∀ t : Nat, ¬ nI z = nI t → ¬ z = t := fun t y e => y (by rw [e])
  refine b_Builder_buildFactor_0 (fun y => k1 (Or.inl (g 21 (by omega) y))) (fun y => k2 (g 22 (by omega) y)) (fun y => k3 (g 23 (by omega) y)) (fun y => k4 (g 24 (by omega) y)) (fun y => k1 (Or.inr (Or.inl (g 25 (by omega) y)))) (fun y => k6 (g 26 (by omega) y)) (fun y => k7 (g 27 (by omega) y)) (fun y => k1 (Or.inr (Or.inr (g 28 (by omega) y)))) (fun y => k10 (g 30 (by omega) y)) (fun y => k11 (g 31 (by omega) y)) (fun y => k13 (g 33 (by omega) y)) (fun y1 y2 y3 y4 y5 y6 y7 y8 y9 y10 y11 => k0 ?_)
  have := g' 21 y1
  have := g' 22 y2
  have := g' 23 y3
  have := g' 24 y4
  have := g' 25 y5
  have := g' 26 y6
  have := g' 27 y7
  have := g' 28 y8
  have := g' 30 y9
  have := g' 31 y10
  have := g' 33 y11
  clear k0 k1 k2 k3 k4 k6 k7 k10 k11 k13 g g'
  omega
theorem w_facS (hz : z = 21 ∨ z = 25 ∨ z = 28) (h18 : A.1 45 18 = nI st) : zMv l Gr (zc n w) 168 M_Builder_buildFactor (d + 7) [.ref 77, .int x1, .int (nI z)] A (fun A' => A' = zi A 45 18 (nI (st + 1))) := e_Builder_buildFactor (kf_0 (by omega) (fun _ => b_Builder_buildFactor_68 (b_Builder_buildFactor_258 ⟨rfl, by rw [h18, nI_1]⟩)) (by omega) (by omega) (by omega) (by omega) (by omega) (by omega) (by omega) (by omega) (by omega))
theorem w_fcN (hz : z = 29 ∨ z = 32) : zMv l Gr (zc n w) 168 M_Builder_buildFactor (d + 7) [.ref 77, .int x1, .int (nI z)] A (fun A' => A' = A) := e_Builder_buildFactor (kf_0 (by omega) (by omega) (by omega) (by omega) (by omega) (by omega) (by omega) (by omega) (by omega) (by omega) (fun _ => b_Builder_buildFactor_258 ⟨rfl, rfl⟩))
theorem w_fac22 (hg : ip_gk (lg_tbl, vwCl, Gr)) (hw : w ≤ 32) (hi : i < 4000) (h5 : A.1 5 i = nI v) (hv : v < 2 ^ 32) (h18 : A.1 45 18 = nI st) (h8 : A.1 45 8 = nI a) (ha : a + w ≤ 9682 * w) : zMv l Gr (zc n w) 168 M_Builder_buildFactor (d + 7) [.ref 77, .int (nI i), .int 22] A (fun A' => OPk A (zi A 45 18 (nI (st + 1))) A' a w w (fun j => bC (v.testBit j))) := by
  obtain ⟨N, eN, hN⟩ := nm_ext hv
  refine e_Builder_buildFactor (kf_0 (z := 22) (by omega) (by omega) (fun _ => b_Builder_buildFactor_81 hg (R := fun A' => OPk (zi A 45 18 (nI (st + 1))) (zi A 45 18 (nI (st + 1))) A' a w w (fun j => bC (N.testBit j))) (vp_in_nI hi (by omega)) ?_ (fun A' k => b_Builder_buildFactor_105 (b_Builder_buildFactor_258 ⟨rfl, KEc_tr (KEc_zi KEc_rfl (by omega)) k.1, k.2.1, k.2.2.1, fun j hj => ?_⟩))) (by omega) (by omega) (by omega) (by omega) (by omega) (by omega) (by omega) (by omega))
  · rw [nI_clamp (by omega), h5, eN, h18, nI_1]
    exact w_pushNum (N := N) hg hw (by rw [zi_k (by decide)]; exact h8) ha
  · rw [k.2.2.2 j hj]
    show bC (N.testBit j) = bC (v.testBit j)
    rw [hN j (by omega)]
theorem w_fac23 (hg : ip_gk (lg_tbl, vwCl, Gr)) (hw : w ≤ 32) (hw1 : 1 ≤ w) (hi : i < 4000) (h5 : A.1 5 i = x) (h18 : A.1 45 18 = nI st) (h8 : A.1 45 8 = nI a) (ha : a + w ≤ 9682 * w) : zMv l Gr (zc n w) 168 M_Builder_buildFactor (d + 7) [.ref 77, .int (nI i), .int 23] A (fun A' => OPk A (zi A 45 18 (nI (st + 1))) A' a w 1 (fun _ => x)) := by
  have hmul : 9682 * w ≤ 9682 * 32 := Nat.mul_le_mul_left _ hw
  refine e_Builder_buildFactor (kf_0 (z := 23) (by omega) (by omega) (by omega) (fun _ => b_Builder_buildFactor_108 hg (R := fun A' => OPk (zi A 45 18 (nI (st + 1))) (zi A 45 18 (nI (st + 1))) A' a w w (fun j => bC ((0 : Nat).testBit j))) (by rw [h18, nI_1]; exact w_pushNum (N := 0) (a := a) hg hw (by rw [zi_k (by decide)]; exact h8) ha) (fun A' k => ?_)) (by omega) (by omega) (by omega) (by omega) (by omega) (by omega) (by omega))
  have e8 : A'.1 45 8 - nI w = nI a := by rw [k.2.2.1, nI_subb]
  refine b_Builder_buildFactor_123 (vp_in_nI hi (by omega)) (by rw [e8]; exact vp_in_nI (by omega) (by omega)) (b_Builder_buildFactor_258 ?_)
  rw [e8, nI_clamp (by omega), nI_clamp (by omega)]
  have e5 : A'.1 5 i = x := by rw [k.2.1.1 5 i (by omega) (by omega) (by unfold PKs; omega), zi_c (by decide)]; exact h5
  rw [e5]
  refine ⟨rfl, KEc_zi (KEc_tr (KEc_zi KEc_rfl (by omega)) k.1) (by omega), FK_tr (P'' := PKs a) k.2.1 (FK_zi (P := PKs a) (PKs_s (Nat.le_refl _))) (fun _ _ z => z) (fun _ _ z => z), by rw [zi_c (by decide)]; exact k.2.2.1, fun j hj => ?_⟩
  have : j = 0 := by omega
  subst this
  rw [zi_get, if_pos ⟨rfl, rfl⟩]
theorem w_fac24 (hg : ip_gk (lg_tbl, vwCl, Gr)) (hi : i < 4000) (h5 : A.1 5 i = nI e) (h18 : A.1 45 18 = nI st) (q : zMv l Gr (zc n w) 168 M_Builder_pushNamed (d + 6) [.ref 77, .int (nI e)] (zi A 45 18 (nI (st + 1))) R) : zMv l Gr (zc n w) 168 M_Builder_buildFactor (d + 7) [.ref 77, .int (nI i), .int 24] A R := e_Builder_buildFactor (kf_0 (z := 24) (by omega) (by omega) (by omega) (by omega) (fun _ => b_Builder_buildFactor_149 hg (R := R) (vp_in_nI hi (by omega)) (by rw [nI_clamp (by omega), h5, h18, nI_1]; exact q) (fun A' k => b_Builder_buildFactor_172 (b_Builder_buildFactor_258 ⟨rfl, k⟩))) (by omega) (by omega) (by omega) (by omega) (by omega) (by omega))
theorem kr_2 (hw : w ≤ 32) (hb : a + b ≤ 9682 * w) : ∀ (k j : Nat) (A : zS), j + k = b → KEc S A → (∀ A', KEc S A' → FK (fun c i => c = 57 ∧ a + j ≤ i ∧ i < a + b) A A' → (∀ i, j ≤ i → i < b → A'.1 57 (a + i) = -2) → Q none A') → zW l Gr (zc n w) 168 M_Builder_clearRow d 2 [some (.ref 89), some (.int (nI a)), some (.int (nI b)), some (.int (nI (a + j)))] [] A Q
  | 0, j, A, h, hK, hQ => b_Builder_clearRow_r89_2 (fun _ => b_Builder_clearRow_r89_20 (hQ A hK FK_rfl (fun i h1 h2 => absurd h2 (by omega)))) (fun z => absurd (by have hmul : 9682 * w ≤ 9682 * 32 := Nat.mul_le_mul_left _ hw; rw [nI_add]; exact nI_le (by omega) (by omega)) z)
  | k + 1, j, A, h, hK, hQ => by
    have hmul : 9682 * w ≤ 9682 * 32 := Nat.mul_le_mul_left _ hw
    refine b_Builder_clearRow_r89_2 (fun z => absurd z (by rw [nI_add]; exact nI_ge (by omega) (by omega))) (fun _ => b_Builder_clearRow_r89_9 (vp_in_nI (by omega) (by omega)) ?_)
    rw [nI_clamp (by omega), show nI (a + j) + Int32.ofInt 1 = nI (a + (j + 1)) from nI_add (a + j) 1]
    refine kr_2 hw hb k (j + 1) _ (by omega) (KEc_zi hK (by omega)) (fun A' e1 e2 e3 => hQ A' e1 (FK_tr (FK_zi (P := fun c i => c = 57 ∧ a + j ≤ i ∧ i < a + b) ⟨rfl, by omega, by omega⟩) e2 (P'' := fun c i => c = 57 ∧ a + j ≤ i ∧ i < a + b) (fun _ _ z => z) (by omega)) (fun i h1 h2 => ?_))
    by_cases z : i = j
    · rw [z, e2.1 57 (a + j) (by omega) (by omega) (by omega), zi_get, if_pos ⟨rfl, rfl⟩]
    · exact e3 i (by omega) h2
theorem w_fac31 (hg : ip_gk (lg_tbl, vwCl, Gr)) (hw : w ≤ 32) (hw1 : 1 ≤ w) (h8 : A.1 45 8 = nI (a + w)) (ha : a + w ≤ 9682 * w) (hX : A.1 57 a = x) : zMv l Gr (zc n w) 168 M_Builder_buildFactor (d + 7) [.ref 77, .int x1, .int 31] A (fun A' => OPk A A A' a w w (fun i => if i = 0 then x else -2)) := by
  have hmul : 9682 * w ≤ 9682 * 32 := Nat.mul_le_mul_left _ hw
  refine e_Builder_buildFactor (kf_0 (z := 31) (by omega) (by omega) (by omega) (by omega) (by omega) (by omega) (by omega) (by omega) (fun _ => b_Builder_buildFactor_223 hg (R := fun A' => OPk A A A' a w w (fun i => if i = 0 then x else -2)) (e_Builder_clearRow_r89 ?_) (fun A' k => b_Builder_buildFactor_247 (b_Builder_buildFactor_258 ⟨rfl, k⟩))) (by omega) (by omega))
  rw [h8, nI_subb, nI_1, show nI w - 1 = nI (w - 1) by rw [show w = (w - 1) + 1 by omega, nI_pred]; rfl]
  refine b_Builder_clearRow_r89_0 (kr_2 (S := A) (a := a + 1) (b := w - 1) hw (by omega) (w - 1) 0 A (by omega) KEc_rfl (fun A' e1 e2 e3 => ⟨rfl, e1, FK_mo e2 (fun c i z => by rw [z.1]; exact PKs_s (by omega)), by rw [e2.1 45 8 (by omega) (by omega) (by omega)]; exact h8, fun j hj => ?_⟩))
  by_cases z : j = 0
  · subst z
    show A'.1 57 a = x
    rw [e2.1 57 _ (by omega) (by omega) (by omega)]
    exact hX
  · show A'.1 57 (a + j) = if j = 0 then x else -2
    rw [if_neg z]
    have := e3 (j - 1) (by omega) (by omega)
    rw [show a + 1 + (j - 1) = a + j by omega] at this
    exact this
end KFA
