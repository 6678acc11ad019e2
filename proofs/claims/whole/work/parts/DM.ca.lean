/-! calls on both sides: the instructions -/
section CLI
variable {l : Launch} {Gr : zG} {n w : Nat} {d : Nat} {S A A0 T B B0 : zS} {x y x1 x2 x3 x4 : Int32} {X Y O F : Nat → Int32} {R : zS → Prop} {Q : Option Value → zS → Prop} {a b m q o i j e r v st cf cd N z h k p jr ir : Nat}
/-- the class's call, and back -/
theorem w_fac30 (hg : ip_gk (lg_tbl, vwCl, Gr)) (hw : w ≤ 32) (hj : j < 4000) (hi : i < 4000) (he : e < 800) (hj5 : A.1 5 j = nI i) (h5 : A.1 5 i = nI e) (h12 : A.1 45 12 = nI cd) (hcd : cd < 285) (h15 : A.1 15 e = nI m) (h8 : A.1 45 8 = nI ((h + m) * w)) (hh : h + m ≤ 9682) : zMv l Gr (zc n w) 168 M_Builder_buildFactor (d + 7) [.ref 77, .int (nI j), .int 30] A (fun A' => A' = zi (zi (zi (zi (zi A 46 cd (A.1 45 16)) 47 cd (A.1 45 13)) 45 12 (nI (cd + 1))) 45 13 (nI (h * w))) 45 16 (A.1 14 e)) := by
  have c0 : ((nI i : Int32)).toNatClampNeg = i := nI_clamp (by omega)
  have cj : ((nI j : Int32)).toNatClampNeg = j := nI_clamp (by omega)
  have ce : ((nI e : Int32)).toNatClampNeg = e := nI_clamp (by omega)
  have cc : ((nI cd : Int32)).toNatClampNeg = cd := nI_clamp (by omega)
  have m1 : (h + m) * w = h * w + m * w := Nat.add_mul _ _ _
  have m2 : (h + m) * w ≤ 9682 * 32 := Nat.mul_le_mul hh hw
  refine e_Builder_buildFactor (kf_0 (z := 30) (by omega) (by omega) (by omega) (by omega) (by omega) (by omega) (by omega) (fun _ => b_Builder_buildFactor_199 hg (R := fun A' => A' = zi (zi (zi (zi (zi A 46 cd (A.1 45 16)) 47 cd (A.1 45 13)) 45 12 (nI (cd + 1))) 45 13 (nI (h * w))) 45 16 (A.1 14 e)) (vp_in_nI hj (by omega)) (by rw [cj, hj5]; exact vp_in_nI hi (by omega)) ?_ (fun A' k => b_Builder_buildFactor_220 (b_Builder_buildFactor_258 ⟨rfl, k⟩))) (by omega) (by omega) (by omega))
  rw [cj, hj5, c0, h5]
  refine e_Builder_call (b_Builder_call_0 (fun y => absurd y (by rw [h12]; exact nI_ge (a := cd) (b := 285) hcd (by omega))) (fun _ => b_Builder_call_10 (vp_in_nI he (by omega)) (fun _ => b_Builder_call_32 (by rw [h12]; exact vp_in_nI hcd (by omega)) (vp_in_nI he (by omega)) ⟨rfl, ?_⟩) (fun y => absurd (by rw [ce, h15, h8, nI_mul]; exact nI_le (by omega) (by omega)) y)))
  rw [h12, cc, ce, h15, h8, nI_mul, nI_1, m1, nI_subb]
theorem w_st5 (hg : ip_gk (lg_tbl, vwCl, Gr)) (hw : w ≤ 32) (hj : j < 4000) (h12 : A.1 45 12 = nI (cd + 1)) (hcd : cd < 285) (h13 : A.1 45 13 = nI (h * w)) (h8 : A.1 45 8 = nI ((p + 1) * w)) (hhp : h ≤ p) (hp : p + 1 ≤ 9682) (h46 : A.1 46 cd = nI ir) (h47 : A.1 47 cd = nI cf) : zMv l Gr (zc n w) 168 M_Builder_buildStatement (d + 7) [.ref 77, .int (nI j), .int 5] A (fun A' => KEc A A' ∧ FK (fun c i => (c = 45 ∧ (i = 8 ∨ i = 12 ∨ i = 13 ∨ i = 16)) ∨ (c = 57 ∧ h * w ≤ i ∧ i < h * w + w)) A A' ∧ A'.1 45 8 = nI ((h + 1) * w) ∧ A'.1 45 12 = nI cd ∧ A'.1 45 13 = nI cf ∧ A'.1 45 16 = nI ir ∧ ∀ x, x < w → A'.1 57 (h * w + x) = A.1 57 (p * w + x)) := by
  have m1 : (p + 1) * w = p * w + w := Nat.succ_mul _ _
  have m2 : (p + 1) * w ≤ 9682 * 32 := Nat.mul_le_mul hp hw
  have m3 : (p + 1) * w ≤ 9682 * w := Nat.mul_le_mul_right _ hp
  have m4 : h * w ≤ p * w := Nat.mul_le_mul_right _ hhp
  have m5 : (h + 1) * w = h * w + w := Nat.succ_mul _ _
  have e8 : A.1 45 8 - nI w = nI (p * w) := by rw [h8, m1, nI_subb]
  have e12 : A.1 45 12 - 1 = nI cd := by rw [h12, nI_pred]
  have cp : ((nI (p * w) : Int32)).toNatClampNeg = p * w := nI_clamp (by omega)
  have ch : ((nI (h * w) : Int32)).toNatClampNeg = h * w := nI_clamp (by omega)
  have cw : ((nI w : Int32)).toNatClampNeg = w := nI_clamp (by omega)
  have cc : ((nI cd : Int32)).toNatClampNeg = cd := nI_clamp (by omega)
  have gb : zMv l Gr (zc n w) 168 M_Builder_goBack (d + 6) [.ref 77] A (fun A' => KEc A A' ∧ FK (fun c i => (c = 45 ∧ (i = 8 ∨ i = 12 ∨ i = 13 ∨ i = 16)) ∨ (c = 57 ∧ h * w ≤ i ∧ i < h * w + w)) A A' ∧ A'.1 45 8 = nI ((h + 1) * w) ∧ A'.1 45 12 = nI cd ∧ A'.1 45 13 = nI cf ∧ A'.1 45 16 = nI ir ∧ ∀ x, x < w → A'.1 57 (h * w + x) = A.1 57 (p * w + x)) := by
    refine e_Builder_goBack (b_Builder_goBack_0 (fun _ => b_Builder_goBack_8 (by rw [e8]; exact nI_pos (by omega)) (by rw [h13]; exact nI_pos (by omega)) (nI_pos (by omega)) (by rw [e8, cp, cw]; omega) (by rw [h13, ch, cw]; omega) (by rw [e12]; exact vp_in_nI hcd (by omega)) ?_) (fun y => absurd y (by rw [h12]; exact nI_ne0 (by omega) (by omega))))
    rw [e8, e12, h13, cp, ch, cw, cc, h46, h47, nI_add, ← m5]
    have g57 : ∀ (B : zS) k, (zi A 45 12 (nI cd)).1 57 k = A.1 57 k := fun _ k => zi_c (by decide)
    refine ⟨rfl, ⟨fun k q1 q2 => ?_, fun c k q1 q2 => ?_⟩, ⟨fun c k q1 q2 q3 => ?_, fun _ _ => rfl⟩, ?_, ?_, ?_, ?_, fun x hx => ?_⟩
    · rw [zi_c (by decide), zi_c (by decide), zi_c (by decide), zI_c (by decide), zi_c (by decide)]
    · rw [zi_c (by omega), zi_c (by omega), zi_c (by omega), zI_c (by omega), zi_c (by omega)]
    · rw [zi_get, if_neg (by omega), zi_get, if_neg (by omega), zi_get, if_neg (by omega), zI_get]
      by_cases e : c = 57
      · subst e
        rw [if_pos rfl, pk_cpy_out (by omega), zi_c (by decide)]
      · rw [if_neg e, zi_get, if_neg (by omega)]
    · rw [zi_k (by decide), zi_k (by decide), zi_get, if_pos ⟨rfl, rfl⟩]
    · rw [zi_k (by decide), zi_k (by decide), zi_k (by decide), zI_c (by decide), zi_get, if_pos ⟨rfl, rfl⟩]
    · rw [zi_k (by decide), zi_get, if_pos ⟨rfl, rfl⟩]
    · rw [zi_get, if_pos ⟨rfl, rfl⟩]
    · rw [zi_c (by decide), zi_c (by decide), zi_c (by decide), zI_get, if_pos rfl, pk_cpy_in (by omega) (by omega), show h * w + x - h * w = x by omega, zi_c (by decide)]
  refine e_Builder_buildStatement (b_Builder_buildStatement_0 (vp_in_nI hj (by omega)) (fun y => absurd y (by decide)) (fun y => absurd y (by decide)) (fun _ => b_Builder_buildStatement_118 hg gb (fun A' k => b_Builder_buildStatement_122 (b_Builder_buildStatement_267 ⟨rfl, k⟩))) (fun y => absurd y (by decide)) (fun y => absurd y (by decide)) (fun y => absurd y (by decide)) (fun y => absurd y (by decide)) (fun y => absurd y (by decide)) (fun _ _ y => absurd rfl y))
/-- the reference's -/
theorem mo_9 (hj : j < 12000) (ha : a < 12000) (h78 : B.1 78 j = 9) (h103 : B.1 103 j = nI a) (h80 : B.1 80 a = nI m) (h110 : B.1 73 110 = nI cd) (hcd : cd < 400) (h85 : B.1 73 85 = nI (q + m)) (hg : ip_gk (lg_tbl, vwCl, Gr)) : zMi l Gr (zc n w) 168 M_Mo_operand (d + 6) [.ref 105, .int (nI j)] B (fun v B' => v = nI (a + m + 2) ∧ B' = zi (zi (zi B 144 cd (nI q)) 145 cd (nI (j + 1))) 73 110 (nI (cd + 1))) := by
  have cj : ((nI j : Int32)).toNatClampNeg = j := nI_clamp (by omega)
  have ca : ((nI a : Int32)).toNatClampNeg = a := nI_clamp (by omega)
  have cc : ((nI cd : Int32)).toNatClampNeg = cd := nI_clamp (by omega)
  refine e_Mo_operand (mo_0 (z := 9) hj h78 (by omega) (by omega) (by omega) (by omega) (by omega) (by omega) (fun _ => b_Mo_operand_154 hg (R := fun v B' => v = nI (a + m + 2) ∧ B' = zi (zi (zi B 144 cd (nI q)) 145 cd (nI (j + 1))) 73 110 (nI (cd + 1))) (vp_in_nI hj (by omega)) (by rw [cj, h103]; exact vp_in_nI ha (by omega)) (by rw [h110]; exact vp_in_nI hcd (by omega)) ?_ (fun v B' k => b_Mo_operand_208 ⟨_, rfl, k.1, k.2⟩)) (by omega) (by omega) (by omega) (by omega) (by omega) (by omega))
  rw [cj, h103, ca, h80, h110, cc, h85, nI_subb, nI_1, nI_1]
  refine e_Mo_bodyOf (b_Mo_bodyOf_0 (vp_in_nI ha (by omega)) ⟨_, rfl, ?_, rfl⟩)
  rw [ca, zi_c (by decide), zi_c (by decide), zi_c (by decide), h80, nI_add, show (2 : Int32) = nI 2 from rfl, nI_add]
theorem ms_0 (hj : j < 12000) (h78 : B.1 78 j = nI z) (hz : z < 100) (k20 : z = 20 → zW l Gr (zc n w) 168 M_Mo_statement (d + 6) 112 [some (.ref 105), some (.int (nI j)), none, none, none, none] [] B Q) (k21 : z = 21 → zW l Gr (zc n w) 168 M_Mo_statement (d + 6) 144 [some (.ref 105), some (.int (nI j)), none, none, none, none] [] B Q) (k25 : z = 25 → zW l Gr (zc n w) 168 M_Mo_statement (d + 6) 157 [some (.ref 105), some (.int (nI j)), none, none, none, none] [] B Q) (k26 : z = 26 → zW l Gr (zc n w) 168 M_Mo_statement (d + 6) 165 [some (.ref 105), some (.int (nI j)), none, none, none, none] [] B Q) (k29 : z = 29 → zW l Gr (zc n w) 168 M_Mo_statement (d + 6) 175 [some (.ref 105), none, none, none, none, none] [] B Q) (k30 : z = 30 → zW l Gr (zc n w) 168 M_Mo_statement (d + 6) 253 [some (.ref 105), some (.int (nI j)), none, none, none, none] [] B Q) (k32 : z = 32 → zW l Gr (zc n w) 168 M_Mo_statement (d + 6) 344 [some (.ref 105), some (.int (nI j)), none, none, none, none] [] B Q) (k34 : z = 34 → zW l Gr (zc n w) 168 M_Mo_statement (d + 6) 409 [some (.ref 105), some (.int (nI j)), none, none, none, none] [] B Q) (k35 : z = 35 → zW l Gr (zc n w) 168 M_Mo_statement (d + 6) 462 [some (.ref 105), some (.int (nI j)), none, none, none, none] [] B Q) (k36 : z = 36 → zW l Gr (zc n w) 168 M_Mo_statement (d + 6) 541 [some (.ref 105), some (.int (nI j)), none, none, none, none] [] B Q) (k37 : z = 37 → zW l Gr (zc n w) 168 M_Mo_statement (d + 6) 599 [some (.ref 105), some (.int (nI j)), none, none, none, none] [] B Q) (k39 : z = 39 → zW l Gr (zc n w) 168 M_Mo_statement (d + 6) 606 [some (.ref 105), some (.int (nI j)), none, none, none, none] [] B Q) (k40 : z = 40 → zW l Gr (zc n w) 168 M_Mo_statement (d + 6) 709 [some (.ref 105), some (.int (nI j)), none, none, none, none] [] B Q) (k42 : z = 42 → zW l Gr (zc n w) 168 M_Mo_statement (d + 6) 417 [some (.ref 105), some (.int (nI j)), none, none, none, none] [] B Q) (k0 : ¬ (z = 20 ∨ z = 21 ∨ z = 25 ∨ z = 26 ∨ z = 29 ∨ z = 30 ∨ z = 32 ∨ (34 ≤ z ∧ z ≤ 37) ∨ z = 39 ∨ z = 40 ∨ z = 42) → zW l Gr (zc n w) 168 M_Mo_statement (d + 6) 756 [none, some (.int (nI j)), none, none, none, none] [] B Q) : zW l Gr (zc n w) 168 M_Mo_statement (d + 6) 0 [some (.ref 105), some (.int (nI j)), none, none, none, none] [] B Q := by
  have c0 : ((nI j : Int32)).toNatClampNeg = j := nI_clamp (by omega)
  have g : ∀ t : Nat, t < 100 → B.1 78 ((nI j : Int32)).toNatClampNeg = nI t → z = t := fun t ht y => (nI_eq (by omega) (by omega)).mp (by rw [c0, h78] at y; exact y)
  have g' : ∀ t : Nat, ¬ B.1 78 ((nI j : Int32)).toNatClampNeg = nI t → ¬ z = t := fun t y e => y (by rw [c0, h78, e])
  refine b_Mo_statement_0 (vp_in_nI hj (by omega)) (fun y => k20 (g 20 (by omega) y)) (fun y => k21 (g 21 (by omega) y)) (fun y => k25 (g 25 (by omega) y)) (fun y => k26 (g 26 (by omega) y)) (fun y => k29 (g 29 (by omega) y)) (fun y => k30 (g 30 (by omega) y)) (fun y => k32 (g 32 (by omega) y)) (fun y => k34 (g 34 (by omega) y)) (fun y => k35 (g 35 (by omega) y)) (fun y => k36 (g 36 (by omega) y)) (fun y => k37 (g 37 (by omega) y)) (fun y => k39 (g 39 (by omega) y)) (fun y => k40 (g 40 (by omega) y)) (fun y => k42 (g 42 (by omega) y)) (fun y1 y2 y3 y4 y5 y6 y7 y8 y9 y10 y11 y12 y13 y14 => k0 ?_)
  have := g' 20 y1
  have := g' 21 y2
  have := g' 25 y3
  have := g' 26 y4
  have := g' 29 y5
  have := g' 30 y6
  have := g' 32 y7
  have := g' 34 y8
  have := g' 35 y9
  have := g' 36 y10
  have := g' 37 y11
  have := g' 39 y12
  have := g' 40 y13
  have := g' 42 y14
  clear k0 k20 k21 k25 k26 k29 k30 k32 k34 k35 k36 k37 k39 k40 k42 g g'
  omega
theorem ms_197 (hq : q ≤ p) (hp : p < 4200) : ∀ (c x : Nat) (B : zS), x + c = 32 → MEc T B → B.1 73 85 = nI (p + 1) → (∀ i, x ≤ i → i < 32 → B.1 122 (32 * p + i) = X i) → (∀ i, i < x → B.1 122 (32 * q + i) = X i) → (∀ B', MEc T B' → FM (fun c i => c = 122 ∧ 32 * q ≤ i ∧ i < 32 * q + 32) B B' → (∀ i, i < 32 → B'.1 122 (32 * q + i) = X i) → zW l Gr (zc n w) 168 M_Mo_statement (d + 6) 236 [some (.ref 105), none, some (.int (nI q)), none, none, none] [] B' Q) → zW l Gr (zc n w) 168 M_Mo_statement (d + 6) 197 [some (.ref 105), none, some (.int (nI q)), some (.int (nI x)), none, none] [] B Q
  | 0, x, B, h, hK, h85, h1, h2, hQ => b_Mo_statement_197 (fun _ => hQ B hK FM_rfl (fun i hi => h2 i (by omega))) (fun z => absurd (nI_le (a := 32) (b := x) (by omega) (by omega)) z)
  | c + 1, x, B, h, hK, h85, h1, h2, hQ => by
    have e1 : 32 * (B.1 73 85 - 1) + nI x = nI (32 * p + x) := by rw [h85, nI_pred, nI_mul32, nI_add]
    have e2 : 32 * nI q + nI x = nI (32 * q + x) := by rw [nI_mul32, nI_add]
    refine b_Mo_statement_197 (fun z => absurd z (nI_ge (a := x) (b := 32) (by omega) (by omega))) (fun _ => b_Mo_statement_203 (by rw [e1]; exact vp_in_nI (by omega) (by omega)) (by rw [e2]; exact vp_in_nI (by omega) (by omega)) ?_)
    rw [e1, e2, nI_clamp (by omega), nI_clamp (by omega), h1 x (Nat.le_refl _) (by omega), show nI x + Int32.ofInt 1 = nI (x + 1) from nI_add x 1]
    refine ms_197 hq hp c (x + 1) _ (by omega) (MEc_zi hK (by omega)) (by rw [zi_c (by decide)]; exact h85) (fun i q1 q2 => ?_) (fun i hi => ?_) (fun B' e1 e2 e3 => hQ B' e1 (FM_tr (P'' := fun c i => c = 122 ∧ 32 * q ≤ i ∧ i < 32 * q + 32) (FM_zi (P := fun c i => c = 122 ∧ 32 * q ≤ i ∧ i < 32 * q + 32) ⟨rfl, by omega, by omega⟩) e2 (fun _ _ z => z) (fun _ _ z => z)) e3)
    · rw [zi_get, if_neg (by omega)]
      exact h1 i (by omega) q2
    · rw [zi_get]
      by_cases z : i = x
      · rw [if_pos ⟨rfl, by omega⟩, z]
      · rw [if_neg (by omega)]
        exact h2 i (by omega)
theorem ms_29 (hj : j < 12000) (h78 : B.1 78 j = 29) (h110 : B.1 73 110 = nI (cd + 1)) (hcd : cd < 400) (h144 : B.1 144 cd = nI q) (h145 : B.1 145 cd = nI jr) (h85 : B.1 73 85 = nI (p + 1)) (hqp : q ≤ p) (hp : p < 4200) : zMi l Gr (zc n w) 168 M_Mo_statement (d + 6) [.ref 105, .int (nI j)] B (fun v B' => v = nI jr ∧ MEc B B' ∧ FM (fun c i => (c = 73 ∧ (i = 85 ∨ i = 110)) ∨ (c = 122 ∧ 32 * q ≤ i ∧ i < 32 * q + 32)) B B' ∧ B'.1 73 85 = nI (q + 1) ∧ B'.1 73 110 = nI cd ∧ ∀ i, i < 32 → B'.1 122 (32 * q + i) = B.1 122 (32 * p + i)) := by
  have e1 : B.1 73 110 - 1 = nI cd := by rw [h110, nI_pred]
  have cc : ((nI cd : Int32)).toNatClampNeg = cd := nI_clamp (by omega)
  refine e_Mo_statement (ms_0 (z := 29) hj h78 (by omega) (by omega) (by omega) (by omega) (by omega) (fun _ => b_Mo_statement_175 (by rw [e1]; exact vp_in_nI hcd (by omega)) ?_) (by omega) (by omega) (by omega) (by omega) (by omega) (by omega) (by omega) (by omega) (by omega) (by omega))
  rw [e1, cc, h144]
  have M1 : MEc B (zi B 73 110 (nI cd)) := ⟨fun k q => by rw [zi_get, if_neg (by omega)], fun c k q => by rw [zi_get, if_neg (by omega)]⟩
  refine ms_197 (X := fun i => B.1 122 (32 * p + i)) hqp hp 32 0 _ (by omega) M1 (by rw [zi_k (by decide)]; exact h85) (fun i _ _ => by rw [zi_c (by decide)]) (fun i hi => absurd hi (by omega)) (fun B2 e1 e2 e3 => ?_)
  have f110 : B2.1 73 110 = nI cd := by rw [e2.1 73 110 (by omega) (by omega) (by omega), zi_get, if_pos ⟨rfl, rfl⟩]
  refine b_Mo_statement_236 (by rw [f110]; exact vp_in_nI hcd (by omega)) ⟨_, rfl, ?_, MEc_85 e1, ?_, ?_, ?_, fun i hi => ?_⟩
  · rw [f110, cc, e2.1 145 cd (by omega) (by omega) (by omega), zi_c (by decide)]
    exact h145
  · exact FM_tr (P'' := fun c i => (c = 73 ∧ (i = 85 ∨ i = 110)) ∨ (c = 122 ∧ 32 * q ≤ i ∧ i < 32 * q + 32)) (FM_zi (P := fun c i => (c = 73 ∧ (i = 85 ∨ i = 110)) ∨ (c = 122 ∧ 32 * q ≤ i ∧ i < 32 * q + 32)) (Or.inl ⟨rfl, Or.inr rfl⟩)) (FM_tr (P'' := fun c i => (c = 73 ∧ (i = 85 ∨ i = 110)) ∨ (c = 122 ∧ 32 * q ≤ i ∧ i < 32 * q + 32)) e2 (FM_zi (P := fun c i => (c = 73 ∧ (i = 85 ∨ i = 110)) ∨ (c = 122 ∧ 32 * q ≤ i ∧ i < 32 * q + 32)) (Or.inl ⟨rfl, Or.inl rfl⟩)) (by omega) (fun _ _ z => z)) (fun _ _ z => z) (fun _ _ z => z)
  · rw [zi_get, if_pos ⟨rfl, rfl⟩, nI_1]
  · rw [zi_k (by decide)]
    exact f110
  · rw [zi_c (by decide)]
    exact e3 i hi
end CLI
