/-! the reference's operand(), kind by kind -/
section MOP
variable {l : Launch} {Gr : zG} {n w : Nat} {d : Nat} {S A T B B1 B0 : zS} {c x y x1 x2 x4 : Int32} {X Y O F : Nat → Int32} {R : zS → Prop} {Q : Option Value → zS → Prop} {a b m q o i j j0 r v st cd rf z : Nat}
theorem mo_0 (hj : j < 12000) (h78 : B.1 78 j = nI z) (hz : z < 20) (k1 : z = 1 → zW l Gr (zc n w) 168 M_Mo_operand (d + 6) 76 [some (.ref 105), some (.int (nI j)), none, none, none] [] B Q) (k2 : z = 2 → zW l Gr (zc n w) 168 M_Mo_operand (d + 6) 83 [some (.ref 105), some (.int (nI j)), none, none, none] [] B Q) (k3 : z = 3 ∨ z = 4 → zW l Gr (zc n w) 168 M_Mo_operand (d + 6) 108 [some (.ref 105), some (.int (nI j)), none, none, none] [] B Q) (k5 : z = 5 → zW l Gr (zc n w) 168 M_Mo_operand (d + 6) 138 [some (.ref 105), some (.int (nI j)), none, none, none] [] B Q) (k7 : z = 7 → zW l Gr (zc n w) 168 M_Mo_operand (d + 6) 146 [some (.ref 105), some (.int (nI j)), none, none, none] [] B Q) (k9 : z = 9 → zW l Gr (zc n w) 168 M_Mo_operand (d + 6) 154 [some (.ref 105), some (.int (nI j)), none, none, none] [] B Q) (k10 : z = 10 → zW l Gr (zc n w) 168 M_Mo_operand (d + 6) 209 [some (.ref 105), some (.int (nI j)), none, none, none] [] B Q) (k11 : z = 11 → zW l Gr (zc n w) 168 M_Mo_operand (d + 6) 246 [some (.ref 105), some (.int (nI j)), none, none, none] [] B Q) (k12 : z = 12 → zW l Gr (zc n w) 168 M_Mo_operand (d + 6) 321 [some (.ref 105), some (.int (nI j)), none, none, none] [] B Q) (k13 : z = 13 → zW l Gr (zc n w) 168 M_Mo_operand (d + 6) 334 [some (.ref 105), some (.int (nI j)), none, none, none] [] B Q) (k14 : z = 14 → zW l Gr (zc n w) 168 M_Mo_operand (d + 6) 342 [some (.ref 105), some (.int (nI j)), none, none, none] [] B Q) (k0 : z = 0 ∨ z = 6 ∨ z = 8 ∨ 15 ≤ z → zW l Gr (zc n w) 168 M_Mo_operand (d + 6) 435 [none, some (.int (nI j)), none, none, none] [] B Q) : zW l Gr (zc n w) 168 M_Mo_operand (d + 6) 0 [some (.ref 105), some (.int (nI j)), none, none, none] [] B Q := by
  have c0 : ((nI j : Int32)).toNatClampNeg = j := nI_clamp (by omega)
  have g : ∀ t : Nat, t < 100 → B.1 78 ((nI j : Int32)).toNatClampNeg = nI t → z = t := fun t ht y => (nI_eq (by omega) (by omega)).mp (by rw [c0, h78] at y; exact y)
  have g' : ∀ t : Nat, ¬ B.1 78 ((nI j : Int32)).toNatClampNeg = nI t → ¬ z = t := fun t y e => y (by rw [c0, h78, e])
  refine b_Mo_operand_0 (vp_in_nI hj (by omega)) (fun y => k1 (g 1 (by omega) y)) (fun y => k2 (g 2 (by omega) y)) (fun y => k3 (Or.inl (g 3 (by omega) y))) (fun y => k3 (Or.inr (g 4 (by omega) y))) (fun y => k5 (g 5 (by omega) y)) (fun y => k7 (g 7 (by omega) y)) (fun y => k9 (g 9 (by omega) y)) (fun y => k10 (g 10 (by omega) y)) (fun y => k11 (g 11 (by omega) y)) (fun y => k12 (g 12 (by omega) y)) (fun y => k13 (g 13 (by omega) y)) (fun y => k14 (g 14 (by omega) y)) (fun y1 y2 y3 y4 y5 y7 y9 y10 y11 y12 y13 y14 => k0 ?_)
  have := g' 1 y1
  have := g' 2 y2
  have := g' 3 y3
  have := g' 4 y4
  have := g' 5 y5
  have := g' 7 y7
  have := g' 9 y9
  have := g' 10 y10
  have := g' 11 y11
  have := g' 12 y12
  have := g' 13 y13
  have := g' 14 y14
  clear k0 k1 k2 k3 k5 k7 k9 k10 k11 k12 k13 k14 g g'
  omega
theorem mo_end (q : R B) : zW l Gr (zc n w) 168 M_Mo_operand (d + 6) 435 [none, some (.int (nI j)), none, none, none] [] B (fun v B' => ∃ x, v = some (.int x) ∧ x = nI (j + 1) ∧ R B') := b_Mo_operand_435 ⟨_, rfl, by rw [nI_1], q⟩
/-- what has no meaning of its own -/
theorem mo_nn (hj : j < 12000) (h78 : B.1 78 j = nI z) (hz : z = 6 ∨ z = 8 ∨ (15 ≤ z ∧ z < 20)) : zMi l Gr (zc n w) 168 M_Mo_operand (d + 6) [.ref 105, .int (nI j)] B (fun v B' => v = nI (j + 1) ∧ B' = B) := e_Mo_operand (mo_0 hj h78 (by omega) (by omega) (by omega) (by omega) (by omega) (by omega) (by omega) (by omega) (by omega) (by omega) (by omega) (by omega) (fun _ => mo_end (R := fun B' => B' = B) rfl))
theorem mo_1 (hg : ip_gk (lg_tbl, vwCl, Gr)) (hj : j < 12000) (h78 : B.1 78 j = 1) (q : zMv l Gr (zc n w) 168 M_Mo_step (d + 5) [.ref 105] B R) : zMi l Gr (zc n w) 168 M_Mo_operand (d + 6) [.ref 105, .int (nI j)] B (fun v B' => v = nI (j + 1) ∧ R B') := e_Mo_operand (mo_0 (z := 1) hj h78 (by omega) (fun _ => b_Mo_operand_76 hg q (fun B' r => b_Mo_operand_80 (mo_end r))) (by omega) (by omega) (by omega) (by omega) (by omega) (by omega) (by omega) (by omega) (by omega) (by omega) (by omega))
theorem mo_5 (hg : ip_gk (lg_tbl, vwCl, Gr)) (hj : j < 12000) (h78 : B.1 78 j = 5) (q : zMv l Gr (zc n w) 168 M_Mo_named (d + 5) [.ref 105, .int (nI j)] B R) : zMi l Gr (zc n w) 168 M_Mo_operand (d + 6) [.ref 105, .int (nI j)] B (fun v B' => v = nI (j + 1) ∧ R B') := e_Mo_operand (mo_0 (z := 5) hj h78 (by omega) (by omega) (by omega) (by omega) (fun _ => b_Mo_operand_138 hg q (fun B' r => b_Mo_operand_143 (mo_end r))) (by omega) (by omega) (by omega) (by omega) (by omega) (by omega) (by omega) (by omega))
theorem mo_7 (hg : ip_gk (lg_tbl, vwCl, Gr)) (hj : j < 12000) (h78 : B.1 78 j = 7) (q : zMv l Gr (zc n w) 168 M_Mo_indexed (d + 5) [.ref 105, .int (nI j)] B R) : zMi l Gr (zc n w) 168 M_Mo_operand (d + 6) [.ref 105, .int (nI j)] B (fun v B' => v = nI (j + 1) ∧ R B') := e_Mo_operand (mo_0 (z := 7) hj h78 (by omega) (by omega) (by omega) (by omega) (by omega) (fun _ => b_Mo_operand_146 hg q (fun B' r => b_Mo_operand_151 (mo_end r))) (by omega) (by omega) (by omega) (by omega) (by omega) (by omega) (by omega))
theorem mo_12 (hg : ip_gk (lg_tbl, vwCl, Gr)) (hj : j < 12000) (h78 : B.1 78 j = 12) (h79 : B.1 79 j = x) (q : zMv l Gr (zc n w) 168 M_Mo_unary (d + 5) [.ref 105, .int x] B R) : zMi l Gr (zc n w) 168 M_Mo_operand (d + 6) [.ref 105, .int (nI j)] B (fun v B' => v = nI (j + 1) ∧ R B') := e_Mo_operand (mo_0 (z := 12) hj h78 (by omega) (by omega) (by omega) (by omega) (by omega) (by omega) (by omega) (by omega) (by omega) (fun _ => b_Mo_operand_321 hg (R := R) (vp_in_nI hj (by omega)) (by rw [nI_clamp (by omega), h79]; exact q) (fun B' r => b_Mo_operand_331 (mo_end r))) (by omega) (by omega) (by omega))
theorem mo_13 (hg : ip_gk (lg_tbl, vwCl, Gr)) (hj : j < 12000) (h78 : B.1 78 j = 13) (q : zMv l Gr (zc n w) 168 M_Mo_binary (d + 5) [.ref 105, .int (nI j)] B R) : zMi l Gr (zc n w) 168 M_Mo_operand (d + 6) [.ref 105, .int (nI j)] B (fun v B' => v = nI (j + 1) ∧ R B') := e_Mo_operand (mo_0 (z := 13) hj h78 (by omega) (by omega) (by omega) (by omega) (by omega) (by omega) (by omega) (by omega) (by omega) (by omega) (fun _ => b_Mo_operand_334 hg q (fun B' r => b_Mo_operand_339 (mo_end r))) (by omega) (by omega))
theorem mo_2 (hg : ip_gk (lg_tbl, vwCl, Gr)) (hw : w ≤ 32) (hq : q < 4200) (hj : j < 12000) (h78 : B.1 78 j = 2) (h82 : B.2 82 j = lN v) (hv : v < 2 ^ 62) (h85 : B.1 73 85 = nI q) : zMi l Gr (zc n w) 168 M_Mo_operand (d + 6) [.ref 105, .int (nI j)] B (fun x B' => x = nI (j + 1) ∧ OPd B B B' q w (fun i => bC (v.testBit i))) := by
  refine e_Mo_operand (mo_0 (z := 2) hj h78 (by omega) (by omega) (fun _ => b_Mo_operand_83 hg (R := fun B' => MEc B B' ∧ FM (fun c i => c = 125 ∧ i < 40) B B' ∧ ∀ i, i < w → B'.1 125 i = bC (v.testBit i)) (vp_in_nI hj (by omega)) (by rw [nI_clamp (by omega), h82]; exact wm_constZ (T := B) hw hv MEc_rfl) (fun B1 k1 => b_Mo_operand_97 hg (wm_pushZ hw hq k1.1 (by rw [k1.2.1.1 73 85 (by omega) (by omega) (by omega)]; exact h85) k1.2.2) (fun B2 k2 => b_Mo_operand_105 (mo_end ⟨k2.1, ?_, k2.2.2.1, k2.2.2.2⟩)))) (by omega) (by omega) (by omega) (by omega) (by omega) (by omega) (by omega) (by omega) (by omega) (by omega))
  exact FM_tr (P'' := PU q) k1.2.1 k2.2.1 (fun c i z => PU_a (by omega) (by omega) (by omega)) (fun c i z => by unfold PU; omega)
theorem mo_3 (hg : ip_gk (lg_tbl, vwCl, Gr)) (hw : w ≤ 32) (hq : q < 4200) (hj : j < 12000) (h78 : B.1 78 j = if x = -1 then 3 else 4) (hx : x = -1 ∨ x = -2) (h85 : B.1 73 85 = nI q) : zMi l Gr (zc n w) 168 M_Mo_operand (d + 6) [.ref 105, .int (nI j)] B (fun v B' => v = nI (j + 1) ∧ OPd B B B' q 1 (fun _ => x)) := by
  have c0 : ((nI j : Int32)).toNatClampNeg = j := nI_clamp (by omega)
  have go : zW l Gr (zc n w) 168 M_Mo_operand (d + 6) 129 [some (.ref 105), some (.int (nI j)), none, none, none] [.int x, .int 0, .ref 157] B (fun v B' => ∃ u, v = some (.int u) ∧ u = nI (j + 1) ∧ OPd B B B' q 1 (fun _ => x)) := by
    refine b_Mo_operand_129 hg (vp_in_nI (n := 0) (by omega) (by omega)) (wm_pushZ (T := B) (m := 1) (X := fun _ => x) (by omega) hq (MEc_zi MEc_rfl (by omega)) (by rw [zi_c (by decide)]; exact h85) (fun i hi => ?_)) (fun B2 k2 => b_Mo_operand_135 (mo_end ⟨k2.1, ?_, k2.2.2.1, k2.2.2.2⟩))
    · have : i = 0 := by omega
      subst this
      rw [show ((0 : Int32).toNatClampNeg) = 0 from rfl, zi_get, if_pos ⟨rfl, rfl⟩]
    · exact FM_tr (P'' := PU q) (FM_zi (P := PU q) (PU_a (by omega) (by omega) (by decide))) k2.2.1 (fun _ _ z => z) (fun c i z => by unfold PU; omega)
  refine e_Mo_operand (mo_0 (z := if x = -1 then 3 else 4) hj (by rw [h78]; split <;> rfl) (by split <;> omega) (by split <;> omega) (by split <;> omega) (fun _ => b_Mo_operand_108 (vp_in_nI hj (by omega)) (fun y => ?_) (fun y => ?_)) (by split <;> omega) (by split <;> omega) (by split <;> omega) (by split <;> omega) (by split <;> omega) (by split <;> omega) (by split <;> omega) (by split <;> omega) (by split <;> omega))
  · rw [c0, h78] at y
    have : x = -2 := by
      rcases hx with e | e
      · rw [if_pos e] at y
        exact absurd rfl y
      · exact e
    rw [this] at go ⊢
    exact b_Mo_operand_127 go
  · rw [c0, h78] at y
    have : x = -1 := by
      rcases hx with e | e
      · exact e
      · rw [e] at y
        exact absurd y (by decide)
    rw [this] at go ⊢
    exact b_Mo_operand_123 go
theorem mo_10 (hg : ip_gk (lg_tbl, vwCl, Gr)) (hw : w ≤ 32) (hw1 : 1 ≤ w) (hq : q < 4200) (hj : j < 12000) (h78 : B.1 78 j = 10) (h85 : B.1 73 85 = nI (q + 1)) (hX : B.1 122 (32 * q) = x) : zMi l Gr (zc n w) 168 M_Mo_operand (d + 6) [.ref 105, .int (nI j)] B (fun v B' => v = nI (j + 1) ∧ OPd B B B' q w (fun i => if i = 0 then x else -2)) := by
  refine e_Mo_operand (mo_0 (z := 10) hj h78 (by omega) (by omega) (by omega) (by omega) (by omega) (by omega) (by omega) (fun _ => b_Mo_operand_209 hg (wm_popX (T := B) (m := 1) (X := fun _ => x) (by omega) hq MEc_rfl h85 (fun i hi => by rw [show i = 0 by omega]; exact hX)) (fun B1 k1 => b_Mo_operand_214 hg (wm_constZ (v := 0) (m := w) hw (by omega) k1.1) (fun B2 k2 => ?_))) (by omega) (by omega) (by omega) (by omega) (by omega))
  have x0 : B2.1 123 0 = x := by
    rw [k2.2.1.1 123 0 (by omega) (by omega) (by omega)]
    exact k1.2.2.2 0 (by omega)
  refine b_Mo_operand_223 hg (wm_pushZ (T := B) (m := w) (q := q) (X := fun i => if i = 0 then x else -2) hw hq (MEc_zi k2.1 (by omega)) ?_ (fun i hi => ?_)) (fun B3 k3 => b_Mo_operand_243 (mo_end ⟨k3.1, ?_, k3.2.2.1, k3.2.2.2⟩))
  · rw [zi_c (by decide), k2.2.1.1 73 85 (by omega) (by omega) (by omega)]
    exact k1.2.2.1
  · rw [show ((0 : Int32).toNatClampNeg) = 0 from rfl, zi_get, x0]
    by_cases e : i = 0
    · rw [if_pos ⟨rfl, e⟩, if_pos e]
    · rw [if_neg (fun y => e y.2), if_neg e, k2.2.2 i hi, Nat.zero_testBit]
      rfl
  · exact FM_tr (P'' := PU q) (FM_tr (P'' := PU q) k1.2.1 k2.2.1 (fun c i z => by unfold PU; omega) (fun c i z => PU_a (by omega) (by omega) (by omega))) (FM_tr (P'' := PU q) (FM_zi (P := PU q) (PU_a (by omega) (by omega) (by decide))) k3.2.1 (fun _ _ z => z) (fun c i z => by unfold PU; omega)) (fun _ _ z => z) (fun _ _ z => z)
theorem mo_389 (hg : ip_gk (lg_tbl, vwCl, Gr)) (hm : m ≤ 32) : ∀ (k j' : Nat) (T B : zS), j' + k = m → MEc T B → MW T → VC T c → (∀ j, VC T (X j)) → (∀ j, VC T (Y j)) → (∀ j, j < m → B.1 123 j = X j) → (∀ j, j < m → B.1 124 j = Y j) → (∀ B', MEc ((muxsP c X Y k j').2 T).2 B' → FM (fun c i => c = 125 ∧ j' ≤ i ∧ i < m) B B' → (∀ i, i < k → B'.1 125 (j' + i) = ((muxsP c X Y k j').2 T).1.getD i (-2)) → zW l Gr (zc n w) 168 M_Mo_operand (d + 6) 427 [some (.ref 105), some (.int (nI j)), some (.int (nI m)), none, none] [] B' Q) → zW l Gr (zc n w) 168 M_Mo_operand (d + 6) 389 [some (.ref 105), some (.int (nI j)), some (.int (nI m)), some (.int c), some (.int (nI j'))] [] B Q
  | 0, j', T, B, h, hK, hW, hc, vX, vY, hX, hY, hQ => b_Mo_operand_389 (fun _ => hQ B hK FM_rfl (fun i hi => absurd hi (by omega))) (fun q => absurd (nI_le (a := m) (b := j') (by omega) (by omega)) q)
  | k + 1, j', T, B, h, hK, hW, hc, vX, vY, hX, hY, hQ => by
    have o1 := m_run hW (W_mux hc (vX j') (vY j'))
    refine b_Mo_operand_389 (fun q => absurd q (nI_ge (a := j') (b := m) (by omega) (by omega))) (fun _ => b_Mo_operand_395 hg (vp_in_nI (by omega) (by omega)) (by
      rw [nI_clamp (by omega), hX j' (by omega), hY j' (by omega)]
      exact wm_muxK (d := d + 2) hg hK hW hc (vX j') (vY j')) (fun v B1 h1 => b_Mo_operand_420 (vp_in_nI (by omega) (by omega)) ?_))
    obtain ⟨ev, K1, F1⟩ := h1
    subst ev
    rw [nI_clamp (by omega), show nI j' + Int32.ofInt 1 = nI (j' + 1) from nI_add j' 1]
    refine mo_389 hg hm k (j' + 1) _ _ (by omega) (MEc_zi K1 (by omega)) (MOK_W o1.1) (VC_m o1.1 hc) (fun j => VC_m o1.1 (vX j)) (fun j => VC_m o1.1 (vY j)) (fun i hi => ?_) (fun i hi => ?_) (fun B' e1 e2 e3 => hQ B' e1 ?_ (fun i hi => ?_))
    · rw [zi_c (by decide), F1.1 123 i (by omega) (by omega)]
      exact hX i hi
    · rw [zi_c (by decide), F1.1 124 i (by omega) (by omega)]
      exact hY i hi
    · exact FM_tr (FM_x (P := fun _ _ => False) F1) (FM_tr (FM_zi (P := fun c i => c = 125 ∧ i = j') ⟨rfl, rfl⟩) e2 (P'' := fun c i => c = 125 ∧ j' ≤ i ∧ i < m) (by omega) (by omega)) (fun _ _ z => z.elim) (fun _ _ z => z)
    · cases i with
      | zero => exact (e2.1 125 (j' + 0) (by omega) (by omega) (by omega)).trans zi_v
      | succ i => exact (congrArg (B'.1 125) (by omega)).trans (e3 i (by omega))
theorem mo_14 (hg : ip_gk (lg_tbl, vwCl, Gr)) (hw : w ≤ 32) (hw1 : 1 ≤ w) (hq : q + 2 < 4200) (hj : j < 12000) (h78 : B.1 78 j = 14) (hr : r ≤ 1) (hm : m = if r = 1 then 1 else w) (h80 : B.1 80 j = nI r) (h85 : B.1 73 85 = nI (q + 3)) (hW : MW B) (hc : VC B c) (vX : ∀ j, VC B (X j)) (vY : ∀ j, VC B (Y j)) (hC : B.1 122 (32 * q) = c) (hX : ∀ i, i < m → B.1 122 (32 * (q + 1) + i) = X i) (hY : ∀ i, i < m → B.1 122 (32 * (q + 2) + i) = Y i) : zMi l Gr (zc n w) 168 M_Mo_operand (d + 6) [.ref 105, .int (nI j)] B (fun v B' => v = nI (j + 1) ∧ OPd ((selP m c X Y).2 B).2 B B' q m ((selP m c X Y).2 B).1) := by
  have hm2 : m ≤ 32 := by rw [hm]; split <;> omega
  refine e_Mo_operand (mo_0 (z := 14) hj h78 (by omega) (by omega) (by omega) (by omega) (by omega) (by omega) (by omega) (by omega) (by omega) (by omega) (by omega) (fun _ => b_Mo_operand_342 hg (vp_in_nI hj (by omega)) wm_width (fun v B1 k1 => ?_)) (by omega))
  obtain ⟨ev, e1⟩ := k1
  subst e1
  have ev : v = nI m := by
    rw [ev, nI_clamp (by omega), h80, hm]
    by_cases z : r = 1
    · rw [if_pos z, if_neg (by rw [z]; decide)]
      rfl
    · rw [if_neg z, if_pos (by rw [show r = 0 by omega]; rfl)]
  rw [ev]
  refine b_Mo_operand_352 hg (wm_popY (T := B1) (q := q + 2) (X := Y) hm2 (by omega) MEc_rfl h85 hY) (fun B2 k2 => b_Mo_operand_358 hg (wm_popX (q := q + 1) (X := X) hm2 (by omega) k2.1 k2.2.2.1 (fun i hi => by rw [k2.2.1.1 122 _ (by omega) (by omega) (by omega)]; exact hX i hi)) (fun B3 k3 => ?_))
  have c3 : B3.1 122 (32 * q) = c := by
    rw [k3.2.1.1 122 _ (by omega) (by omega) (by omega), k2.2.1.1 122 _ (by omega) (by omega) (by omega)]
    exact hC
  have e32 : 32 * (B3.1 73 85 - 1) = nI (32 * q) := by rw [k3.2.2.1, nI_pred, nI_mul32]
  refine b_Mo_operand_363 (by rw [e32]; exact vp_in_nI (by omega) (by omega)) ?_
  rw [e32, nI_clamp (by omega), c3, k3.2.2.1, nI_pred]
  refine mo_389 (X := X) (Y := Y) hg hm2 m 0 B1 _ (by omega) (MEc_85 k3.1) hW hc vX vY (fun i hi => ?_) (fun i hi => ?_) (fun B4 e1 e2 e3 => b_Mo_operand_427 hg (wm_pushZ (q := q) (X := lf ((muxsP c X Y m 0).2 B1).1) hm2 (by omega) e1 ?_ (fun i hi => ?_)) (fun B5 k5 => b_Mo_operand_432 (mo_end ⟨k5.1, ?_, k5.2.2.1, k5.2.2.2⟩)))
  · rw [zi_c (by decide)]
    exact k3.2.2.2 i hi
  · rw [zi_c (by decide), k3.2.1.1 124 _ (by omega) (by omega) (by omega)]
    exact k2.2.2.2 i hi
  · rw [e2.1 73 85 (by omega) (by omega) (by omega), zi_get, if_pos ⟨rfl, rfl⟩]
  · have := e3 i hi
    rw [Nat.zero_add] at this
    exact this
  · refine FM_tr (P'' := PU q) (FM_tr (P'' := PU q) k2.2.1 k3.2.1 (fun c i z => by unfold PU; omega) (fun c i z => by unfold PU; omega)) (FM_tr (P'' := PU q) (FM_zi (P := PU q) (Or.inl ⟨rfl, rfl⟩)) (FM_tr (P'' := PU q) e2 k5.2.1 (fun c i z => PU_a (by omega) (by omega) (by omega)) (fun c i z => by unfold PU; omega)) (fun _ _ z => z) (fun _ _ z => z)) (fun _ _ z => z) (fun _ _ z => z)
end MOP
