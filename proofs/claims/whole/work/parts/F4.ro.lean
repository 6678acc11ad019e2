/-! calls that only look: gate, literal, input -/
/-- both have a circuit, or none -/
def iBt (n w : Nat) (S : zS) : Prop := (S.1 0 14 = 0 ∧ S.1 73 83 = 0 ∧ S.1 17 6 = 0 ∧ S.1 0 15 = 0 ∧ S.1 73 124 = 0) ∨ (S.1 0 14 = 1 ∧ S.1 73 83 = 1 ∧ iCk n w S)
/-- one answer, the store as it was -/
def roI (l : Launch) (Gr : zG) (n w d : Nat) (Mc Mm : ip_M) (As : List Value) (S : zS) : Prop := ∃ v : Int32, ip_RnM l (lg_tbl, vwCl, Gr) Mc d (.ref 32 :: As) (zP (zc n w) 168 S) (some (.int v), zP (zc n w) 168 S) ∧ ip_RnM l (lg_tbl, vwCl, Gr) Mm d (.ref 105 :: As) (zP (zc n w) 168 S) (some (.int v), zP (zc n w) 168 S)
/-- the same, a long -/
def roL (l : Launch) (Gr : zG) (n w d : Nat) (Mc Mm : ip_M) (As : List Value) (S : zS) : Prop := ∃ v : Int64, ip_RnM l (lg_tbl, vwCl, Gr) Mc d (.ref 32 :: As) (zP (zc n w) 168 S) (some (.long v), zP (zc n w) 168 S) ∧ ip_RnM l (lg_tbl, vwCl, Gr) Mm d (.ref 105 :: As) (zP (zc n w) 168 S) (some (.long v), zP (zc n w) 168 S)
section ROI
variable {l : Launch} {Gr : zG} {n w d : Nat} {S : zS} {x1 x2 x : Int32} {y : Int64} {Mc Mm : ip_M} {As : List Value}
theorem ro_i (h1 : zMi l Gr (zc n w) 168 Mc d (.ref 32 :: As) S (fun v S' => v = x ∧ S' = S)) (h2 : zMi l Gr (zc n w) 168 Mm d (.ref 105 :: As) S (fun v S' => v = x ∧ S' = S)) : roI l Gr n w d Mc Mm As S := by
  obtain ⟨_, S1, ⟨v, rfl, rfl, rfl⟩, c1⟩ := h1
  obtain ⟨_, S2, ⟨v, rfl, rfl, rfl⟩, c2⟩ := h2
  exact ⟨_, c1, c2⟩
theorem ro_l (h1 : zMl l Gr (zc n w) 168 Mc d (.ref 32 :: As) S (fun v S' => v = y ∧ S' = S)) (h2 : zMl l Gr (zc n w) 168 Mm d (.ref 105 :: As) S (fun v S' => v = y ∧ S' = S)) : roL l Gr n w d Mc Mm As S := by
  obtain ⟨_, S1, ⟨v, rfl, rfl, rfl⟩, c1⟩ := h1
  obtain ⟨_, S2, ⟨v, rfl, rfl, rfl⟩, c2⟩ := h2
  exact ⟨_, c1, c2⟩
theorem ro_gate (h : iBt n w S) : roI l Gr n w d M_H_gate M_Mo_gate [.int x1, .int x2] S := by
  rcases h with ⟨h14, h83, -⟩ | ⟨h14, h83, g0, Dm0, iw0, no, bo, hC, -⟩
  · exact ro_i (x := -1) (e_H_gate (b_H_gate_0 (fun _ => b_H_gate_22 ⟨_, rfl, rfl, rfl⟩) (fun z => absurd h14 z))) (e_Mo_gate (b_Mo_gate_0 (fun _ => b_Mo_gate_28 ⟨_, rfl, rfl, rfl⟩) (fun z => absurd h83 z)))
  · obtain ⟨g, iw, hg, hi, h4, h66, h8, h65, h5, h67, h6, -, hr⟩ := hC
    have e : gtM S x1 x2 = gtH S x1 x2 := by
      unfold gtH gtM
      rw [if_neg (show ¬ S.1 0 14 = 0 by rw [h14]; decide), if_neg (show ¬ S.1 73 83 = 0 by rw [h83]; decide), h4, h66]
      by_cases z : x1 < 0
      · rw [if_pos z, if_pos z]
      · rw [if_neg z, if_neg z]
        obtain ⟨k, hk, rfl⟩ := nI_of z
        by_cases zk : k < g
        · obtain ⟨⟨e1, e2, e3, e4⟩, w1⟩ := hr k zk
          rw [if_neg (nI_ge (by omega) (by omega)), if_pos ((nI_ltI hk (by omega)).mpr zk), nI_clamp (by omega), e1, e2, e3]
          by_cases z0 : x2 = 0
          · rw [if_pos z0, if_pos z0, e4]
            rcases w1.1 with q | q
            · rw [if_pos q, if_pos rfl, q]
            · obtain ⟨c, hc, ec⟩ := cAn_n (B := S) k (fun j hj => (hr j (by omega)).2.1)
              rw [if_neg (show ¬ S.1 111 k = 0 by rw [q]; decide), ec, if_neg (nI_no (by omega)), q]
          · rw [if_neg z0, if_neg z0]
        · rw [if_pos (nI_le (by omega) (by omega)), if_neg (fun y => zk ((nI_ltI hk (by omega)).mp y))]
    exact ro_i (x := gtH S x1 x2) (w_gate hg h4) (by rw [← e]; exact wm_gate hg h66)
theorem cl_has0 (h : S.1 0 14 = 0 ∨ x1 < 0 ∨ S.1 24 11 ≤ x1) : zMi l Gr (zc n w) 168 M_H_hasOutput d [.ref 32, .int x1] S (fun v S' => v = 0 ∧ S' = S) := by
  have fin : zW l Gr (zc n w) 168 M_H_hasOutput d 26 [none, none] [] S (fun v S' => ∃ x, v = some (.int x) ∧ (x = 0 ∨ x = 1) ∧ x = 0 ∧ S' = S) := b_H_hasOutput_26 (b_H_hasOutput_27 ⟨0, rfl, Or.inl rfl, rfl, rfl⟩)
  exact e_H_hasOutput (b_H_hasOutput_0 (fun _ => fin) (fun q1 => b_H_hasOutput_7 (fun _ => fin) (fun q2 => b_H_hasOutput_11 (fun _ => fin) (fun q3 => by
    rcases h with z | z | z
    · exact absurd z q1
    · exact absurd z q2
    · exact absurd z q3))))
theorem cl_has1 (h1 : ¬ S.1 0 14 = 0) (h2 : ¬ x1 < 0) (h3 : ¬ S.1 24 11 ≤ x1) : zMi l Gr (zc n w) 168 M_H_hasOutput d [.ref 32, .int x1] S (fun v S' => v = 1 ∧ S' = S) :=
  e_H_hasOutput (b_H_hasOutput_0 (fun z => absurd z h1) (fun _ => b_H_hasOutput_7 (fun z => absurd z h2) (fun _ => b_H_hasOutput_11 (fun z => absurd z h3) (fun _ => b_H_hasOutput_22 (b_H_hasOutput_27 ⟨1, rfl, Or.inr rfl, rfl, rfl⟩)))))
/-- how many bits output k has -/
theorem cl_bits {no k m : Nat} {bo : Nat → Nat} (hno : 9 * no ≤ 4000) (h11 : S.1 24 11 = nI no) (h31 : ∀ t, t ≤ no → S.1 31 t = nI (bo t)) (hk : k < no) (hm : bo (k + 1) = bo k + m) : zMi l Gr (zc n w) 168 M_Circuit_outputBits d [.ref 56, .int (nI k)] S (fun v S' => v = nI m ∧ S' = S) := by
  refine e_Circuit_outputBits (b_Circuit_outputBits_0 (fun z => absurd z (nI_pos (by omega))) (fun _ => b_Circuit_outputBits_4 (fun _ => b_Circuit_outputBits_16 (by rw [show (nI k + 1 : Int32) = nI (k + 1) from nI_add k 1]; exact vp_in_nI (by omega) (by omega)) (vp_in_nI (by omega) (by omega)) (b_Circuit_outputBits_31 ⟨_, rfl, ?_, rfl⟩)) (fun z => absurd (by rw [h11]; exact (nI_ltI (by omega) (by omega)).mpr hk) z)))
  rw [show (nI k + 1 : Int32) = nI (k + 1) from nI_add k 1, nI_clamp (by omega), nI_clamp (by omega), h31 (k + 1) (by omega), h31 k (by omega), hm, Nat.add_comm]
  exact nI_subb m (bo k)
theorem cl_lit {no k m j : Nat} {bo : Nat → Nat} (hg : ip_gk (lg_tbl, vwCl, Gr)) (hno : 9 * no ≤ 4000) (h11 : S.1 24 11 = nI no) (h31 : ∀ t, t ≤ no → S.1 31 t = nI (bo t)) (hk : k < no) (hm : bo (k + 1) = bo k + m) (hj : j < m) (hmw : m ≤ 32) (hb : bo k + j < 444 * w) (hw : w ≤ 32) : zMi l Gr (zc n w) 168 M_Circuit_outputLiteral (d + 1) [.ref 56, .int (nI k), .int (nI j)] S (fun v S' => v = S.1 32 (bo k + j) ∧ S' = S) := by
  refine e_Circuit_outputLiteral (b_Circuit_outputLiteral_0 (fun z => absurd z (nI_pos (by omega))) (fun _ => b_Circuit_outputLiteral_4 hg (cl_bits hno h11 h31 hk hm) (fun v S' e => ?_)))
  obtain ⟨rfl, rfl⟩ := e
  refine b_Circuit_outputLiteral_10 (fun _ => b_Circuit_outputLiteral_18 (vp_in_nI (by omega) (by omega)) ?_ (b_Circuit_outputLiteral_31 ⟨_, rfl, ?_, rfl⟩)) (fun z => absurd ((nI_ltI (by omega) (by omega)).mpr hj) z)
  · rw [nI_clamp (by omega), h31 k (by omega), nI_add]
    exact vp_in_nI hb (by omega)
  · rw [nI_clamp (by omega), h31 k (by omega), nI_add, nI_clamp (by omega)]
theorem ro_literal (hg : ip_gk (lg_tbl, vwCl, Gr)) (hw : 1 ≤ w ∧ w ≤ 32) (h : iBt n w S) : roI l Gr n w (d + 2) M_H_literal M_Mo_literal [.int x1, .int x2] S := by
  have c0 : (S.1 0 14 = 0 ∨ x1 < 0 ∨ S.1 24 11 ≤ x1) → zMi l Gr (zc n w) 168 M_H_literal (d + 2) [.ref 32, .int x1, .int x2] S (fun v S' => v = -3 ∧ S' = S) := fun h => by
    refine e_H_literal (b_H_literal_0 hg (cl_has0 h) (fun v S' e => ?_))
    obtain ⟨rfl, rfl⟩ := e
    exact b_H_literal_5 (fun _ => b_H_literal_24 ⟨_, rfl, rfl, rfl⟩) (fun z => absurd rfl z)
  have m48 : zW l Gr (zc n w) 168 M_Mo_literal (d + 2) 48 [none, none, none] [] S (fun v S' => ∃ x, v = some (.int x) ∧ x = -3 ∧ S' = S) := b_Mo_literal_48 (b_Mo_literal_64 ⟨_, rfl, rfl, rfl⟩)
  rcases h with ⟨h14, h83, -⟩ | ⟨h14, h83, g, Dm, iw, no, bo, hC, hno, ⟨o11, o69, b0, o31, ot⟩, -⟩
  · exact ro_i (x := -3) (c0 (Or.inl h14)) (e_Mo_literal (b_Mo_literal_0 (fun _ => m48) (fun z => absurd h83 z)))
  · have n14 : ¬ S.1 0 14 = 0 := by rw [h14]; decide
    have n83 : ¬ S.1 73 83 = 0 := by rw [h83]; decide
    by_cases z1 : x1 < 0
    · exact ro_i (x := -3) (c0 (Or.inr (Or.inl z1))) (e_Mo_literal (b_Mo_literal_0 (fun _ => m48) (fun _ => b_Mo_literal_7 (fun _ => m48) (fun z => absurd z1 z))))
    · obtain ⟨k, hk, rfl⟩ := nI_of z1
      by_cases zk : k < no
      · obtain ⟨m, hm, m1, m2, m3⟩ := ot k zk
        have hm32 : m ≤ 32 := by omega
        have hbo := (o31 (k + 1) (by omega)).2
        have g0 : ¬ nI no ≤ nI k := nI_ge (by omega) (by omega)
        have cA : ∀ {x : Int32}, (zW l Gr (zc n w) 168 M_H_literal (d + 2) 8 [some (.ref 32), some (.int (nI k)), some (.int x2)] [] S (fun v S' => ∃ y, v = some (.int y) ∧ y = x ∧ S' = S)) → zMi l Gr (zc n w) 168 M_H_literal (d + 2) [.ref 32, .int (nI k), .int x2] S (fun v S' => v = x ∧ S' = S) := fun h => by
          refine e_H_literal (b_H_literal_0 hg (cl_has1 n14 z1 (by rw [o11]; exact g0)) (fun v S' e => ?_))
          obtain ⟨rfl, rfl⟩ := e
          exact b_H_literal_5 (fun z => absurd z (by decide)) (fun _ => h)
        have cM : ∀ {x : Int32}, (zW l Gr (zc n w) 168 M_Mo_literal (d + 2) 19 [some (.ref 105), some (.int (nI k)), some (.int x2)] [] S (fun v S' => ∃ y, v = some (.int y) ∧ y = x ∧ S' = S)) → zMi l Gr (zc n w) 168 M_Mo_literal (d + 2) [.ref 105, .int (nI k), .int x2] S (fun v S' => v = x ∧ S' = S) := fun h =>
          e_Mo_literal (b_Mo_literal_0 (fun z => absurd z n83) (fun _ => b_Mo_literal_7 (fun z => absurd z z1) (fun _ => b_Mo_literal_11 (fun z => absurd z (by rw [o69]; exact g0)) (fun _ => h))))
        by_cases z2 : x2 < 0
        · exact ro_i (x := -3) (cA (b_H_literal_8 (fun _ => b_H_literal_24 ⟨_, rfl, rfl, rfl⟩) (fun z => absurd z2 z))) (cM (b_Mo_literal_19 (fun _ => m48) (fun z => absurd z2 z)))
        · obtain ⟨j, hj, rfl⟩ := nI_of z2
          have mM : ∀ {x : Int32}, (nI j < nI m → zW l Gr (zc n w) 168 M_Mo_literal (d + 2) 53 [some (.ref 105), some (.int (nI k)), some (.int (nI j))] [] S (fun v S' => ∃ y, v = some (.int y) ∧ y = x ∧ S' = S)) → (¬ nI j < nI m → zW l Gr (zc n w) 168 M_Mo_literal (d + 2) 48 [none, none, none] [] S (fun v S' => ∃ y, v = some (.int y) ∧ y = x ∧ S' = S)) → zW l Gr (zc n w) 168 M_Mo_literal (d + 2) 19 [some (.ref 105), some (.int (nI k)), some (.int (nI j))] [] S (fun v S' => ∃ y, v = some (.int y) ∧ y = x ∧ S' = S) := fun k1 k2 =>
            b_Mo_literal_19 (fun z => absurd z z2) (fun _ => b_Mo_literal_23 (fun z => absurd z z1) (fun _ => b_Mo_literal_32 (fun z => absurd z (nI_ge (a := k) (b := 500) (by omega) (by omega))) (fun _ => b_Mo_literal_39 (b_Mo_literal_44 (vp_in_nI (by omega) (by omega)) (fun z => k1 (by rw [nI_clamp (by omega), m1] at z; exact z)) (fun z => k2 (by rw [nI_clamp (by omega), m1] at z; exact z))))))
          by_cases zj : j < m
          · have hlt : nI j < nI m := (nI_ltI hj (by omega)).mpr zj
            have hb : bo k + j < 444 * w := by
              have : (k + 1) * w ≤ 444 * w := Nat.mul_le_mul_right _ (by omega)
              omega
            refine ro_i (x := S.1 32 (bo k + j)) (cA (b_H_literal_8 (fun z => absurd z z2) (fun _ => b_H_literal_12 hg (cl_bits hno o11 (fun t ht => (o31 t ht).1) zk m2) (fun v S' e => ?_)))) (cM (mM (fun _ => b_Mo_literal_53 ?_ (b_Mo_literal_64 ⟨_, rfl, ?_, rfl⟩)) (fun z => absurd hlt z)))
            · obtain ⟨rfl, rfl⟩ := e
              refine b_H_literal_21 (fun _ => b_H_literal_27 hg (cl_lit hg hno o11 (fun t ht => (o31 t ht).1) zk m2 zj hm32 hb hw.2) (fun v S' e => ?_)) (fun z => absurd hlt z)
              obtain ⟨rfl, rfl⟩ := e
              exact b_H_literal_36 ⟨_, rfl, rfl, rfl⟩
            · rw [nI_mul32, nI_add]
              exact vp_in_nI (by omega) (by omega)
            · rw [nI_mul32, nI_add, nI_clamp (by omega)]
              exact (m3 j zj).1.symm
          · have hlt : ¬ nI j < nI m := fun y => zj ((nI_ltI hj (by omega)).mp y)
            refine ro_i (x := -3) (cA (b_H_literal_8 (fun z => absurd z z2) (fun _ => b_H_literal_12 hg (cl_bits hno o11 (fun t ht => (o31 t ht).1) zk m2) (fun v S' e => ?_)))) (cM (mM (fun z => absurd z hlt) (fun _ => m48)))
            obtain ⟨rfl, rfl⟩ := e
            exact b_H_literal_21 (fun z => absurd z hlt) (fun _ => b_H_literal_24 ⟨_, rfl, rfl, rfl⟩)
      · have gl : nI no ≤ nI k := nI_le (by omega) (by omega)
        exact ro_i (x := -3) (c0 (Or.inr (Or.inr (by rw [o11]; exact gl)))) (e_Mo_literal (b_Mo_literal_0 (fun _ => m48) (fun _ => b_Mo_literal_7 (fun _ => m48) (fun _ => b_Mo_literal_11 (fun _ => m48) (fun z => absurd (by rw [o69]; exact gl) z)))))
end ROI
