/-! the class's leaves: pushNumber, literalOf, load, pushNamed -/
theorem nm_ext {v : Nat} (h : v < 2 ^ 32) : ∃ N, ((nI v : Int32)).toInt64 = Int64.ofNat N ∧ ∀ j, j < 32 → N.testBit j = v.testBit j := by
  refine ⟨((nI v : Int32)).toInt64.toUInt64.toNat, ?_, fun j hj => ?_⟩
  · apply Int64.toBitVec_inj.mp
    apply BitVec.eq_of_toNat_eq
    show ((nI v : Int32)).toInt64.toBitVec.toNat = (BitVec.ofNat 64 (((nI v : Int32)).toInt64.toBitVec.toNat)).toNat
    rw [BitVec.toNat_ofNat, Nat.mod_eq_of_lt (BitVec.isLt _)]
  · show (((nI v : Int32)).toInt64.toBitVec.toNat).testBit j = v.testBit j
    rw [BitVec.testBit_toNat, Int32.toBitVec_toInt64, BitVec.getLsbD_signExtend]
    show (decide (j < 64) && if j < 32 then (BitVec.ofNat 32 v).getLsbD j else (BitVec.ofNat 32 v).msb) = v.testBit j
    rw [if_pos hj, BitVec.getLsbD_ofNat, decide_eq_true hj, decide_eq_true (show j < 64 by omega)]
    simp
section KLF
variable {l : Launch} {Gr : zG} {n w : Nat} {d : Nat} {S A A0 T B : zS} {x y x1 x2 x3 x4 : Int32} {X Y O F : Nat → Int32} {Q : Option Value → zS → Prop} {a b m q o i e r v st cf N z h : Nat}
theorem w_pushNum (hg : ip_gk (lg_tbl, vwCl, Gr)) (hw : w ≤ 32) (h8 : A.1 45 8 = nI a) (ha : a + w ≤ 9682 * w) : zMv l Gr (zc n w) 168 M_Builder_pushNumber (d + 1) [.ref 77, .long (Int64.ofNat N)] A (fun A' => OPk A A A' a w w (fun j => bC (N.testBit j))) := by
  refine e_Builder_pushNumber (b_Builder_pushNumber_0 hg (R := fun A' => KEc A A' ∧ FK (fun c j => c = 57 ∧ a ≤ j ∧ j < a + w) A A' ∧ ∀ j, j < w → A'.1 57 (a + j) = bC (N.testBit j)) (by rw [h8]; exact w_put (N := N) hw ha KEc_rfl) (fun A1 k1 => b_Builder_pushNumber_16 ⟨rfl, KEc_zi k1.1 (by omega), ?_, ?_, fun j hj => ?_⟩))
  · exact FK_tr (P'' := PKs a) k1.2.1 (FK_zi (P := PKs a) (Or.inl ⟨rfl, rfl⟩)) (fun c j z => by rw [z.1]; exact PKs_s z.2.1) (fun _ _ z => z)
  · rw [zi_get, if_pos ⟨rfl, rfl⟩, k1.2.1.1 45 8 (by omega) (by omega) (by omega), h8, nI_add]
  · rw [zi_c (by decide)]
    exact k1.2.2 j hj
theorem nI_mul (a b : Nat) : nI a * nI b = nI (a * b) := (Int32.ofNat_mul a b).symm
theorem w_lit1 (hw : w ≤ 32) (he : e < 800) (h11 : A.1 11 e = 1) (h14 : A.1 14 e = nI a) (hay : a + b < 256) (hi : i < w) : zMi l Gr (zc n w) 168 M_Builder_literalOf d [.ref 77, .int (nI e), .int (nI b), .int (nI i)] A (fun v A' => A' = A ∧ v = A.1 58 ((a + b) * w + i)) := by
  have c0 : ((nI e : Int32)).toNatClampNeg = e := nI_clamp (by omega)
  have m1 : (a + b) * w + w ≤ 256 * w := by rw [← Nat.succ_mul]; exact Nat.mul_le_mul_right _ hay
  have m2 : 256 * w ≤ 256 * 32 := Nat.mul_le_mul_left _ hw
  refine e_Builder_literalOf (b_Builder_literalOf_0 (vp_in_nI he (by omega)) (fun z => absurd (by rw [c0]; exact h11) z) (fun _ => b_Builder_literalOf_26 ?_ (b_Builder_literalOf_57 ⟨_, rfl, rfl, ?_⟩)))
  · rw [c0, h14, nI_add, nI_mul, nI_add]
    exact vp_in_nI (by omega) (by omega)
  · rw [c0, h14, nI_add, nI_mul, nI_add, nI_clamp (by omega)]
theorem w_lit0 (he : e < 800) (h11 : ¬ A.1 11 e = 1) (h14 : A.1 14 e = nI a) (hay : a + b < 256) : zMi l Gr (zc n w) 168 M_Builder_literalOf d [.ref 77, .int (nI e), .int (nI b), .int (nI i)] A (fun v A' => A' = A ∧ v = 2 * (A.1 20 (a + b) + nI i)) := by
  have c0 : ((nI e : Int32)).toNatClampNeg = e := nI_clamp (by omega)
  refine e_Builder_literalOf (b_Builder_literalOf_0 (vp_in_nI he (by omega)) (fun _ => b_Builder_literalOf_43 ?_ (b_Builder_literalOf_57 ⟨_, rfl, rfl, ?_⟩)) (fun z => absurd z (by rw [c0]; exact h11)))
  · rw [c0, h14, nI_add]
    exact vp_in_nI (by omega) (by omega)
  · rw [c0, h14, nI_add, nI_clamp (by omega)]
theorem kl_3 (hg : ip_gk (lg_tbl, vwCl, Gr)) (hw : w ≤ 32) (hw1 : 1 ≤ w) (he : e < 800) (hr : r ≤ 1) (hm : m = if r = 1 then 1 else w) (ha : a + w ≤ 9682 * w) (h12 : A0.1 12 e = nI r) (lit : ∀ (j : Nat) (A : zS), j < m → FK (fun c i => c = 57 ∧ a ≤ i ∧ i < a + w) A0 A → zMi l Gr (zc n w) 168 M_Builder_literalOf d [.ref 77, .int (nI e), .int (nI b), .int (nI j)] A (fun v A' => A' = A ∧ v = F j)) : ∀ (k j : Nat) (A : zS), j + k = m → KEc S A → FK (fun c i => c = 57 ∧ a ≤ i ∧ i < a + w) A0 A → (∀ i, i < j → A.1 57 (a + i) = F i) → (∀ A', KEc S A' → FK (fun c i => c = 57 ∧ a ≤ i ∧ i < a + w) A0 A' → (∀ i, i < m → A'.1 57 (a + i) = F i) → Q none A') → zW l Gr (zc n w) 168 M_Builder_load (d + 1) 3 [some (.ref 77), some (.int (nI e)), some (.int (nI b)), some (.int (nI a)), some (.int (nI j))] [] A Q := by
  have c0 : ((nI e : Int32)).toNatClampNeg = e := nI_clamp (by omega)
  have hmul : 9682 * w ≤ 9682 * 32 := Nat.mul_le_mul_left _ hw
  have hm2 : m ≤ 32 := by rw [hm]; split <;> omega
  have hb : ∀ (A : zS) (Q' : Option Value → zS → Prop) (j : Nat), FK (fun c i => c = 57 ∧ a ≤ i ∧ i < a + w) A0 A → zW l Gr (zc n w) 168 M_Builder_load (d + 1) 18 [some (.ref 77), some (.int (nI e)), some (.int (nI b)), some (.int (nI a)), some (.int (nI j))] [.int (nI m), .int (nI j)] A Q' → zW l Gr (zc n w) 168 M_Builder_load (d + 1) 3 [some (.ref 77), some (.int (nI e)), some (.int (nI b)), some (.int (nI a)), some (.int (nI j))] [] A Q' := fun A Q' j hF q => by
    refine b_Builder_load_3 hg (vp_in_nI he (by omega)) w_bitsOf (fun v A' k => ?_)
    rw [k.2, k.1, c0, hF.1 12 e (by omega) (by omega) (by omega), h12]
    by_cases z : r = 1
    · rw [if_pos z] at hm
      rw [if_pos (by rw [z]; rfl)]
      rw [hm] at q
      exact q
    · rw [if_neg z] at hm
      rw [if_neg (show ¬ nI r = 1 from fun y => z ((nI_eq (b := 1) (by omega) (by omega)).mp y))]
      rw [hm] at q
      exact q
  intro k
  induction k with
  | zero =>
    intro j A h hK hF h1 hQ
    exact hb A Q j hF (b_Builder_load_18 (fun _ => b_Builder_load_44 (hQ A hK hF (fun i hi => h1 i (by omega)))) (fun z => absurd (nI_le (a := m) (b := j) (by omega) (by omega)) z))
  | succ k ih =>
    intro j A h hK hF h1 hQ
    refine hb A Q j hF (b_Builder_load_18 (fun z => absurd z (nI_ge (a := j) (b := m) (by omega) (by omega))) (fun _ => b_Builder_load_21 hg (lit j A (by omega) hF) (fun v A' k => ?_)))
    rw [k.1, k.2, nI_add]
    have hmw : m ≤ w := by
      rw [hm]
      split <;> omega
    refine b_Builder_load_37 (vp_in_nI (by omega) (by omega)) ?_
    rw [nI_clamp (by omega), show nI j + Int32.ofInt 1 = nI (j + 1) from nI_add j 1]
    refine ih (j + 1) _ (by omega) (KEc_zi hK (by omega)) (FK_tr hF (FK_zi (P := fun c i => c = 57 ∧ a ≤ i ∧ i < a + w) ⟨rfl, by omega, by omega⟩) (fun _ _ z => z) (fun _ _ z => z)) (fun i hi => ?_) hQ
    rw [zi_get]
    by_cases z : i = j
    · rw [if_pos ⟨rfl, by omega⟩, z]
    · rw [if_neg (by omega)]
      exact h1 i (by omega)
theorem w_load (hg : ip_gk (lg_tbl, vwCl, Gr)) (hw : w ≤ 32) (hw1 : 1 ≤ w) (he : e < 800) (hr : r ≤ 1) (hm : m = if r = 1 then 1 else w) (ha : a + w ≤ 9682 * w) (h12 : A.1 12 e = nI r) (lit : ∀ (j : Nat) (A' : zS), j < m → FK (fun c i => c = 57 ∧ a ≤ i ∧ i < a + w) A A' → zMi l Gr (zc n w) 168 M_Builder_literalOf d [.ref 77, .int (nI e), .int (nI b), .int (nI j)] A' (fun v A'' => A'' = A' ∧ v = F j)) : zMv l Gr (zc n w) 168 M_Builder_load (d + 1) [.ref 77, .int (nI e), .int (nI b), .int (nI a)] A (fun A' => KEc A A' ∧ FK (fun c i => c = 57 ∧ a ≤ i ∧ i < a + w) A A' ∧ ∀ i, i < m → A'.1 57 (a + i) = F i) := e_Builder_load (b_Builder_load_0 (kl_3 (F := F) (S := A) hg hw hw1 he hr hm ha h12 lit m 0 A (by omega) KEc_rfl FK_rfl (fun i hi => absurd hi (by omega)) (fun A' e1 e2 e3 => ⟨rfl, e1, e2, e3⟩)))
theorem w_pushN2 (hg : ip_gk (lg_tbl, vwCl, Gr)) (hw : w ≤ 32) (he : e < 800) (h11 : A.1 11 e = 2) (h48 : A.2 48 e = lN v) (h8 : A.1 45 8 = nI a) (ha : a + w ≤ 9682 * w) : zMv l Gr (zc n w) 168 M_Builder_pushNamed (d + 2) [.ref 77, .int (nI e)] A (fun A' => OPk A A A' a w w (fun j => bC (v.testBit j))) := by
  have c0 : ((nI e : Int32)).toNatClampNeg = e := nI_clamp (by omega)
  refine e_Builder_pushNamed (b_Builder_pushNamed_0 (vp_in_nI he (by omega)) (fun z => absurd (by rw [c0]; exact h11) z) (fun _ => b_Builder_pushNamed_13 hg (vp_in_nI he (by omega)) ?_ (fun A' k => b_Builder_pushNamed_23 ⟨rfl, k⟩)))
  rw [c0, h48]
  exact w_pushNum (N := v) hg hw h8 ha
theorem w_pushN3 (hw : w ≤ 32) (he : e < 800) (h11 : A.1 11 e = 3) (h14 : A.1 14 e = nI b) (h13 : A.1 45 13 = nI cf) (hcf : cf + b * w + w ≤ a) (h8 : A.1 45 8 = nI a) (ha : a + w ≤ 9682 * w) : zMv l Gr (zc n w) 168 M_Builder_pushNamed (d + 2) [.ref 77, .int (nI e)] A (fun A' => OPk A A A' a w w (fun j => A.1 57 (cf + b * w + j))) := by
  have c0 : ((nI e : Int32)).toNatClampNeg = e := nI_clamp (by omega)
  have hmul : 9682 * w ≤ 9682 * 32 := Nat.mul_le_mul_left _ hw
  have e1 : A.1 45 13 + A.1 14 ((nI e : Int32)).toNatClampNeg * nI w = nI (cf + b * w) := by rw [c0, h13, h14, nI_mul, nI_add]
  refine e_Builder_pushNamed (b_Builder_pushNamed_0 (vp_in_nI he (by omega)) (fun _ => b_Builder_pushNamed_24 (vp_in_nI he (by omega)) (fun z => absurd (by rw [c0]; exact h11) z) (fun _ => b_Builder_pushNamed_37 (vp_in_nI he (by omega)) ?_ ?_ (nI_pos (by omega)) ?_ ?_ (b_Builder_pushNamed_88 ?_))) (fun z => absurd z (by rw [c0, h11]; decide)))
  · rw [e1]
    exact nI_pos (by omega)
  · rw [h8]
    exact nI_pos (by omega)
  · rw [e1, nI_clamp (by omega), nI_clamp (by omega)]
    omega
  · rw [h8, nI_clamp (by omega), nI_clamp (by omega)]
    omega
  · rw [e1, h8, nI_clamp (by omega), nI_clamp (by omega), nI_clamp (by omega)]
    have e8 : (zI A 57 (va_cpy (A.1 57) (A.1 57) (cf + b * w) a w)).1 45 8 = nI a := by
      rw [zI_c (by decide)]
      exact h8
    refine ⟨rfl, KEc_zi ?_ (by omega), ?_, ?_, fun j hj => ?_⟩
    · refine ⟨fun k _ _ => ?_, fun c k q1 q2 => ?_⟩
      · rw [zI_c (by decide)]
      · rw [zI_c (by omega)]
    · refine FK_tr (P'' := PKs a) (FK_zI (P := PKs a) (fun j hj => ?_)) (FK_zi (P := PKs a) (Or.inl ⟨rfl, rfl⟩)) (fun _ _ z => z) (fun _ _ z => z)
      exact pk_cpy_out (Or.inl (Nat.lt_of_not_le (fun y => hj (PKs_s y))))
    · rw [zi_get, if_pos ⟨rfl, rfl⟩, e8, nI_add]
    · rw [zi_c (by decide)]
      rw [zI_get, if_pos rfl, pk_cpy_in (by omega) (by omega), show a + j - a = j by omega]
theorem w_pushN1 (hg : ip_gk (lg_tbl, vwCl, Gr)) (hw : w ≤ 32) (hw1 : 1 ≤ w) (he : e < 800) (hr : r ≤ 1) (hm : m = if r = 1 then 1 else w) (h12 : A.1 12 e = nI r) (h11 : ¬ A.1 11 e = 2) (h11' : ¬ A.1 11 e = 3) (h8 : A.1 45 8 = nI a) (ha : a + w ≤ 9682 * w) (lit : ∀ (j : Nat) (A' : zS), j < m → FK (fun c i => c = 57 ∧ a ≤ i ∧ i < a + w) A A' → zMi l Gr (zc n w) 168 M_Builder_literalOf d [.ref 77, .int (nI e), .int (nI 0), .int (nI j)] A' (fun v A'' => A'' = A' ∧ v = F j)) : zMv l Gr (zc n w) 168 M_Builder_pushNamed (d + 2) [.ref 77, .int (nI e)] A (fun A' => OPk A A A' a w m F) := by
  have c0 : ((nI e : Int32)).toNatClampNeg = e := nI_clamp (by omega)
  refine e_Builder_pushNamed (b_Builder_pushNamed_0 (vp_in_nI he (by omega)) (fun _ => b_Builder_pushNamed_24 (vp_in_nI he (by omega)) (fun _ => b_Builder_pushNamed_78 hg (R := fun A' => KEc A A' ∧ FK (fun c i => c = 57 ∧ a ≤ i ∧ i < a + w) A A' ∧ ∀ i, i < m → A'.1 57 (a + i) = F i) (by rw [h8]; exact w_load (b := 0) (F := F) hg hw hw1 he hr hm ha h12 lit) (fun A1 k1 => b_Builder_pushNamed_88 ⟨rfl, KEc_zi k1.1 (by omega), ?_, ?_, fun j hj => ?_⟩)) (fun z => absurd z (by rw [c0]; exact h11'))) (fun z => absurd z (by rw [c0]; exact h11)))
  · exact FK_tr (P'' := PKs a) k1.2.1 (FK_zi (P := PKs a) (Or.inl ⟨rfl, rfl⟩)) (fun c j z => by rw [z.1]; exact PKs_s z.2.1) (fun _ _ z => z)
  · rw [zi_get, if_pos ⟨rfl, rfl⟩, k1.2.1.1 45 8 (by omega) (by omega) (by omega), h8, nI_add]
  · rw [zi_c (by decide)]
    exact k1.2.2 j hj
end KLF
