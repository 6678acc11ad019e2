/-! an index, on both sides -/
theorem sh_j : ∀ j : Fin 32, ((Int32.ofNat j.val &&& 31).toBitVec.smod 32#32) = BitVec.ofNat 32 j.val := by decide
theorem bit_m {v j : Nat} (hv : v < 2^31) (hj : j < 32) : (Int32.ofNat v >>> (Int32.ofNat j &&& 31)) &&& 1 = Int32.ofNat (v / 2^j % 2) := by
  apply Int32.toBitVec_inj.mp
  rw [Int32.toBitVec_and, Int32.toBitVec_shiftRight]
  have e := sh_j ⟨j, hj⟩
  simp only at e
  rw [show (32 : BitVec 32) = 32#32 from rfl] at *
  rw [e]
  have m : (Int32.ofNat v).toBitVec.msb = false := by
    simp [BitVec.msb_eq_decide]
    omega
  simp only [BitVec.sshiftRight_eq']
  rw [BitVec.sshiftRight_eq_of_msb_false m]
  apply BitVec.eq_of_toNat_eq
  simp [Nat.shiftRight_eq_div_pow]
  rw [Nat.mod_eq_of_lt (a := j) (by omega), Nat.mod_eq_of_lt (a := v) (by omega)]
  omega
theorem sh_u : ∀ j : Fin 32, (((Int32.ofNat j.val).toUInt32 &&& Int32.toUInt32 31).toBitVec % 32) = BitVec.ofNat 32 j.val := by decide
theorem bit_k {v j : Nat} (hv : v < 2^31) (hj : j < 32) : ((Int32.ofNat v).toUInt32 >>> ((Int32.ofNat j).toUInt32 &&& Int32.toUInt32 31)).toInt32 &&& 1 = Int32.ofNat (v / 2^j % 2) := by
  apply Int32.toBitVec_inj.mp
  rw [Int32.toBitVec_and]
  have e := sh_u ⟨j, hj⟩
  simp only at e
  show ((Int32.ofNat v).toUInt32 >>> ((Int32.ofNat j).toUInt32 &&& Int32.toUInt32 31)).toBitVec &&& _ = _
  rw [UInt32.toBitVec_shiftRight, e]
  apply BitVec.eq_of_toNat_eq
  simp [Nat.shiftRight_eq_div_pow]
  rw [Nat.mod_eq_of_lt (a := j) (by omega), Nat.mod_eq_of_lt (a := v) (by omega)]
  omega
theorem pw_m : ∀ w : Fin 31, (1 : Int32) <<< (Int32.ofNat w.val &&& 31) = Int32.ofNat (2 ^ w.val) := by decide
theorem pw_k : ∀ w : Fin 33, (1 : Int64) <<< ((Int32.ofNat w.val).toInt64 &&& 63) = Int64.ofNat (2 ^ w.val) := by decide
theorem i64_n {v : Nat} (h : v < 2^31) : (Int32.ofNat v).toInt64 = Int64.ofNat v := by
  apply Int64.toInt_inj.mp
  rw [Int32.toInt_toInt64, Int32.toInt_ofNat_of_lt h, Int64.toInt_ofNat_of_lt (by omega)]
theorem i64_lt {a b : Nat} (ha : a < 2^63) (hb : b < 2^63) : Int64.ofNat a < Int64.ofNat b ↔ a < b := by
  rw [Int64.lt_iff_toInt_lt, Int64.toInt_ofNat_of_lt ha, Int64.toInt_ofNat_of_lt hb]
  omega
def bitC (v j : Nat) : Int32 := if v / 2 ^ j % 2 = 1 then -1 else -2
def idxP (X : Nat → Int32) (v w : Nat) : CP Int32 := if v < 2 ^ w then eqP X (bitC v) w else cRet (-2)
section IDX
variable {l : Launch} {Gr : zG} {n w : Nat} {d : Nat} {S A T B : zS} {c x y : Int32} {X Y E : Nat → Int32} {Q : Option Value → zS → Prop} {a b m v : Nat}
theorem VC_bit {j : Nat} : VC T (bitC v j) := by
  unfold bitC
  split
  · exact VC_c1
  · exact VC_c2
theorem BU_idx : BU (idxP X v w) := by
  unfold idxP
  split
  · exact BU_eq
  · exact BU_ret
theorem W_idx (hX : ∀ j, VC T (X j)) : mWF VC (idxP X v w) T := by
  unfold idxP
  split
  · exact W_eq hX (fun _ => VC_bit)
  · exact mWF_ret VC_c2
theorem bit_kc {j : Nat} (hv : v < 2 ^ 31) (hj : j < 32) : (((-2) : Int32) ^^^ ((((nI v : Int32)).toUInt32 >>> (((nI j : Int32)).toUInt32 &&& Int32.toUInt32 31)).toInt32 &&& 1)) = bitC v j := by
  have e : (((nI v : Int32)).toUInt32 >>> (((nI j : Int32)).toUInt32 &&& Int32.toUInt32 31)).toInt32 &&& 1 = nI (v / 2 ^ j % 2) := bit_k hv hj
  rw [e]
  unfold bitC
  rcases Nat.mod_two_eq_zero_or_one (v / 2 ^ j) with q | q <;> rw [q] <;> decide
theorem kp_idx (hg : ip_gk (lg_tbl, vwCl, Gr)) (hw : w ≤ 32) (ha : a + w ≤ 9682 * w) (hv : v < 2 ^ 31) : ∀ (k i : Nat) (S A : zS), i + k = w → KEc S A → GK S → (∀ j, j < w → A.1 57 (a + j) = X j) → (∀ A', KEc ((xnorP X (bitC v) k i).1 S).2 A' → FK (fun c j => c = 55 ∧ i ≤ j ∧ j < w) A A' → (∀ j, j < k → A'.1 55 (i + j) = ((xnorP X (bitC v) k i).1 S).1.getD j (-2)) → zW l Gr (zc n w) 168 M_Logic_equalTo (d + 4) 64 [some (.ref 82), none, none, none, none] [] A' Q) → zW l Gr (zc n w) 168 M_Logic_equalTo (d + 4) 18 [some (.ref 82), some (.ref 89), some (.int (nI a)), some (.int (nI v)), some (.int (nI i))] [] A Q
  | 0, i, S, A, h, hK, hG, hX, hQ => b_Logic_equalTo_r89_18 (fun _ => hQ A hK FK_rfl (fun j hj => absurd hj (by omega))) (fun q => absurd (nI_le (a := w) (b := i) (by omega) (by omega)) q)
  | k + 1, i, S, A, h, hK, hG, hX, hQ => by
    refine b_Logic_equalTo_r89_18 (fun q => absurd q (nI_ge (a := i) (b := w) (by omega) (by omega))) (fun _ => b_Logic_equalTo_r89_27 hg (by rw [nI_add]; exact vp_in_nI (by omega) (by omega)) (w_xorK (d := d + 1) hg hK hG) (fun v' A1 h1 => ?_))
    rw [nI_add, nI_clamp (by omega), hX i (by omega), bit_kc hv (by omega)] at h1
    obtain ⟨ev, K1, F1⟩ := h1
    subst ev
    refine b_Logic_equalTo_r89_55 (vp_in_nI (by omega) (by omega)) ?_
    rw [nI_clamp (by omega), show nI i + Int32.ofInt 1 = nI (i + 1) from nI_add i 1]
    refine kp_idx hg hw ha hv k (i + 1) _ _ (by omega) (KEc_zi K1 (by omega)) (k_op hG).1 (fun j hj => ?_) (fun A' e1 e2 e3 => hQ A' e1 ?_ (fun j hj => ?_))
    · rw [zi_c (by decide), F1.1 57 (a + j) (by omega) (by omega)]
      exact hX j hj
    · exact FK_tr (FK_x (P := fun _ _ => False) F1) (FK_tr (FK_zi (P := fun c j => c = 55 ∧ j = i) ⟨rfl, rfl⟩) e2 (P'' := fun c j => c = 55 ∧ i ≤ j ∧ j < w) (by omega) (by omega)) (fun _ _ z => z.elim) (fun _ _ z => z)
    · cases j with
      | zero => exact (e2.1 55 (i + 0) (by omega) (by omega) (by omega)).trans zi_v
      | succ j => exact (congrArg (A'.1 55) (by omega)).trans (e3 j (by omega))
theorem cm_k (hw : w ≤ 32) (hv : v < 2 ^ 31) : lg_cmp ((nI v : Int32)).toInt64 (1 <<< (((nI w) : Int32).toInt64 &&& 63)) < 0 ↔ v < 2 ^ w := by
  have p : 2 ^ w ≤ 2 ^ 32 := Nat.pow_le_pow_right (by omega) hw
  rw [lg_cmp_lt]
  have e1 : ((nI v : Int32)).toInt64 = Int64.ofNat v := i64_n hv
  have e2 : (1 : Int64) <<< (((nI w) : Int32).toInt64 &&& 63) = Int64.ofNat (2 ^ w) := pw_k ⟨w, by omega⟩
  rw [e1, e2]
  exact i64_lt (by omega) (by omega)
theorem w_equalTo (hg : ip_gk (lg_tbl, vwCl, Gr)) (hw : w ≤ 32) (hw1 : 1 ≤ w) (ha : a + w ≤ 9682 * w) (hv : v < 2 ^ 31) (hK : KEc S A) (hG : GK S) (hX : ∀ j, j < w → A.1 57 (a + j) = X j) : zMi l Gr (zc n w) 168 M_Logic_equalTo (d + 4) [.ref 82, .ref 89, .int (nI a), .int (nI v)] A (fun r A' => r = ((idxP X v w).1 S).1 ∧ KEc ((idxP X v w).1 S).2 A' ∧ FK (fun c j => c = 55 ∧ j < w) A A') := by
  unfold idxP
  by_cases z : v < 2 ^ w
  · rw [if_pos z]
    refine e_Logic_equalTo_r89 (b_Logic_equalTo_r89_0 (fun _ => b_Logic_equalTo_r89_15 (kp_idx (X := X) hg hw ha hv w 0 S A (by omega) hK hG hX (fun A' e1 e2 e3 => b_Logic_equalTo_r89_64 hg (R := fun r A'' => r = ((eqP X (bitC v) w).1 S).1 ∧ KEc ((eqP X (bitC v) w).1 S).2 A'' ∧ FK (fun c j => c = 55 ∧ j < w) A A'') (e_Logic_all (b_Logic_all_0 (kp_all hg hw w w _ _ A' (by omega) hw1 (by omega) e1 (k_run (BU_xnor w 0) hG).1 (fun j hj => ?_) (fun A'' q1 q2 => ⟨_, rfl, rfl, q1, FK_tr e2 q2 (by omega) (by omega)⟩)))) (fun r A'' h => b_Logic_equalTo_r89_72 ⟨_, rfl, h⟩)))) (fun q => absurd ((cm_k hw hv).mpr z) q))
    have := e3 j hj
    rw [Nat.zero_add] at this
    exact this
  · rw [if_neg z]
    exact e_Logic_equalTo_r89 (b_Logic_equalTo_r89_0 (fun q => absurd ((cm_k hw hv).mp q) z) (fun _ => b_Logic_equalTo_r89_12 ⟨_, rfl, rfl, hK, FK_rfl⟩))
/-! the reference's equal -/
theorem mp_pair (hg : ip_gk (lg_tbl, vwCl, Gr)) (hm : m ≤ 38) : ∀ (r q i : Nat) (T B : zS), i = 2 * q → i + r = m → MEc T B → MW T → (∀ j, VC T (E j)) → (∀ j, i ≤ j → j < m → B.1 126 j = E j) → (∀ B', MEc ((pairP E r i).2 T).2 B' → FM (fun c j => c = 126 ∧ q ≤ j ∧ j < 40) B B' → (∀ j, j < (r + 1) / 2 → B'.1 126 (q + j) = ((pairP E r i).2 T).1.getD j (-2)) → zW l Gr (zc n w) 168 M_Mo_equal (d + 3) 108 [some (.ref 105), none, none, some (.int (nI (q + (r + 1) / 2))), none] [] B' Q) → zW l Gr (zc n w) 168 M_Mo_equal (d + 3) 49 [some (.ref 105), none, some (.int (nI m)), some (.int (nI q)), some (.int (nI i))] [] B Q
  | 0, q, i, T, B, hi, h, hK, hW, vE, hE, hQ => b_Mo_equal_49 (fun _ => hQ B hK FM_rfl (fun j hj => absurd hj (by omega))) (fun z => absurd (nI_le (by omega) (by omega)) z)
  | 1, q, i, T, B, hi, h, hK, hW, vE, hE, hQ => by
    refine b_Mo_equal_49 (fun z => absurd z (nI_ge (by omega) (by omega))) (fun _ => b_Mo_equal_55 (fun _ => b_Mo_equal_91 (vp_in_nI (by omega) (by omega)) (b_Mo_equal_98 (vp_in_nI (by omega) (by omega)) (b_Mo_equal_49 (fun _ => ?_) (fun z => absurd ?_ z)))) (fun z => absurd (by rw [nI_1]; exact nI_le (by omega) (by omega)) z))
    · rw [nI_clamp (by omega), nI_clamp (by omega), hE i (by omega) (by omega), show nI q + Int32.ofInt 1 = nI (q + 1) from nI_add q 1]
      refine hQ _ (MEc_zi hK (by omega)) (FM_zi ⟨rfl, by omega, by omega⟩) (fun j hj => ?_)
      rw [show j = 0 by omega]
      exact zi_v
    · rw [show nI i + Int32.ofInt 2 = nI (i + 2) from nI_add i 2]
      exact nI_le (by omega) (by omega)
  | r + 2, q, i, T, B, hi, h, hK, hW, vE, hE, hQ => by
    have o1 := m_op (b := true) hW (vE i) (vE (i + 1))
    refine b_Mo_equal_49 (fun z => absurd z (nI_ge (by omega) (by omega))) (fun _ => b_Mo_equal_55 (fun z => absurd z (by rw [nI_1]; exact nI_ge (by omega) (by omega))) (fun _ => b_Mo_equal_68 hg (vp_in_nI (by omega) (by omega)) (by rw [nI_1]; exact vp_in_nI (by omega) (by omega)) (by
      rw [nI_1, nI_clamp (by omega), nI_clamp (by omega), hE i (by omega) (by omega), hE (i + 1) (by omega) (by omega)]
      exact wm_andK hg hK hW (vE i) (vE (i + 1))) (fun v B1 h1 => b_Mo_equal_88 (b_Mo_equal_98 (vp_in_nI (by omega) (by omega)) ?_))))
    obtain ⟨ev, K1, F1⟩ := h1
    subst ev
    rw [nI_clamp (by omega), show nI i + Int32.ofInt 2 = nI (i + 2) from nI_add i 2, show nI q + Int32.ofInt 1 = nI (q + 1) from nI_add q 1]
    refine mp_pair hg hm r (q + 1) (i + 2) _ _ (by omega) (by omega) (MEc_zi K1 (by omega)) (MOK_W o1.1) (fun j => VC_m o1.1 (vE j)) (fun j q1 q2 => ?_) (fun B' e1 e2 e3 => ?_)
    · rw [zi_k (by omega), F1.1 126 j (by omega) (by omega)]
      exact hE j (by omega) q2
    · rw [show q + 1 + (r + 1) / 2 = q + (r + 2 + 1) / 2 by omega]
      refine hQ B' e1 ?_ (fun j hj => ?_)
      · exact FM_tr (FM_x (P := fun _ _ => False) F1) (FM_tr (FM_zi (P := fun c j => c = 126 ∧ j = q) ⟨rfl, rfl⟩) e2 (P'' := fun c j => c = 126 ∧ q ≤ j ∧ j < 40) (by omega) (by omega)) (fun _ _ z => z.elim) (fun _ _ z => z)
      · cases j with
        | zero => exact (e2.1 126 (q + 0) (by omega) (by omega) (by omega)).trans zi_v
        | succ j => exact (congrArg (B'.1 126) (by omega)).trans (e3 j (by omega))
theorem mp_all (hg : ip_gk (lg_tbl, vwCl, Gr)) : ∀ (f m : Nat) (E : Nat → Int32) (T B : zS), m ≤ f + 1 → 1 ≤ m → m ≤ 38 → MEc T B → MW T → (∀ j, VC T (E j)) → (∀ j, j < m → B.1 126 j = E j) → (∀ B', MEc ((allP f m E).2 T).2 B' → FM (fun c j => c = 126 ∧ j < 40) B B' → Q (some (.int ((allP f m E).2 T).1)) B') → zW l Gr (zc n w) 168 M_Mo_equal (d + 3) 39 [some (.ref 105), none, some (.int (nI m)), none, none] [] B Q
  | 0, m, E, T, B, hf, h1, hm, hK, hW, vE, hE, hQ => by
    refine b_Mo_equal_39 (fun _ => b_Mo_equal_113 ?_) (fun z => absurd (nI_le (a := m) (b := 1) (by omega) (by omega)) z)
    have : B.1 126 ((0 : Int32).toNatClampNeg) = E 0 := hE 0 (by omega)
    rw [this]
    exact hQ B hK FM_rfl
  | f + 1, m, E, T, B, hf, h1, hm, hK, hW, vE, hE, hQ => by
    unfold allP at hQ
    by_cases z : m ≤ 1
    · rw [if_pos z] at hQ
      refine b_Mo_equal_39 (fun _ => b_Mo_equal_113 ?_) (fun z => absurd (nI_le (a := m) (b := 1) (by omega) (by omega)) z)
      have : B.1 126 ((0 : Int32).toNatClampNeg) = E 0 := hE 0 (by omega)
      rw [this]
      exact hQ B hK FM_rfl
    · rw [if_neg z] at hQ
      refine b_Mo_equal_39 (fun q => absurd q (nI_ge (a := 1) (b := m) (by omega) (by omega))) (fun _ => b_Mo_equal_44 (mp_pair (E := E) hg hm m 0 0 T B rfl (by omega) hK hW vE (fun j _ q => hE j q) (fun B' e1 e2 e3 => b_Mo_equal_108 ?_)))
      have o := m_run hW (W_pair m 0 T vE)
      rw [Nat.zero_add]
      refine mp_all hg f ((m + 1) / 2) _ _ B' (by omega) (by omega) (by omega) e1 (MOK_W o.1) o.2.1 (fun j hj => ?_) (fun B'' q1 q2 => hQ B'' q1 (FM_tr e2 q2 (by omega) (by omega)))
      have := e3 j hj
      rw [Nat.zero_add] at this
      exact this
theorem mp_xnor (hg : ip_gk (lg_tbl, vwCl, Gr)) (hm : m ≤ 38) : ∀ (k i : Nat) (T B : zS), i + k = m → MEc T B → MW T → (∀ j, VC T (X j)) → (∀ j, VC T (Y j)) → (∀ j, j < m → B.1 123 j = X j) → (∀ j, j < m → B.1 124 j = Y j) → (∀ B', MEc ((xnorP X Y k i).2 T).2 B' → FM (fun c j => c = 126 ∧ i ≤ j ∧ j < 40) B B' → (∀ j, j < k → B'.1 126 (i + j) = ((xnorP X Y k i).2 T).1.getD j (-2)) → zW l Gr (zc n w) 168 M_Mo_equal (d + 3) 37 [some (.ref 105), some (.int (nI m)), none, none, none] [] B' Q) → zW l Gr (zc n w) 168 M_Mo_equal (d + 3) 2 [some (.ref 105), some (.int (nI m)), some (.int (nI i)), none, none] [] B Q
  | 0, i, T, B, h, hK, hW, vX, vY, hX, hY, hQ => b_Mo_equal_2 (fun _ => hQ B hK FM_rfl (fun j hj => absurd hj (by omega))) (fun q => absurd (nI_le (a := m) (b := i) (by omega) (by omega)) q)
  | k + 1, i, T, B, h, hK, hW, vX, vY, hX, hY, hQ => by
    have o1 := m_op (b := false) hW (vX i) (vY i)
    refine b_Mo_equal_2 (fun q => absurd q (nI_ge (a := i) (b := m) (by omega) (by omega))) (fun _ => b_Mo_equal_7 hg (vp_in_nI (by omega) (by omega)) (by
      rw [nI_clamp (by omega), hX i (by omega), hY i (by omega)]
      exact wm_xorK hg hK hW (vX i) (vY i)) (fun v B1 h1 => b_Mo_equal_28 (vp_in_nI (by omega) (by omega)) ?_))
    obtain ⟨ev, K1, F1⟩ := h1
    subst ev
    rw [nI_clamp (by omega), show nI i + Int32.ofInt 1 = nI (i + 1) from nI_add i 1]
    refine mp_xnor hg hm k (i + 1) _ _ (by omega) (MEc_zi K1 (by omega)) (MOK_W o1.1) (fun j => VC_m o1.1 (vX j)) (fun j => VC_m o1.1 (vY j)) (fun j hj => ?_) (fun j hj => ?_) (fun B' e1 e2 e3 => hQ B' e1 ?_ (fun j hj => ?_))
    · rw [zi_c (by decide), F1.1 123 j (by omega) (by omega)]
      exact hX j hj
    · rw [zi_c (by decide), F1.1 124 j (by omega) (by omega)]
      exact hY j hj
    · exact FM_tr (FM_x (P := fun _ _ => False) F1) (FM_tr (FM_zi (P := fun c j => c = 126 ∧ j = i) ⟨rfl, rfl⟩) e2 (P'' := fun c j => c = 126 ∧ i ≤ j ∧ j < 40) (by omega) (by omega)) (fun _ _ z => z.elim) (fun _ _ z => z)
    · cases j with
      | zero => exact (e2.1 126 (i + 0) (by omega) (by omega) (by omega)).trans zi_v
      | succ j => exact (congrArg (B'.1 126) (by omega)).trans (e3 j (by omega))
theorem wm_equal (hg : ip_gk (lg_tbl, vwCl, Gr)) (hm1 : 1 ≤ m) (hm : m ≤ 38) (hK : MEc T B) (hW : MW T) (vX : ∀ j, VC T (X j)) (vY : ∀ j, VC T (Y j)) (hX : ∀ j, j < m → B.1 123 j = X j) (hY : ∀ j, j < m → B.1 124 j = Y j) : zMi l Gr (zc n w) 168 M_Mo_equal (d + 3) [.ref 105, .int (nI m)] B (fun v B' => v = ((eqP X Y m).2 T).1 ∧ MEc ((eqP X Y m).2 T).2 B' ∧ FM (fun c j => c = 126 ∧ j < 40) B B') := by
  have o := m_run hW (W_xnor m 0 T vX vY)
  refine e_Mo_equal (b_Mo_equal_0 (mp_xnor (X := X) (Y := Y) hg hm m 0 T B (by omega) hK hW vX vY hX hY (fun B' e1 e2 e3 => b_Mo_equal_37 (mp_all hg m m _ _ B' (by omega) hm1 hm e1 (MOK_W o.1) o.2.1 (fun j hj => ?_) (fun B'' q1 q2 => ⟨_, rfl, rfl, q1, FM_tr e2 q2 (by omega) (by omega)⟩)))))
  have := e3 j hj
  rw [Nat.zero_add] at this
  exact this
theorem bit_mc {j : Nat} (hv : v < 2 ^ 31) (hj : j < 32) : (nI v >>> (nI j &&& 31)) &&& 1 = nI (v / 2 ^ j % 2) := bit_m hv hj
theorem mi_fill (hw : w ≤ 32) (hv : v < 2 ^ 31) : ∀ (k i : Nat) (B : zS), i + k = w → MEc T B → (∀ j, j < w → B.1 146 j = X j) → (∀ j, j < i → B.1 123 j = X j ∧ B.1 124 j = bitC v j) → (∀ B', MEc T B' → FM (fun c j => (c = 123 ∨ c = 124) ∧ j < 40) B B' → (∀ j, j < w → B'.1 123 j = X j ∧ B'.1 124 j = bitC v j) → zW l Gr (zc n w) 168 M_Mo_isIndex (d + 4) 81 [some (.ref 105), none, none] [] B' Q) → zW l Gr (zc n w) 168 M_Mo_isIndex (d + 4) 24 [some (.ref 105), some (.int (nI v)), some (.int (nI i))] [] B Q
  | 0, i, B, h, hK, h146, hB, hQ => b_Mo_isIndex_24 (fun _ => hQ B hK FM_rfl (fun j hj => hB j (by omega))) (fun q => absurd (nI_le (a := w) (b := i) (by omega) (by omega)) q)
  | k + 1, i, B, h, hK, h146, hB, hQ => by
    have main : ∀ s : Int32, s = bitC v i → zW l Gr (zc n w) 168 M_Mo_isIndex (d + 4) 74 [some (.ref 105), some (.int (nI v)), some (.int (nI i))] [.int s, .int (nI i), .ref 156] (zi B 123 i (X i)) Q := fun s hs => by
      refine b_Mo_isIndex_74 (vp_in_nI (by omega) (by omega)) ?_
      rw [nI_clamp (by omega), show nI i + Int32.ofInt 1 = nI (i + 1) from nI_add i 1, hs]
      refine mi_fill hw hv k (i + 1) _ (by omega) (MEc_zi (MEc_zi hK (by omega)) (by omega)) (fun j hj => ?_) (fun j hj => ⟨?_, ?_⟩) (fun B' e1 e2 e3 => hQ B' e1 ?_ e3)
      · rw [zi_c (by decide), zi_c (by decide)]
        exact h146 j hj
      · rw [zi_c (by decide), zi_get]
        by_cases z : j = i
        · subst z
          rw [if_pos ⟨rfl, rfl⟩]
        · rw [if_neg (by omega)]
          exact (hB j (by omega)).1
      · rw [zi_get]
        by_cases z : j = i
        · subst z
          rw [if_pos ⟨rfl, rfl⟩]
        · rw [if_neg (by omega), zi_c (by decide)]
          exact (hB j (by omega)).2
      · exact FM_tr (FM_zi (P := fun c j => (c = 123 ∨ c = 124) ∧ j < 40) ⟨Or.inl rfl, by omega⟩) (FM_tr (FM_zi (P := fun c j => (c = 123 ∨ c = 124) ∧ j < 40) ⟨Or.inr rfl, by omega⟩) e2 (P'' := fun c j => (c = 123 ∨ c = 124) ∧ j < 40) (fun _ _ z => z) (fun _ _ z => z)) (fun _ _ z => z) (fun _ _ z => z)
    have m64 : ∀ s : Int32, s = nI (v / 2 ^ i % 2) → zW l Gr (zc n w) 168 M_Mo_isIndex (d + 4) 64 [some (.ref 105), some (.int (nI v)), some (.int (nI i))] [.int s, .int (nI i), .ref 156] (zi B 123 i (X i)) Q := fun s hs => by
      have e : nI (v / 2 ^ i % 2) = 1 ↔ v / 2 ^ i % 2 = 1 := nI_eq (b := 1) (by omega) (by omega)
      refine b_Mo_isIndex_64 (fun z => b_Mo_isIndex_72 (main _ ?_)) (fun z => b_Mo_isIndex_68 (main _ ?_))
      · unfold bitC
        rw [if_neg (fun q => z (by rw [hs]; exact e.mpr q))]
      · unfold bitC
        rw [if_pos (e.mp (by rw [← hs]; exact z))]
    refine b_Mo_isIndex_24 (fun q => absurd q (nI_ge (a := i) (b := w) (by omega) (by omega))) (fun _ => b_Mo_isIndex_32 (vp_in_nI (by omega) (by omega)) (fun z => b_Mo_isIndex_63 ?_) (fun z => b_Mo_isIndex_55 ?_))
    · rw [nI_clamp (by omega), h146 i (by omega)]
      have hi : i = 31 := by
        have := (nI_leI (a := 31) (b := i) (by omega) (by omega)).mp z
        omega
      refine m64 0 ?_
      rw [hi, Nat.div_eq_of_lt (by omega)]
      rfl
    · rw [nI_clamp (by omega), h146 i (by omega)]
      exact m64 _ (bit_mc hv (by omega))
theorem wm_isIndex (hg : ip_gk (lg_tbl, vwCl, Gr)) (hw : w ≤ 32) (hw1 : 1 ≤ w) (hv : v < 2 ^ 31) (hK : MEc T B) (hW : MW T) (vX : ∀ j, VC T (X j)) (h146 : ∀ j, j < w → B.1 146 j = X j) : zMi l Gr (zc n w) 168 M_Mo_isIndex (d + 4) [.ref 105, .int (nI v)] B (fun r B' => r = ((idxP X v w).2 T).1 ∧ MEc ((idxP X v w).2 T).2 B' ∧ FM (fun c j => (c = 123 ∨ c = 124 ∨ c = 126) ∧ j < 40) B B') := by
  unfold idxP
  by_cases z : v < 2 ^ w
  · rw [if_pos z]
    have go : zW l Gr (zc n w) 168 M_Mo_isIndex (d + 4) 22 [some (.ref 105), some (.int (nI v)), none] [] B (fun v' S' => ∃ x, v' = some (.int x) ∧ x = ((eqP X (bitC v) w).2 T).1 ∧ MEc ((eqP X (bitC v) w).2 T).2 S' ∧ FM (fun c j => (c = 123 ∨ c = 124 ∨ c = 126) ∧ j < 40) B S') := b_Mo_isIndex_22 (mi_fill hw hv w 0 B (by omega) hK h146 (fun j hj => absurd hj (by omega)) (fun B' e1 e2 e3 => b_Mo_isIndex_81 hg (wm_equal (X := X) (Y := bitC v) hg hw1 (by omega) e1 hW vX (fun _ => VC_bit) (fun j hj => (e3 j hj).1) (fun j hj => (e3 j hj).2)) (fun r B'' h => b_Mo_isIndex_89 ⟨_, rfl, h.1, h.2.1, FM_tr e2 h.2.2 (by omega) (by omega)⟩)))
    refine e_Mo_isIndex (b_Mo_isIndex_0 (fun _ => go) (fun q => b_Mo_isIndex_9 (fun _ => go) (fun q2 => absurd ?_ q2)))
    have hw' : w < 31 := by
      by_cases y : w < 31
      · exact y
      · exact absurd (nI_le (a := 31) (b := w) (by omega) (by omega)) q
    have p : 2 ^ w ≤ 2 ^ 30 := Nat.pow_le_pow_right (by omega) (by omega)
    have e : (1 : Int32) <<< (nI w &&& 31) = nI (2 ^ w) := pw_m ⟨w, hw'⟩
    rw [e]
    exact (nI_ltI (by omega) (by omega)).mpr z
  · rw [if_neg z]
    have hw' : w < 31 := by
      by_cases y : w < 31
      · exact y
      · exact absurd (Nat.lt_of_lt_of_le hv (Nat.pow_le_pow_right (by omega) (by omega))) z
    have p : 2 ^ w ≤ 2 ^ 30 := Nat.pow_le_pow_right (by omega) (by omega)
    refine e_Mo_isIndex (b_Mo_isIndex_0 (fun q => absurd q (nI_ge (a := w) (b := 31) (by omega) (by omega))) (fun q => b_Mo_isIndex_9 (fun q2 => absurd q2 ?_) (fun q2 => b_Mo_isIndex_19 ⟨_, rfl, rfl, hK, FM_rfl⟩)))
    have e : (1 : Int32) <<< (nI w &&& 31) = nI (2 ^ w) := pw_m ⟨w, hw'⟩
    rw [e]
    exact fun q3 => z ((nI_ltI (by omega) (by omega)).mp q3)
end IDX
