/-! the class's shortcut of CONSTANTs: times -/
theorem sh_l : ∀ j : Fin 64, ((Int32.ofNat j.val).toInt64.toUInt64 &&& Int64.toUInt64 63).toBitVec % 64 = BitVec.ofNat 64 j.val := by decide
theorem put_b {N j : Nat} (hj : j < 64) : (((Int64.ofNat N).toUInt64 >>> ((Int32.ofNat j).toInt64.toUInt64 &&& Int64.toUInt64 63)).toInt64 &&& 1) = Int64.ofNat (N % 2 ^ 64 / 2 ^ j % 2) := by
  apply Int64.toBitVec_inj.mp
  rw [Int64.toBitVec_and]
  have e := sh_l ⟨j, hj⟩
  simp only at e
  show ((Int64.ofNat N).toUInt64 >>> ((Int32.ofNat j).toInt64.toUInt64 &&& Int64.toUInt64 63)).toBitVec &&& _ = _
  rw [UInt64.toBitVec_shiftRight, e]
  apply BitVec.eq_of_toNat_eq
  simp [Nat.shiftRight_eq_div_pow]
  rw [Nat.mod_eq_of_lt (a := j) (by omega)]
  omega
theorem to32 {m : Nat} (h : m < 2) : (Int64.ofNat m).toInt32 = Int32.ofNat m := by
  have : m = 0 ∨ m = 1 := by omega
  rcases this with e | e <;> subst e <;> decide
theorem sh_s : ∀ j : Fin 64, ((Int32.ofNat j.val).toInt64 &&& 63).toBitVec.smod 64#64 = BitVec.ofNat 64 j.val := by decide
theorem shl_n {m j : Nat} (hj : j < 64) : (Int64.ofNat m) <<< ((Int32.ofNat j).toInt64 &&& 63) = Int64.ofNat (m * 2 ^ j) := by
  apply Int64.toBitVec_inj.mp
  rw [Int64.toBitVec_shiftLeft]
  have e := sh_s ⟨j, hj⟩
  simp only at e
  rw [show (64 : BitVec 64) = 64#64 from rfl] at *
  rw [e]
  apply BitVec.eq_of_toNat_eq
  simp [Nat.shiftLeft_eq]
  rw [Nat.mod_eq_of_lt (a := j) (by omega)]
theorem or_n {a m j : Nat} (h : a < 2 ^ j) (hm : m < 2) (hj : j < 32) : (Int64.ofNat a) ||| (Int64.ofNat (m * 2 ^ j)) = Int64.ofNat (a + m * 2 ^ j) := by
  apply Int64.toBitVec_inj.mp
  rw [Int64.toBitVec_or]
  have p : 2 ^ j ≤ 2 ^ 31 := Nat.pow_le_pow_right (by omega) (by omega)
  have q : m * 2 ^ j ≤ 2 ^ 31 := by
    have : m = 0 ∨ m = 1 := by omega
    rcases this with e | e <;> subst e <;> omega
  apply BitVec.eq_of_toNat_eq
  simp
  rw [Nat.mod_eq_of_lt (by omega), Nat.mod_eq_of_lt (by omega), Nat.mod_eq_of_lt (by omega)]
  have := Nat.shiftLeft_add_eq_or_of_lt h m
  rw [Nat.shiftLeft_eq] at this
  rw [Nat.or_comm, ← this, Nat.add_comm]

theorem nvb_last {xb : Nat → Bool} : ∀ (k i : Nat), nvb xb (k + 1) i = nvb xb k i + (xb (i + k)).toNat * 2 ^ k
  | 0, i => by simp [nvb]
  | k + 1, i => by
    have e : nvb xb (k + 1 + 1) i = (xb i).toNat + 2 * nvb xb (k + 1) (i + 1) := rfl
    have e2 : nvb xb (k + 1) i = (xb i).toNat + 2 * nvb xb k (i + 1) := rfl
    rw [e, nvb_last k (i + 1), e2, show i + 1 + k = i + (k + 1) by omega, Nat.pow_succ, Nat.mul_add, ← Nat.mul_assoc, Nat.mul_comm 2 ((xb (i + (k + 1))).toNat), Nat.mul_assoc, Nat.mul_comm 2 (2 ^ k)]
    omega
theorem nvb_lt {xb : Nat → Bool} : ∀ (k i : Nat), nvb xb k i < 2 ^ k
  | 0, _ => Nat.one_pos
  | k + 1, i => by
    have e2 : nvb xb (k + 1) i = (xb i).toNat + 2 * nvb xb k (i + 1) := rfl
    have := nvb_lt (xb := xb) k (i + 1)
    have b : (xb i).toNat ≤ 1 := Bool.toNat_le _
    rw [e2, Nat.pow_succ]
    omega
theorem nvb_bit {xb : Nat → Bool} : ∀ (k i j : Nat), j < k → (nvb xb k i).testBit j = xb (i + j)
  | 0, _, _, h => absurd h (by omega)
  | k + 1, i, 0, _ => by
    refine tb0 _ _ ?_
    have e2 : nvb xb (k + 1) i = (xb i).toNat + 2 * nvb xb k (i + 1) := rfl
    have b : (xb i).toNat ≤ 1 := Bool.toNat_le _
    rw [e2]
    show _ = (xb i).toNat
    omega
  | k + 1, i, j + 1, h => by
    have e2 : nvb xb (k + 1) i = (xb i).toNat + 2 * nvb xb k (i + 1) := rfl
    have b : (xb i).toNat ≤ 1 := Bool.toNat_le _
    rw [tbS _ (nvb xb k (i + 1)) j (by rw [e2]; omega), nvb_bit k (i + 1) j (by omega), show i + 1 + j = i + (j + 1) by omega]
/-- a CONSTANT is -1 or -2 -/
def CNl (x : Int32) : Prop := ¬ 0 ≤ x → x = -1 ∨ x = -2
section SHC
variable {l : Launch} {Gr : zG} {n w : Nat} {d : Nat} {S A T B : zS} {c x y : Int32} {X Y : Nat → Int32} {Q : Option Value → zS → Prop} {a b m i N : Nat}
def xbo (X : Nat → Int32) (j : Nat) : Bool := decide (X j = -1)
theorem ki_known (hw : w ≤ 32) (ha : a + w ≤ 9682 * w) (hX : ∀ j, j < w → A.1 57 (a + j) = X j) (q0 : Q (some (.int 0)) A) (q1 : (∀ j, j < w → X j < 0) → Q (some (.int 1)) A) : ∀ (k j : Nat), j + k = w → (∀ j', j' < j → X j' < 0) → zW l Gr (zc n w) 168 M_Logic_isKnown d 2 [some (.ref 82), some (.ref 89), some (.int (nI a)), some (.int (nI j))] [] A Q
  | 0, j, h, hk => b_Logic_isKnown_r89_2 (fun _ => b_Logic_isKnown_r89_26 (q1 (fun j' hj => hk j' (by omega)))) (fun q => absurd (nI_le (a := w) (b := j) (by omega) (by omega)) q)
  | k + 1, j, h, hk => by
    have e : A.1 57 ((nI a + nI j).toNatClampNeg) = X j := by rw [nI_add, nI_clamp (by omega)]; exact hX j (by omega)
    refine b_Logic_isKnown_r89_2 (fun q => absurd q (nI_ge (a := j) (b := w) (by omega) (by omega))) (fun _ => b_Logic_isKnown_r89_10 (by rw [nI_add]; exact vp_in_nI (by omega) (by omega)) (fun z => b_Logic_isKnown_r89_20 ?_) (fun _ => b_Logic_isKnown_r89_18 q0))
    rw [e] at z
    rw [show nI j + Int32.ofInt 1 = nI (j + 1) from nI_add j 1]
    refine ki_known hw ha hX q0 q1 k (j + 1) (by omega) (fun j' hj => ?_)
    by_cases y : j' = j
    · rw [y]; exact z
    · exact hk j' (by omega)
theorem w_known (hw : w ≤ 32) (ha : a + w ≤ 9682 * w) (hX : ∀ j, j < w → A.1 57 (a + j) = X j) : zMi l Gr (zc n w) 168 M_Logic_isKnown d [.ref 82, .ref 89, .int (nI a)] A (fun v A' => A' = A ∧ (v = 0 ∨ (v = 1 ∧ ∀ j, j < w → X j < 0))) := e_Logic_isKnown_r89 (b_Logic_isKnown_r89_0 (ki_known hw ha hX ⟨_, rfl, Or.inl rfl, rfl, Or.inl rfl⟩ (fun q => ⟨_, rfl, Or.inr rfl, rfl, Or.inr ⟨rfl, q⟩⟩) w 0 (by omega) (fun _ h => absurd h (by omega))))
theorem ki_num (hw : w ≤ 32) (ha : a + w ≤ 9682 * w) (hX : ∀ j, j < w → A.1 57 (a + j) = X j) (q0 : Q (some (.long (Int64.ofNat (nvb (xbo X) w 0)))) A) : ∀ (k j : Nat), j + k = w → zW l Gr (zc n w) 168 M_Logic_number d 5 [some (.ref 82), some (.ref 89), some (.int (nI a)), some (.long (Int64.ofNat (nvb (xbo X) j 0))), none, some (.int (nI j))] [] A Q
  | 0, j, h => b_Logic_number_r89_5 (fun _ => b_Logic_number_r89_41 (by rw [show j = w by omega]; exact q0)) (fun q => absurd (nI_le (a := w) (b := j) (by omega) (by omega)) q)
  | k + 1, j, h => by
    have e : A.1 57 ((nI a + nI j).toNatClampNeg) = X j := by rw [nI_add, nI_clamp (by omega)]; exact hX j (by omega)
    have go : ∀ m : Nat, m = (xbo X j).toNat → zW l Gr (zc n w) 168 M_Logic_number d 30 [some (.ref 82), some (.ref 89), some (.int (nI a)), none, none, some (.int (nI j))] [.long (Int64.ofNat m), .long (Int64.ofNat (nvb (xbo X) j 0))] A Q := fun m hm => by
      refine b_Logic_number_r89_30 ?_
      have e1 : (Int64.ofNat m) <<< ((nI j : Int32).toInt64 &&& 63) = Int64.ofNat (m * 2 ^ j) := shl_n (by omega)
      have e2 := or_n (a := nvb (xbo X) j 0) (m := m) (j := j) (nvb_lt j 0) (by rw [hm]; have := Bool.toNat_le (xbo X j); omega) (by omega)
      have e3 := nvb_last (xb := xbo X) j 0
      rw [Nat.zero_add, ← hm] at e3
      rw [e1, e2, ← e3, show nI j + Int32.ofInt 1 = nI (j + 1) from nI_add j 1]
      exact ki_num hw ha hX q0 k (j + 1) (by omega)
    refine b_Logic_number_r89_5 (fun q => absurd q (nI_ge (a := j) (b := w) (by omega) (by omega))) (fun _ => b_Logic_number_r89_14 (by rw [nI_add]; exact vp_in_nI (by omega) (by omega)) (fun z => b_Logic_number_r89_29 (go 0 ?_)) (fun z => b_Logic_number_r89_25 (go 1 ?_)))
    · rw [e] at z
      unfold xbo
      rw [decide_eq_false z]
      rfl
    · rw [e] at z
      unfold xbo
      rw [decide_eq_true z]
      rfl
theorem w_numb (hw : w ≤ 32) (ha : a + w ≤ 9682 * w) (hX : ∀ j, j < w → A.1 57 (a + j) = X j) : zMl l Gr (zc n w) 168 M_Logic_number d [.ref 82, .ref 89, .int (nI a)] A (fun v A' => v = Int64.ofNat (nvb (xbo X) w 0) ∧ A' = A) := e_Logic_number_r89 (b_Logic_number_r89_0 (ki_num hw ha hX ⟨_, rfl, rfl, rfl⟩ w 0 (by omega)))
theorem put_c {j : Nat} (hj : j < 32) : (((-2) : Int32) ^^^ (((((Int64.ofNat N : Int64)).toUInt64 >>> (((nI j : Int32)).toInt64.toUInt64 &&& Int64.toUInt64 63)).toInt64 &&& 1)).toInt32) = bC (N.testBit j) := by
  have e : ((((Int64.ofNat N : Int64)).toUInt64 >>> (((nI j : Int32)).toInt64.toUInt64 &&& Int64.toUInt64 63)).toInt64 &&& 1) = Int64.ofNat (N % 2 ^ 64 / 2 ^ j % 2) := put_b (by omega)
  have t : N.testBit j = (N % 2 ^ 64).testBit j := tb_mod (m := 64) (by rw [Nat.mod_mod]) (by omega)
  rw [e, to32 (by omega), t, Nat.testBit_eq_decide_div_mod_eq]
  rcases Nat.mod_two_eq_zero_or_one (N % 2 ^ 64 / 2 ^ j) with q | q <;> rw [q] <;> decide
theorem ki_put (hw : w ≤ 32) (ha : a + w ≤ 9682 * w) : ∀ (k j : Nat) (A : zS), j + k = w → KEc S A → (∀ j', j' < j → A.1 57 (a + j') = bC (N.testBit j')) → (∀ A', KEc S A' → FK (fun c j => c = 57 ∧ a ≤ j ∧ j < a + w) A A' → (∀ j, j < w → A'.1 57 (a + j) = bC (N.testBit j)) → Q none A') → zW l Gr (zc n w) 168 M_Logic_put d 3 [some (.ref 82), some (.ref 89), some (.int (nI a)), some (.long (Int64.ofNat N)), none, some (.int (nI j))] [] A Q
  | 0, j, A, h, hK, hB, hQ => b_Logic_put_r89_3 (fun _ => b_Logic_put_r89_34 (hQ A hK FK_rfl (fun j' hj => hB j' (by omega)))) (fun q => absurd (nI_le (a := w) (b := j) (by omega) (by omega)) q)
  | k + 1, j, A, h, hK, hB, hQ => by
    refine b_Logic_put_r89_3 (fun q => absurd q (nI_ge (a := j) (b := w) (by omega) (by omega))) (fun _ => b_Logic_put_r89_12 (by rw [nI_add]; exact vp_in_nI (by omega) (by omega)) ?_)
    rw [nI_add, nI_clamp (by omega), put_c (by omega), show nI j + Int32.ofInt 1 = nI (j + 1) from nI_add j 1]
    refine ki_put hw ha k (j + 1) _ (by omega) (KEc_zi hK (by omega)) (fun j' hj => ?_) (fun A' e1 e2 e3 => hQ A' e1 (FK_tr (FK_zi (P := fun c j => c = 57 ∧ a ≤ j ∧ j < a + w) ⟨rfl, by omega, by omega⟩) e2 (fun _ _ z => z) (fun _ _ z => z)) e3)
    rw [zi_get]
    by_cases z : j' = j
    · rw [if_pos ⟨rfl, by omega⟩, z]
    · rw [if_neg (by omega)]
      exact hB j' (by omega)
theorem w_put (hw : w ≤ 32) (ha : a + w ≤ 9682 * w) (hK : KEc S A) : zMv l Gr (zc n w) 168 M_Logic_put d [.ref 82, .ref 89, .int (nI a), .long (Int64.ofNat N)] A (fun A' => KEc S A' ∧ FK (fun c j => c = 57 ∧ a ≤ j ∧ j < a + w) A A' ∧ ∀ j, j < w → A'.1 57 (a + j) = bC (N.testBit j)) := e_Logic_put_r89 (b_Logic_put_r89_0 (ki_put hw ha w 0 A (by omega) hK (fun _ h => absurd h (by omega)) (fun A' e1 e2 e3 => ⟨rfl, e1, e2, e3⟩)))
theorem cn_bit (hc : ∀ j, j < w → CNl (X j)) (hk : ∀ j, j < w → X j < 0) (j : Nat) (hj : j < w) : X j = bC ((nvb (xbo X) w 0).testBit j) := by
  rw [nvb_bit w 0 j hj, Nat.zero_add]
  rcases hc j hj (Int32.not_le.mpr (hk j hj)) with e | e
  · unfold xbo
    rw [decide_eq_true e, e]
    rfl
  · unfold xbo
    rw [decide_eq_false (by rw [e]; decide), e]
    rfl
theorem w_times (hg : ip_gk (lg_tbl, vwCl, Gr)) (hw : w ≤ 32) (hw1 : 1 ≤ w) (ha : a + w ≤ 9682 * w) (hb : b + w ≤ 9682 * w) (hK : KEc S A) (hG : GK S) (hX : ∀ j, j < w → A.1 57 (a + j) = X j) (hY : ∀ j, j < w → A.1 57 (b + j) = Y j) (cX : ∀ j, j < w → CNl (X j)) (cY : ∀ j, j < w → CNl (Y j)) : zMv l Gr (zc n w) 168 M_Logic_times (d + 4) [.ref 82, .ref 89, .int (nI a), .int (nI b)] A (fun A' => KEc ((timesP X Y w).1 S).2 A' ∧ FK (fun c j => ((51 ≤ c ∧ c ≤ 54) ∧ j < w + 1) ∨ (c = 57 ∧ a ≤ j ∧ j < a + w)) A A' ∧ ∀ j, j < w → A'.1 57 (a + j) = ((timesP X Y w).1 S).1 j) := by
  have slow := w_tim38 (l := l) (n := n) (d := d) (Q := fun v A' => v = none ∧ KEc ((timesP X Y w).1 S).2 A' ∧ FK (fun c j => ((51 ≤ c ∧ c ≤ 54) ∧ j < w + 1) ∨ (c = 57 ∧ a ≤ j ∧ j < a + w)) A A' ∧ ∀ j, j < w → A'.1 57 (a + j) = ((timesP X Y w).1 S).1 j) hg hw hw1 ha hb hK hG hX hY (fun A' e1 e2 e3 => ⟨rfl, e1, e2, e3⟩)
  refine e_Logic_times_r89 (b_Logic_times_r89_0 hg (w_known hw ha hX) (fun v A1 h1 => ?_))
  obtain ⟨e1, h1⟩ := h1
  subst e1
  refine b_Logic_times_r89_6 (fun _ => slow) (fun z => b_Logic_times_r89_9 hg (w_known hw hb hY) (fun v2 A2 h2 => ?_))
  obtain ⟨e2, h2⟩ := h2
  subst e2
  refine b_Logic_times_r89_15 (fun _ => slow) (fun z2 => b_Logic_times_r89_18 hg (w_numb hw ha hX) (fun v3 A3 h3 => ?_))
  obtain ⟨e3, e3'⟩ := h3
  subst e3
  subst e3'
  refine b_Logic_times_r89_27 hg (w_numb hw hb hY) (fun v4 A4 h4 => ?_)
  obtain ⟨e4, e4'⟩ := h4
  subst e4
  subst e4'
  have kX := (h1.resolve_left z).2
  have kY := (h2.resolve_left z2).2
  have run := c_run (v_times (V := Vc) SV_c (NX := nvb (xbo X) w 0) (NY := nvb (xbo Y) w 0) (T := S) hw1 (fun j hj => cn_bit cX kX j hj) (fun j hj => cn_bit cY kY j hj))
  refine b_Logic_times_r89_33 hg (by
    rw [← Int64.ofNat_mul]
    exact w_put hw ha hK) (fun A5 h5 => b_Logic_times_r89_37 ?_)
  refine ⟨rfl, ?_, FK_mo h5.2.1 (by omega), fun j hj => ?_⟩
  · rw [run.1]
    exact h5.1
  · rw [h5.2.2 j hj]
    exact (run.2 j hj).symm
end SHC
