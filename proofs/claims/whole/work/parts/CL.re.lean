/-! what divide reckons: quotient and remainder -/
def dvr (NX yn k : Nat) : Nat := if yn = 0 then NX / 2 ^ k else NX / 2 ^ k % yn
def dvq (NX yn w : Nat) : Nat := if yn = 0 then 2 ^ w - 1 else NX / yn
theorem half_k (NX k : Nat) : NX / 2 ^ k = 2 * (NX / 2 ^ (k + 1)) + (NX.testBit k).toNat := by
  rw [Nat.toNat_testBit, Nat.pow_succ, ← Nat.div_div_eq_div_mul]
  omega
theorem dv_step_r (NX yn k : Nat) : dvr NX yn k = if yn ≤ 2 * dvr NX yn (k + 1) + (NX.testBit k).toNat then 2 * dvr NX yn (k + 1) + (NX.testBit k).toNat - yn else 2 * dvr NX yn (k + 1) + (NX.testBit k).toNat := by
  unfold dvr
  by_cases z : yn = 0
  · rw [if_pos z, if_pos z, if_pos (by omega), z, ← half_k]
    rfl
  · rw [if_neg z, if_neg z, half_k NX k]
    exact dv_r (by omega) (Bool.toNat_le _)
theorem dv_step_q {NX yn w k : Nat} (hk : k < w) : (dvq NX yn w).testBit k = decide (yn ≤ 2 * dvr NX yn (k + 1) + (NX.testBit k).toNat) := by
  unfold dvr dvq
  by_cases z : yn = 0
  · rw [if_pos z, if_pos z, Nat.testBit_two_pow_sub_one, z]
    simp [hk]
  · rw [if_neg z, if_neg z, Nat.testBit_eq_decide_div_mod_eq, Nat.div_div_eq_div_mul, Nat.mul_comm, ← Nat.div_div_eq_div_mul, half_k NX k, dv_q (by omega) (Bool.toNat_le _)]
    apply decide_eq_decide.mpr
    split <;> simp_all
theorem dvr_lt {NX yn w k : Nat} (hX : NX < 2 ^ w) (hy : yn < 2 ^ w) : dvr NX yn k < 2 ^ w := by
  unfold dvr
  split
  · exact Nat.lt_of_le_of_lt (Nat.div_le_self _ _) hX
  · exact Nat.lt_trans (Nat.mod_lt _ (by omega)) hy

section RDW
variable {V : zS → Int32 → Bool → Prop} {Ex : zS → zS → Prop} {T T' S : zS} {X Y : Nat → Int32} {w : Nat}
theorem v_div (h : SV V Ex) {NX yn : Nat} (hN : NX < 2 ^ w) (hn : yn < 2 ^ w) : ∀ (k : Nat) (Rm Qo : Nat → Int32) (T : zS), k ≤ w → (∀ j, j < w → V T (X j) (NX.testBit j)) → (∀ j, j ≤ w → V T (Y j) (yn.testBit j)) → (∀ j, j < w → V T (Rm j) ((dvr NX yn k).testBit j)) → (∀ j, k ≤ j → j < w → V T (Qo j) ((dvq NX yn w).testBit j)) → cWF V Ex (fun T r => (∀ j, j < w → V T (r.1 j) ((dvq NX yn w).testBit j)) ∧ ∀ j, j < w → V T (r.2 j) ((dvr NX yn 0).testBit j)) (divP X Y w k Rm Qo) T
  | 0, _, _, _, _, _, _, hR, hQ => cWF_ret ⟨fun j hj => hQ j (by omega) hj, hR⟩
  | k + 1, Rm, Qo, T, hk, hX, hY, hR, hQ => by
    obtain ⟨dn, ed⟩ : ∃ dn, dn = 2 * dvr NX yn (k + 1) + (NX.testBit k).toNat := ⟨_, rfl⟩
    have bl : (NX.testBit k).toNat ≤ 1 := Bool.toNat_le _
    have rl := dvr_lt (k := k + 1) hN hn
    have p2 : 2 ^ (w + 1) = 2 ^ w * 2 := Nat.pow_succ 2 w
    have vD : ∀ j, j ≤ w → V T (dvD (X k) Rm j) (dn.testBit j) := fun j hj => by
      unfold dvD
      cases j with
      | zero =>
        rw [if_pos rfl, tb0 dn (NX.testBit k) (by omega)]
        exact hX k (by omega)
      | succ j =>
        rw [if_neg (by omega), tbS dn (dvr NX yn (k + 1)) j (by omega)]
        exact hR j (by omega)
    have sD : nvb (fun j => dn.testBit j) (w + 1) 0 = dn := by
      rw [nvb_tb, Nat.pow_zero, Nat.div_one, Nat.mod_eq_of_lt (by omega)]
    have sY : nvb (fun j => !yn.testBit j) (w + 1) 0 = 2 ^ (w + 1) - 1 - yn := by
      have a := nvb_not (yb := fun j => yn.testBit j) (w + 1) 0
      rw [nvb_tb, Nat.pow_zero, Nat.div_one, Nat.mod_eq_of_lt (by omega)] at a
      omega
    have sq := dv_step_q (NX := NX) (yn := yn) (w := w) (k := k) (by omega)
    have sr := dv_step_r NX yn k
    rw [← ed] at sq sr
    refine cWF_seq h (v_tak h (db := fun j => dn.testBit j) (yb := fun j => yn.testBit j) w 0 (-1) true T (fun i _ q => vD i (by omega)) (fun i _ q => hY i (by omega)) (h.2.2.2.2.1 T)) (fun T1 r e1 h1 => ?_)
    rw [sD, sY] at h1
    have ec : decide (2 ^ (w + 1) ≤ dn + (2 ^ (w + 1) - 1 - yn) + true.toNat) = decide (yn ≤ dn) := by
      apply decide_eq_decide.mpr
      rw [Bool.toNat_true]
      omega
    rw [ec] at h1
    refine cWF_seq h (v_muxs h (cb := decide (yn ≤ dn)) (fb := fun i => (dn + (2 ^ (w + 1) - 1 - yn) + true.toNat).testBit i) (db := fun i => dn.testBit i) w 0 T1 h1.1 (fun i _ q => h1.2 i (by omega)) (fun i _ q => h.2.2.1 _ _ _ _ e1 (vD i (by omega)))) (fun T2 os e2 h2 => ?_)
    have e := h.2.1 _ _ _ e1 e2
    refine v_div h hN hn k _ _ T2 (by omega) (fun j hj => h.2.2.1 _ _ _ _ e (hX j hj)) (fun j hj => h.2.2.1 _ _ _ _ e (hY j hj)) (fun j hj => ?_) (fun j q1 q2 => ?_)
    · have a := h2 j hj
      rw [Nat.zero_add] at a
      rw [sr]
      by_cases z : yn ≤ dn
      · rw [if_pos z]
        rw [decide_eq_true z] at a
        have b : (dn - yn).testBit j = (dn + (2 ^ (w + 1) - 1 - yn) + true.toNat).testBit j := by
          apply tb_mod (m := w) _ hj
          rw [Bool.toNat_true, show dn + (2 ^ (w + 1) - 1 - yn) + 1 = (dn - yn) + 2 ^ w * 2 by omega, Nat.add_mul_mod_self_left]
        rw [b]
        exact a
      · rw [if_neg z]
        rw [decide_eq_false z] at a
        exact a
    · by_cases z : j = k
      · simp only [if_pos z]
        rw [z, sq]
        exact h.2.2.1 _ _ _ _ e2 h1.1
      · simp only [if_neg z]
        exact h.2.2.1 _ _ _ _ e (hQ j (by omega) q2)
theorem v_divide (h : SV V Ex) {NX yn : Nat} (hN : NX < 2 ^ w) (hn : yn < 2 ^ w) (hX : ∀ j, j < w → V T (X j) (NX.testBit j)) (hY : ∀ j, j < w → V T (Y j) (yn.testBit j)) : cWF V Ex (fun T r => (∀ j, j < w → V T (r.1 j) ((dvq NX yn w).testBit j)) ∧ ∀ j, j < w → V T (r.2 j) ((dvr NX yn 0).testBit j)) (divideP X Y w) T := by
  refine v_div h hN hn w _ _ T (Nat.le_refl _) hX (fun j hj => ?_) (fun j hj => ?_) (fun j q1 q2 => absurd q1 (by omega))
  · unfold ext2
    by_cases z : j < w
    · rw [if_pos z]
      exact hY j z
    · rw [if_neg z, Nat.testBit_lt_two_pow (Nat.lt_of_lt_of_le hn (Nat.pow_le_pow_right (by omega) (by omega)))]
      exact h.2.2.2.2.2 T
  · have z : dvr NX yn w = 0 := by
      unfold dvr
      rw [Nat.div_eq_of_lt hN]
      split
      · rfl
      · exact Nat.zero_mod _
    rw [z, Nat.zero_testBit]
    exact h.2.2.2.2.2 T
end RDW
