/-! mean()'s operands: signs, bits, inputs -/
theorem ngLL {w N : Nat} (hw : w ≤ 32) (hN : N < 2 ^ w) : (-(lN N)) &&& (((1 : Int64) <<< ((nI w).toInt64 &&& 63)) - 1) = lN ((2 ^ w - N) % 2 ^ w) := by
  have h2 : 2 ^ w ≤ 2 ^ 32 := Nat.pow_le_pow_right (by omega) hw
  have e : -(lN N) = lN (2 ^ 64 - N) := by
    have q := sbLL (a := 0) (b := N) (by omega)
    rw [Nat.zero_add] at q
    rw [← q]
    exact (Int64.zero_sub _).symm
  rw [e, msk_l hw]
  have ep : 2 ^ 64 = 2 ^ w * 2 ^ (64 - w) := by rw [← Nat.pow_add, show w + (64 - w) = 64 by omega]
  obtain ⟨k, ek⟩ : ∃ k, 2 ^ (64 - w) = k + 1 := ⟨2 ^ (64 - w) - 1, by have := Nat.two_pow_pos (64 - w); omega⟩
  rw [ek, Nat.mul_add, Nat.mul_one] at ep
  have e2 : 2 ^ 64 - N = (2 ^ w - N) + 2 ^ w * k := by omega
  rw [e2, Nat.add_mul_mod_self_left]
theorem ntLL {w N : Nat} (hw : w ≤ 32) (hN : N < 2 ^ w) : (lN N ^^^ ((-1) : Int64)) &&& (((1 : Int64) <<< ((nI w).toInt64 &&& 63)) - 1) = lN (2 ^ w - 1 - N) := by
  have h2 : 2 ^ w ≤ 2 ^ 32 := Nat.pow_le_pow_right (by omega) hw
  have e1 : lN N ^^^ ((-1) : Int64) = lN (2 ^ 64 - 1 - N) := by
    apply Int64.toBitVec_inj.mp
    rw [Int64.toBitVec_xor]
    apply BitVec.eq_of_toNat_eq
    have e0 : (((-1) : Int64)).toBitVec = BitVec.allOnes 64 := by decide
    rw [e0, BitVec.xor_allOnes, BitVec.toNat_not]
    show 2 ^ 64 - 1 - N % 2 ^ 64 = (2 ^ 64 - 1 - N) % 2 ^ 64
    omega
  rw [e1, msk_l hw]
  have ep : 2 ^ 64 = 2 ^ w * 2 ^ (64 - w) := by rw [← Nat.pow_add, show w + (64 - w) = 64 by omega]
  obtain ⟨k, ek⟩ : ∃ k, 2 ^ (64 - w) = k + 1 := ⟨2 ^ (64 - w) - 1, by have := Nat.two_pow_pos (64 - w); omega⟩
  rw [ek, Nat.mul_add, Nat.mul_one] at ep
  have e2 : 2 ^ 64 - 1 - N = (2 ^ w - 1 - N) + 2 ^ w * k := by omega
  rw [e2, Nat.add_mul_mod_self_left, Nat.mod_eq_of_lt (by omega)]
/-- what a sign reckons -/
def unN (w : Nat) (c : Int32) (N : Nat) : Nat := if c = 33 then 1 - N else if c = 45 then (2 ^ w - N) % 2 ^ w else 2 ^ w - 1 - N
section MOR
variable {l : Launch} {Gr : zG} {n w d i h a NX NY : Nat} {X : zS} {v : Int64}
theorem mo_un (hw : w ≤ 32) (hi : i < 12000) (hh : h + 1 ≤ 4200) (h115 : X.1 73 115 = nI (h + 1)) (hk : X.1 78 i = 12) (hx : X.2 147 h = lN NX) (hX : NX < 2 ^ w) (h33 : X.1 79 i = 33 → NX ≤ 1) : zMi l Gr (zc n w) 168 M_Mo_meanOperand (d + 1) [.ref 105, .int (nI i)] X (fun z X' => z = nI (i + 1) ∧ X' = zj X 147 h (lN (unN w (X.1 79 i) NX))) := by
  have ci : (nI i).toNatClampNeg = i := nI_clamp (by omega)
  have vi : vp_in (nI i) 12000 := vp_in_nI hi (by omega)
  have e1 : X.1 73 115 - 1 = nI h := by rw [h115]; exact sub_nn (b := 1) (by omega)
  have fin : ∀ u : Int64, u = lN (unN w (X.1 79 i) NX) → zW l Gr (zc n w) 168 M_Mo_meanOperand (d + 1) 475 [none, some (.int (nI i)), none, none, none, none] [.long u, .int (nI h), .ref 179] X (fun y X' => ∃ z, y = some (.int z) ∧ z = nI (i + 1) ∧ X' = zj X 147 h (lN (unN w (X.1 79 i) NX))) := fun u hu => by
    refine b_Mo_meanOperand_475 (vp_in_nI (by omega) (by omega)) ?_
    rw [nI_clamp (by omega), hu]
    exact mo_fin
  refine e_Mo_meanOperand (b_Mo_meanOperand_0 vi (fun q => ?_) (fun q => ?_) (fun q => ?_) (fun q => ?_) (fun q => ?_) (fun q => ?_) (fun q => ?_) (fun _ => b_Mo_meanOperand_405 (by rw [e1]; exact vp_in_nI (by omega) (by omega)) vi (fun y => ?_) (fun y => ?_)) (fun q => ?_) (fun q => ?_) (fun _ _ _ _ _ _ _ q => ?_))
  all_goals first
    | (rw [ci, hk] at q; exact absurd q (by decide))
    | skip
  · rw [ci] at y
    rw [e1, nI_clamp (by omega), hx]
    refine b_Mo_meanOperand_444 vi (fun y2 => b_Mo_meanOperand_465 (fin _ ?_)) (fun y2 => b_Mo_meanOperand_455 (fin _ ?_))
    · rw [ci] at y2
      unfold unN
      rw [if_neg y, if_neg y2]
      exact ntLL hw hX
    · rw [ci] at y2
      unfold unN
      rw [if_neg y, if_pos y2]
      exact ngLL hw hX
  · rw [ci] at y
    rw [e1, nI_clamp (by omega), hx]
    refine b_Mo_meanOperand_438 (fin _ ?_)
    unfold unN
    rw [if_pos y, show (1 : Int64) = lN 1 from rfl]
    exact lN_sub (h33 y)
end MOR
