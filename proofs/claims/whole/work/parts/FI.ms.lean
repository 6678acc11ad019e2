/-! a message as a number, and its parts -/
theorem sar_n {a k : Nat} (ha : a < 2 ^ 31) (hk : k < 32) : nI a >>> (nI k &&& 31) = nI (a / 2 ^ k) := by
  have e : (nI k &&& 31) = nI k := (show ∀ j, j < 32 → (nI j &&& 31) = nI j by decide +kernel) k hk
  rw [e]
  have m : (nI a).toBitVec.msb = false := by
    rw [BitVec.msb_eq_false_iff_two_mul_lt]
    show 2 * (a % 2 ^ 32) < 2 ^ 32
    omega
  apply Int32.toBitVec_inj.mp
  rw [Int32.toBitVec_shiftRight]
  have e3 : ((nI k).toBitVec.smod 32#32).toNat = k := (show ∀ j, j < 32 → ((nI j).toBitVec.smod 32#32).toNat = j by decide +kernel) k hk
  show (nI a).toBitVec.sshiftRight ((nI k).toBitVec.smod 32#32).toNat = _
  rw [e3, BitVec.sshiftRight_eq_of_msb_false m]
  apply BitVec.eq_of_toNat_eq
  rw [BitVec.toNat_ushiftRight, Nat.shiftRight_eq_div_pow]
  show a % 2 ^ 32 / 2 ^ k = (a / 2 ^ k) % 2 ^ 32
  have h1 : a < 2 ^ 32 := by omega
  rw [Nat.mod_eq_of_lt h1, Nat.mod_eq_of_lt (Nat.lt_of_le_of_lt (Nat.div_le_self _ _) h1)]
theorem shl_nn {r k : Nat} (hk : k < 32) : nI r <<< (nI k &&& 31) = nI (r * 2 ^ k) := by
  have e : (nI k &&& 31) = nI k := (show ∀ j, j < 32 → (nI j &&& 31) = nI j by decide +kernel) k hk
  rw [e]
  apply Int32.toBitVec_inj.mp
  rw [Int32.toBitVec_shiftLeft]
  have e3 : ((nI k).toBitVec.smod 32#32).toNat = k := (show ∀ j, j < 32 → ((nI j).toBitVec.smod 32#32).toNat = j by decide +kernel) k hk
  show (nI r).toBitVec <<< ((nI k).toBitVec.smod 32#32).toNat = _
  rw [e3]
  apply BitVec.eq_of_toNat_eq
  rw [BitVec.toNat_shiftLeft, Nat.shiftLeft_eq]
  show (r % 2 ^ 32) * 2 ^ k % 2 ^ 32 = (r * 2 ^ k) % 2 ^ 32
  rw [Nat.mod_mul_mod]
theorem or_nn {a b : Nat} (ha : a < 2 ^ 32) (hb : b < 2 ^ 32) : nI a ||| nI b = nI (a ||| b) := by
  apply Int32.toBitVec_inj.mp
  rw [Int32.toBitVec_or]
  apply BitVec.eq_of_toNat_eq
  rw [BitVec.toNat_or]
  show (a % 2 ^ 32 ||| b % 2 ^ 32) = (a ||| b) % 2 ^ 32
  rw [Nat.mod_eq_of_lt ha, Nat.mod_eq_of_lt hb, Nat.mod_eq_of_lt (Nat.or_lt_two_pow ha hb)]
theorem or_sh {m r k : Nat} (hm : m < 2 ^ k) (hk : k < 32) (hr : m + r * 2 ^ k < 2 ^ 31) : nI m ||| (nI r <<< (nI k &&& 31)) = nI (m + r * 2 ^ k) := by
  rw [shl_nn hk, or_nn (by omega) (by omega)]
  congr 1
  have h := Nat.shiftLeft_add_eq_or_of_lt hm r
  rw [Nat.shiftLeft_eq] at h
  rw [Nat.or_comm, ← h, Nat.add_comm]
def eMs (m : Nat × Nat × Nat) : Int32 := nI (m.1 + 16 * m.2.1 + 256 * m.2.2)
theorem eMs_mk {f t r : Nat} (hf : f < 16) (ht : t < 16) (hr : r < 5000) : (nI f ||| (nI t <<< (4 &&& 31))) ||| (nI r <<< (8 &&& 31)) = eMs (f, t, r) := by
  have h1 : nI f ||| (nI t <<< (4 &&& 31)) = nI (f + t * 2 ^ 4) := or_sh (k := 4) (by omega) (by omega) (by omega)
  rw [h1]
  have h2 : nI (f + t * 2 ^ 4) ||| (nI r <<< (8 &&& 31)) = nI (f + t * 2 ^ 4 + r * 2 ^ 8) := or_sh (k := 8) (by omega) (by omega) (by omega)
  rw [h2]
  unfold eMs
  congr 1
  show f + t * 2 ^ 4 + r * 2 ^ 8 = f + 16 * t + 256 * r
  omega
theorem eMs_f {f t r : Nat} (hf : f < 16) : eMs (f, t, r) &&& 15 = nI f := by
  unfold eMs
  have h := and_i (nI (f + 16 * t + 256 * r)) (k := 4) (by omega)
  have h2 : nI (f + 16 * t + 256 * r) &&& 15 = nI ((nI (f + 16 * t + 256 * r)).toBitVec.toNat % 2 ^ 4) := h
  show nI (f + 16 * t + 256 * r) &&& 15 = _
  rw [h2]
  congr 1
  show ((f + 16 * t + 256 * r) % 2 ^ 32) % 2 ^ 4 = f
  omega
theorem eMs_t {f t r : Nat} (hf : f < 16) (ht : t < 16) (hr : r < 5000) : (eMs (f, t, r) >>> (4 &&& 31)) &&& 15 = nI t := by
  unfold eMs
  show nI (f + 16 * t + 256 * r) >>> (nI 4 &&& 31) &&& 15 = _
  rw [sar_n (by omega) (by omega)]
  have h := and_i (nI ((f + 16 * t + 256 * r) / 2 ^ 4)) (k := 4) (by omega)
  have h2 : nI ((f + 16 * t + 256 * r) / 2 ^ 4) &&& 15 = nI ((nI ((f + 16 * t + 256 * r) / 2 ^ 4)).toBitVec.toNat % 2 ^ 4) := h
  rw [h2]
  congr 1
  show (((f + 16 * t + 256 * r) / 2 ^ 4) % 2 ^ 32) % 2 ^ 4 = t
  omega
theorem eMs_r {f t r : Nat} (hf : f < 16) (ht : t < 16) (hr : r < 5000) : eMs (f, t, r) >>> (8 &&& 31) = nI r := by
  unfold eMs
  show nI (f + 16 * t + 256 * r) >>> (nI 8 &&& 31) = _
  rw [sar_n (by omega) (by omega)]
  congr 1
  omega
section MSG
variable {l : Launch} {Gr : zG} {n w d f t r : Nat} {S : zS}
theorem w_from (hf : f < 16) : zMi l Gr (zc n w) 168 M_Post_from d [.int (eMs (f, t, r))] S (fun v S' => v = nI f ∧ S' = S) := e_Post_from (b_Post_from_0 ⟨_, rfl, eMs_f hf, rfl⟩)
theorem w_to (hf : f < 16) (ht : t < 16) (hr : r < 5000) : zMi l Gr (zc n w) 168 M_Post_to d [.int (eMs (f, t, r))] S (fun v S' => v = nI t ∧ S' = S) := e_Post_to (b_Post_to_0 ⟨_, rfl, eMs_t hf ht hr, rfl⟩)
theorem w_round (hf : f < 16) (ht : t < 16) (hr : r < 5000) : zMi l Gr (zc n w) 168 M_Post_round d [.int (eMs (f, t, r))] S (fun v S' => v = nI r ∧ S' = S) := e_Post_round (b_Post_round_0 ⟨_, rfl, eMs_r hf ht hr, rfl⟩)
end MSG
