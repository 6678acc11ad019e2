/-! literals' values in the end's circuit -/
theorem xo_nn {a b : Nat} (ha : a < 2 ^ 32) (hb : b < 2 ^ 32) : nI a ^^^ nI b = nI (a ^^^ b) := by
  apply Int32.toBitVec_inj.mp
  rw [Int32.toBitVec_xor]
  apply BitVec.eq_of_toNat_eq
  rw [BitVec.toNat_xor]
  show (a % 2 ^ 32 ^^^ b % 2 ^ 32) = (a ^^^ b) % 2 ^ 32
  rw [Nat.mod_eq_of_lt ha, Nat.mod_eq_of_lt hb, Nat.mod_eq_of_lt (Nat.xor_lt_two_pow ha hb)]
theorem x1_pos {x : Int32} (h : ¬ x < 0) : ¬ (x ^^^ 1) < 0 := by
  obtain ⟨a, ha, rfl⟩ := nI_of h
  rw [show (1 : Int32) = nI 1 from rfl, xo_nn (by omega) (by omega)]
  exact nI_pos (Nat.xor_lt_two_pow (n := 31) ha (by omega))
theorem x1_x1 (x : Int32) : x ^^^ 1 ^^^ 1 = x := by
  rw [Int32.xor_assoc, Int32.xor_self]
  exact Int32.xor_zero
theorem x1_sg {x : Int32} : (x ^^^ 1) < 0 ↔ x < 0 := by
  constructor
  · intro h
    by_cases z : x < 0
    · exact z
    · exact absurd h (x1_pos z)
  · intro h
    by_cases z : (x ^^^ 1) < 0
    · exact z
    · have := x1_pos z
      rw [x1_x1] at this
      exact absurd h this
/-- the lowest bit -/
def lbt (x : Int32) : Nat := if x &&& 1 = 1 then 1 else 0
theorem lbt_01 (x : Int32) : lbt x = 0 ∨ lbt x = 1 := by
  unfold lbt
  split
  · exact Or.inr rfl
  · exact Or.inl rfl
theorem lbt_v (x : Int32) : x &&& 1 = nI (lbt x) := by
  unfold lbt
  rcases and1_01 x with e | e
  · rw [e, if_neg (by decide)]
    rfl
  · rw [e, if_pos rfl]
    rfl
theorem nI_01i {a b : Nat} (ha : a = 0 ∨ a = 1) (hb : b = 0 ∨ b = 1) (h : nI a = nI b) : a = b := (nI_eq (by omega) (by omega)).mp h
theorem lbt_x (x y : Int32) : lbt (x ^^^ y) = (lbt x + lbt y) % 2 := by
  refine nI_01i (lbt_01 _) (by omega) ?_
  rw [← lbt_v, ← xor_01 (lbt_01 x) (lbt_01 y), ← lbt_v, ← lbt_v]
  apply Int32.toBitVec_inj.mp
  simp only [Int32.toBitVec_xor, Int32.toBitVec_and]
  generalize x.toBitVec = p
  generalize y.toBitVec = q
  ext k hk
  simp only [BitVec.getElem_xor, BitVec.getElem_and]
  cases p[k] <;> cases q[k] <;> cases (Int32.toBitVec 1)[k] <;> rfl
section LVL
variable {W : Nat → Nat} {x y : Int32}
theorem litV_n (h : ¬ x < 0) : litV W x = (W (x >>> (1 &&& 31)).toNatClampNeg + lbt x) % 2 := if_neg h
theorem litV_c (h : x < 0) : litV W x = lbt x := if_pos h
theorem litV_x1 (hW : ∀ t, W t = 0 ∨ W t = 1) : litV W (x ^^^ 1) = (litV W x + 1) % 2 := by
  have e : lbt (x ^^^ 1) = (lbt x + 1) % 2 := lbt_x x 1
  by_cases z : x < 0
  · rw [litV_c z, litV_c (x1_sg.mpr z), e]
  · have s : (x ^^^ 1) >>> (1 &&& 31) = x >>> (1 &&& 31) := shr_x x 1
    rw [litV_n z, litV_n (fun q => z (x1_sg.mp q)), e, s]
    omega
theorem litV_xb (hW : ∀ t, W t = 0 ∨ W t = 1) : litV W (x ^^^ (y &&& 1)) = (litV W x + lbt y) % 2 := by
  rcases and1_01 y with e | e
  · have e2 : lbt y = 0 := by
      unfold lbt
      rw [e]
      rfl
    rw [e, e2, show x ^^^ 0 = x from Int32.xor_zero]
    have := litV_01 hW x
    omega
  · have e2 : lbt y = 1 := by
      unfold lbt
      rw [e]
      rfl
    rw [e, e2]
    exact litV_x1 hW
/-- SV of the end's values -/
theorem SV_W (hW : ∀ t, W t = 0 ∨ W t = 1) : SV (fun _ x s => litV W x = s.toNat) (fun _ _ => True) := by
  refine ⟨fun _ => trivial, fun _ _ _ _ _ => trivial, fun _ _ _ _ _ h => h, fun _ x s h => ?_, fun _ => rfl, fun _ => rfl⟩
  show litV W (x ^^^ 1) = (!s).toNat
  have h' : litV W x = s.toNat := h
  rw [litV_x1 hW, h']
  cases s <;> rfl
end LVL
