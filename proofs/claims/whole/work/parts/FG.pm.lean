/-! what parity means, for masks below 2 ^ 16 -/
theorem and_nn {a b : Nat} (ha : a < 2 ^ 32) (hb : b < 2 ^ 32) : nI a &&& nI b = nI (a &&& b) := by
  apply Int32.toBitVec_inj.mp
  rw [Int32.toBitVec_and]
  apply BitVec.eq_of_toNat_eq
  rw [BitVec.toNat_and]
  show (a % 2 ^ 32 &&& b % 2 ^ 32) = (a &&& b) % 2 ^ 32
  rw [Nat.mod_eq_of_lt ha, Nat.mod_eq_of_lt hb, Nat.mod_eq_of_lt (Nat.lt_of_le_of_lt Nat.and_le_left ha)]
def shU (x k : Int32) : Int32 := (((x : Int32)).toUInt32 >>> (((k : Int32)).toUInt32 &&& Int32.toUInt32 31)).toInt32
theorem shU_n {a k : Nat} (ha : a < 2 ^ 32) (hk : k < 32) : shU (nI a) (nI k) = nI (a / 2 ^ k) := by
  unfold shU
  have hs : ((((nI k) : Int32)).toUInt32 &&& Int32.toUInt32 31) = UInt32.ofNat k := (show ∀ j, j < 32 → ((((nI j) : Int32)).toUInt32 &&& Int32.toUInt32 31) = UInt32.ofNat j by decide +kernel) k hk
  rw [hs]
  apply Int32.toBitVec_inj.mp
  apply BitVec.eq_of_toNat_eq
  show ((nI a).toUInt32 >>> UInt32.ofNat k).toBitVec.toNat = (a / 2 ^ k) % 2 ^ 32
  rw [UInt32.toBitVec_shiftRight]
  have e : ((UInt32.ofNat k).toBitVec % 32#32).toNat = k := by
    show (k % 4294967296) % 32 = k
    omega
  rw [BitVec.ushiftRight_eq', BitVec.toNat_ushiftRight]
  have e2 : ((nI a).toUInt32.toBitVec).toNat = a := by
    show a % 2 ^ 32 = a
    omega
  rw [e2, show (UInt32.ofNat k).toBitVec % 32 = (UInt32.ofNat k).toBitVec % 32#32 from rfl, e, Nat.shiftRight_eq_div_pow]
  exact (Nat.mod_eq_of_lt (Nat.lt_of_le_of_lt (Nat.div_le_self _ _) ha)).symm
theorem sub_nn {a b : Nat} (h : b ≤ a) : nI a - nI b = nI (a - b) := by
  have e := nI_subb (a - b) b
  rw [show a - b + b = a by omega] at e
  exact e
def bN1 (x : Nat) : Nat := x - (x / 2 ^ 1 &&& 1431655765)
def bN2 (y : Nat) : Nat := (y &&& 858993459) + (y / 2 ^ 2 &&& 858993459)
def bN3 (z : Nat) : Nat := (z + z / 2 ^ 4) &&& 252645135
def bN4 (u : Nat) : Nat := u + u / 2 ^ 8
def bN5 (v : Nat) : Nat := (v + v / 2 ^ 16) &&& 63
def iS1 (x : Int32) : Int32 := x - (shU x 1 &&& 1431655765)
def iS2 (y : Int32) : Int32 := (y &&& 858993459) + (shU y 2 &&& 858993459)
def iS3 (z : Int32) : Int32 := (z + shU z 4) &&& 252645135
def iS4 (u : Int32) : Int32 := u + shU u 8
def iS5 (v : Int32) : Int32 := (v + shU v 16) &&& 63
theorem bcI_st (x : Int32) : bcI x = iS5 (iS4 (iS3 (iS2 (iS1 x)))) := rfl
theorem bcI_n {x : Nat} (hx : x < 65536) : bcI (nI x) = nI (bN5 (bN4 (bN3 (bN2 (bN1 x))))) := by
  have h1 : bN1 x < 65536 := by unfold bN1; omega
  have e1 : nI x - (shU (nI x) 1 &&& 1431655765) = nI (bN1 x) := by
    rw [show shU (nI x) 1 = nI (x / 2 ^ 1) from shU_n (by omega) (by decide), show (1431655765 : Int32) = nI 1431655765 from rfl, and_nn (by omega) (by omega)]
    refine sub_nn ?_
    have := @Nat.and_le_left (x / 2 ^ 1) 1431655765
    omega
  have g2 : bN2 (bN1 x) < 131072 := by
    unfold bN2
    have a := @Nat.and_le_left (bN1 x) 858993459
    have b := @Nat.and_le_left (bN1 x / 2 ^ 2) 858993459
    omega
  have e2 : (nI (bN1 x) &&& 858993459) + (shU (nI (bN1 x)) 2 &&& 858993459) = nI (bN2 (bN1 x)) := by
    rw [show shU (nI (bN1 x)) 2 = nI (bN1 x / 2 ^ 2) from shU_n (by omega) (by decide), show (858993459 : Int32) = nI 858993459 from rfl, and_nn (by omega) (by omega), and_nn (by omega) (by omega)]
    exact nI_add _ _
  have g3 : bN3 (bN2 (bN1 x)) < 300000 := by
    have a := @Nat.and_le_left (bN2 (bN1 x) + bN2 (bN1 x) / 2 ^ 4) 252645135
    unfold bN3
    omega
  have e3 : (nI (bN2 (bN1 x)) + shU (nI (bN2 (bN1 x))) 4) &&& 252645135 = nI (bN3 (bN2 (bN1 x))) := by
    rw [show shU (nI (bN2 (bN1 x))) 4 = nI (bN2 (bN1 x) / 2 ^ 4) from shU_n (by omega) (by decide), nI_add, show (252645135 : Int32) = nI 252645135 from rfl, and_nn (by omega) (by omega)]
    rfl
  have g4 : bN4 (bN3 (bN2 (bN1 x))) < 600000 := by
    unfold bN4
    omega
  have e4 : nI (bN3 (bN2 (bN1 x))) + shU (nI (bN3 (bN2 (bN1 x)))) 8 = nI (bN4 (bN3 (bN2 (bN1 x)))) := by
    rw [show shU (nI (bN3 (bN2 (bN1 x)))) 8 = nI (bN3 (bN2 (bN1 x)) / 2 ^ 8) from shU_n (by omega) (by decide)]
    exact nI_add _ _
  have e5 : (nI (bN4 (bN3 (bN2 (bN1 x)))) + shU (nI (bN4 (bN3 (bN2 (bN1 x))))) 16) &&& 63 = nI (bN5 (bN4 (bN3 (bN2 (bN1 x))))) := by
    rw [show shU (nI (bN4 (bN3 (bN2 (bN1 x))))) 16 = nI (bN4 (bN3 (bN2 (bN1 x))) / 2 ^ 16) from shU_n (by omega) (by decide), nI_add, show (63 : Int32) = nI 63 from rfl, and_nn (by omega) (by omega)]
    rfl
  rw [bcI_st, show iS1 (nI x) = nI (bN1 x) from e1, show iS2 (nI (bN1 x)) = _ from e2, show iS3 (nI (bN2 (bN1 x))) = _ from e3, show iS4 (nI (bN3 (bN2 (bN1 x)))) = _ from e4]
  exact e5
/-- the number of 1s among 16 bits, odd or even -/
def pb16 (x : Nat) : Nat := (x + x / 2 + x / 4 + x / 8 + x / 16 + x / 32 + x / 64 + x / 128 + x / 256 + x / 512 + x / 1024 + x / 2048 + x / 4096 + x / 8192 + x / 16384 + x / 32768) % 2
def pbT (x : Nat) : Bool := Nat.beq (bN5 (bN4 (bN3 (bN2 (bN1 x)))) % 2) (pb16 x)
def pbL (f : Nat → Bool) : Nat → Bool
  | 0 => true
  | k + 1 => (f k).and (pbL f k)
theorem pbL_at {f : Nat → Bool} : ∀ {m : Nat}, pbL f m = true → ∀ k, k < m → f k = true
  | 0, _, k, hk => absurd hk (Nat.not_lt_zero _)
  | m + 1, h, k, hk => by
    have h' : (f m && pbL f m) = true := h
    rw [Bool.and_eq_true] at h'
    by_cases z : k = m
    · rw [z]
      exact h'.1
    · exact pbL_at h'.2 k (by omega)
theorem pb_all : pbL (fun a => pbL (fun b => pbT (256 * a + b)) 256) 256 = true := by decide +kernel
theorem par_16 {x : Nat} (hx : x < 65536) : par (nI x) = nI (pb16 x) := by
  have h := pbL_at (pbL_at pb_all (x / 256) (by omega)) (x % 256) (by omega)
  have e : 256 * (x / 256) + x % 256 = x := by omega
  have h2 : bN5 (bN4 (bN3 (bN2 (bN1 x)))) % 2 = pb16 x := by
    have h3 : pbT (256 * (x / 256) + x % 256) = true := h
    rw [e] at h3
    exact Nat.eq_of_beq_eq_true h3
  unfold par
  rw [bcI_n hx]
  have := nI_odd (bN5 (bN4 (bN3 (bN2 (bN1 x)))))
  rw [this, h2]
