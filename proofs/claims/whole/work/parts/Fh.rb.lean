/-! what every binary operator reckons -/
theorem nvb_top (x : Nat → Bool) : ∀ k i, nvb x (k + 1) i = nvb x k i + 2 ^ k * (x (i + k)).toNat
  | 0, i => by
    show (x i).toNat + 2 * 0 = 0 + 2 ^ 0 * (x i).toNat
    rw [Nat.pow_zero, Nat.one_mul]
    omega
  | k + 1, i => by
    have h := nvb_top x k (i + 1)
    show (x i).toNat + 2 * nvb x (k + 1) (i + 1) = (x i).toNat + 2 * nvb x k (i + 1) + 2 ^ (k + 1) * (x (i + (k + 1))).toNat
    rw [h, show i + 1 + k = i + (k + 1) by omega, Nat.pow_succ, Nat.mul_add, Nat.mul_right_comm (2 ^ k) 2, Nat.mul_comm (2 ^ k * _) 2]
    omega
theorem nvb_cg {x y : Nat → Bool} : ∀ k i, (∀ j, i ≤ j → j < i + k → x j = y j) → nvb x k i = nvb y k i
  | 0, _, _ => rfl
  | k + 1, i, h => by
    show (x i).toNat + 2 * nvb x k (i + 1) = (y i).toNat + 2 * nvb y k (i + 1)
    rw [h i (by omega) (by omega), nvb_cg k (i + 1) (fun j q1 q2 => h j (by omega) (by omega))]
/-- the number with its top bit turned -/
def flN (w N : Nat) : Nat := if N < 2 ^ (w - 1) then N + 2 ^ (w - 1) else N - 2 ^ (w - 1)
def flb (w : Nat) (x : Nat → Bool) (j : Nat) : Bool := if j + 1 = w then !x j else x j
theorem nvb_flb {w N : Nat} (hw : 1 ≤ w) (hN : N < 2 ^ w) : nvb (flb w (fun j => N.testBit j)) w 0 = flN w N := by
  obtain ⟨k, rfl⟩ : ∃ k, w = k + 1 := ⟨w - 1, by omega⟩
  have e1 : nvb (flb (k + 1) (fun j => N.testBit j)) k 0 = N % 2 ^ k := by
    rw [nvb_cg (x := flb (k + 1) (fun j => N.testBit j)) (y := fun j => N.testBit j) k 0 (fun j _ q => if_neg (show ¬ j + 1 = k + 1 by omega)), nvb_tb, Nat.pow_zero, Nat.div_one]
  have e2 : flb (k + 1) (fun j => N.testBit j) (0 + k) = !N.testBit k := by
    rw [Nat.zero_add]
    exact if_pos rfl
  rw [nvb_top, e1, e2]
  unfold flN
  show N % 2 ^ k + 2 ^ k * (!N.testBit k).toNat = if N < 2 ^ k then N + 2 ^ k else N - 2 ^ k
  have hp : 0 < 2 ^ k := Nat.two_pow_pos k
  have e3 : N.testBit k = decide (N / 2 ^ k % 2 = 1) := Nat.testBit_eq_decide_div_mod_eq
  rw [Nat.pow_succ] at hN
  by_cases z : N < 2 ^ k
  · rw [if_pos z, e3, Nat.div_eq_of_lt z, Nat.mod_eq_of_lt z]
    show N + 2 ^ k * 1 = _
    omega
  · have d1 : N / 2 ^ k = 1 := by
      have a1 : 1 ≤ N / 2 ^ k := (Nat.le_div_iff_mul_le hp).mpr (by omega)
      have a2 : N / 2 ^ k < 2 := (Nat.div_lt_iff_lt_mul hp).mpr (by omega)
      omega
    have dm := Nat.div_add_mod N (2 ^ k)
    rw [d1, Nat.mul_one] at dm
    rw [if_neg z, e3, d1]
    show N % 2 ^ k + 2 ^ k * 0 = _
    omega
/-- what operator o reckons -/
def bnN (w o NX NY : Nat) : Nat :=
  if o = 1 ∨ o = 3 then NX ||| NY
  else if o = 2 ∨ o = 5 then NX &&& NY
  else if o = 4 then NX ^^^ NY
  else if o = 6 then (if NX = NY then 1 else 0)
  else if o = 7 then (if NX = NY then 0 else 1)
  else if o = 8 then (if flN w NX < flN w NY then 1 else 0)
  else if o = 11 then (if flN w NX < flN w NY then 0 else 1)
  else if o = 9 then (if flN w NY < flN w NX then 0 else 1)
  else if o = 10 then (if flN w NY < flN w NX then 1 else 0)
  else if o = 14 then NX + NY
  else if o = 15 then NX + (2 ^ w - 1 - NY) + 1
  else if o = 16 then NX * NY
  else if o = 17 then dvq NX NY w
  else dvr NX NY 0
section RBN
variable {V : zS → Int32 → Bool → Prop} {Ex : zS → zS → Prop} {T T' : zS} {x y c : Int32} {s t : Bool} {X Y : Nat → Int32} {xb yb : Nat → Bool} {w m o NX NY : Nat}
def bfn (t : Nat) (s u : Bool) : Bool := if t = 0 then s ^^ u else if t = 1 then s && u else s || u
theorem v_bit (h : SV V Ex) {tt : Nat} (hx : V T x s) (hy : V T y t) : cWF V Ex (fun T r => V T r (bfn tt s t)) (bitP tt x y) T := by
  unfold bitP bfn
  by_cases z : tt = 0
  · rw [if_pos z, if_pos z]
    exact cWF_op hx hy (fun T1 v e1 hv => cWF_ret hv)
  · rw [if_neg z, if_neg z]
    by_cases z1 : tt = 1
    · rw [if_pos z1, if_pos z1]
      exact cWF_op hx hy (fun T1 v e1 hv => cWF_ret hv)
    · rw [if_neg z1, if_neg z1]
      exact v_or h hx hy
theorem v_bits (h : SV V Ex) {tt : Nat} : ∀ (k i : Nat) (T : zS), (∀ j, i ≤ j → j < i + k → V T (X j) (xb j)) → (∀ j, i ≤ j → j < i + k → V T (Y j) (yb j)) → cWF V Ex (fun T os => ∀ j, j < k → V T (os.getD j (-2)) (bfn tt (xb (i + j)) (yb (i + j)))) (bitsP tt X Y k i) T
  | 0, _, _, _, _ => cWF_ret (fun j hj => absurd hj (by omega))
  | k + 1, i, T, hX, hY => cWF_seq h (v_bit h (hX i (by omega) (by omega)) (hY i (by omega) (by omega))) (fun T1 v e1 hv => cWF_seq h (v_bits h k (i + 1) T1 (fun j q1 q2 => h.2.2.1 _ _ _ _ e1 (hX j (by omega) (by omega))) (fun j q1 q2 => h.2.2.1 _ _ _ _ e1 (hY j (by omega) (by omega)))) (fun T2 os m2 h2 => cWF_ret (fun j hj => by
      cases j with
      | zero => exact h.2.2.1 _ _ _ _ m2 hv
      | succ j =>
        have := h2 j (by omega)
        rw [show i + 1 + j = i + (j + 1) by omega] at this
        exact this)))
theorem v_flp (h : SV V Ex) (hX : ∀ j, j < w → V T (X j) (xb j)) : ∀ j, 0 ≤ j → j < 0 + w → V T (flp w X j) (flb w xb j) := fun j _ hj => by
  unfold flp flb
  by_cases z : j + 1 = w
  · rw [if_pos z, if_pos z]
    exact h.2.2.2.1 _ _ _ (hX j (by omega))
  · rw [if_neg z, if_neg z]
    exact hX j (by omega)
/-- signed comparing -/
theorem v_lts (h : SV V Ex) (hw : 1 ≤ w) (hNX : NX < 2 ^ w) (hNY : NY < 2 ^ w) (hX : ∀ j, j < w → V T (X j) (NX.testBit j)) (hY : ∀ j, j < w → V T (Y j) (NY.testBit j)) : cWF V Ex (fun T r => V T r (decide (flN w NX < flN w NY))) (lessP (flp w X) (flp w Y) w 0 (-1)) T := by
  refine cWF_imp (fun T1 r hr => ?_) (v_less h w 0 (-1) true T (v_flp h hX) (v_flp h hY) (h.2.2.2.2.1 T))
  have e1 := nvb_flb hw hNX
  have e2 := nvb_flb hw hNY
  have e3 := nvb_not (yb := flb w (fun j => NY.testBit j)) w 0
  rw [e1] at hr
  rw [e2] at e3
  have e : (!decide (2 ^ w ≤ flN w NX + nvb (fun j => !flb w (fun j => NY.testBit j) j) w 0 + true.toNat)) = decide (flN w NX < flN w NY) := by
    rw [← decide_not]
    apply decide_eq_decide.mpr
    show ¬ 2 ^ w ≤ flN w NX + nvb (fun j => !flb w (fun j => NY.testBit j) j) w 0 + 1 ↔ _
    omega
  rw [e] at hr
  exact hr
theorem tb_01 (b : Bool) (j : Nat) : (if b = true then 1 else 0 : Nat).testBit j = (if j = 0 then b else false) := by
  cases j with
  | zero => cases b <;> rfl
  | succ j =>
    have e : (if j + 1 = 0 then b else false) = false := if_neg (by omega)
    rw [e]
    cases b
    · exact Nat.zero_testBit _
    · rw [if_pos rfl, Nat.testBit_succ]
      exact Nat.zero_testBit _
theorem v_b1f (h : SV V Ex) {v : Int32} {b : Bool} (hv : V T v b) (j : Nat) : V T (b1f v j) ((if b = true then 1 else 0 : Nat).testBit j) := by
  rw [tb_01]
  unfold b1f
  by_cases z : j = 0
  · rw [if_pos z, if_pos z]
    exact hv
  · rw [if_neg z, if_neg z]
    exact h.2.2.2.2.2 T
end RBN
