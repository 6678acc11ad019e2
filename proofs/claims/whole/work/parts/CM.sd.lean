/-! the class's divide whole, with its shortcut -/
theorem l_div {a b : Nat} (ha : a < 2 ^ 62) (hb : b < 2 ^ 62) : Int64.ofNat a / Int64.ofNat b = Int64.ofNat (a / b) := by
  have hd : a / b ≤ a := Nat.div_le_self _ _
  apply Int64.toInt_inj.mp
  rw [Int64.toInt_div, Int64.toInt_ofNat_of_lt (by omega), Int64.toInt_ofNat_of_lt (by omega), Int64.toInt_ofNat_of_lt (by omega)]
  rw [Int.tdiv_eq_ediv_of_nonneg (by omega), ← Int.natCast_ediv]
  generalize a / b = q at *
  rw [Int.bmod_def]
  split <;> omega
theorem l_rem {a b : Nat} (ha : a < 2 ^ 62) (hb : b < 2 ^ 62) : Int64.ofNat a - Int64.ofNat a / Int64.ofNat b * Int64.ofNat b = Int64.ofNat (a % b) := by
  rw [l_div ha hb, ← Int64.ofNat_mul]
  have e : a = a % b + a / b * b := by
    have := Nat.mod_add_div a b
    rw [Nat.mul_comm] at this
    exact this.symm
  have e2 : Int64.ofNat a = Int64.ofNat (a % b) + Int64.ofNat (a / b * b) := by
    rw [← Int64.ofNat_add, ← e]
  rw [e2]
  exact Int64.add_sub_cancel _ _
theorem l_z {a : Nat} (ha : a < 2 ^ 62) : Int64.ofNat a = 0 ↔ a = 0 := by
  constructor
  · intro h
    have := congrArg Int64.toInt h
    rw [Int64.toInt_ofNat_of_lt (by omega)] at this
    have z : (0 : Int64).toInt = 0 := rfl
    omega
  · intro h
    rw [h]
    rfl

theorem lc_z {x : Int64} : lg_cmp x 0 = 0 ↔ x = 0 := by
  unfold lg_cmp
  by_cases z : x > 0
  · rw [if_pos z]
    exact ⟨fun q => absurd q (by decide), fun q => absurd z (by rw [q]; decide)⟩
  · rw [if_neg z]
    by_cases y : x = 0
    · rw [if_pos y]
      exact ⟨fun _ => y, fun _ => rfl⟩
    · rw [if_neg y]
      exact ⟨fun q => absurd q (by decide), fun q => absurd q y⟩
def dvN (NX NY : Nat) (x4 : Int32) : Nat := if NY = 0 then (if x4 = 0 then 4294967295 else NX) else (if x4 = 0 then NX / NY else NX % NY)
section SHD
variable {l : Launch} {Gr : zG} {n w : Nat} {d : Nat} {S A : zS} {x4 : Int32} {X Y : Nat → Int32} {Q : Option Value → zS → Prop} {a b NX NY : Nat}
theorem w_divd (hX : NX < 2 ^ 62) (hY : NY < 2 ^ 62) : zMl l Gr (zc n w) 168 M_Logic_divided d [.long (Int64.ofNat NX), .long (Int64.ofNat NY), .int x4] A (fun v A' => v = Int64.ofNat (dvN NX NY x4) ∧ A' = A) := by
  refine e_Logic_divided (b_Logic_divided_0 (fun z => b_Logic_divided_19 (fun y => b_Logic_divided_30 (fun q => z (lc_z.mpr q)) (b_Logic_divided_33 ⟨_, rfl, ?_, rfl⟩)) (fun y => b_Logic_divided_24 (fun q => z (lc_z.mpr q)) (b_Logic_divided_33 ⟨_, rfl, ?_, rfl⟩))) (fun z => b_Logic_divided_6 (fun y => b_Logic_divided_15 (b_Logic_divided_18 ⟨_, rfl, ?_, rfl⟩)) (fun y => b_Logic_divided_11 (b_Logic_divided_18 ⟨_, rfl, ?_, rfl⟩))))
  · have nz : ¬ NY = 0 := fun q => z (lc_z.mpr ((l_z hY).mpr q))
    unfold dvN
    rw [if_neg nz, if_pos y]
    exact l_div hX hY
  · have nz : ¬ NY = 0 := fun q => z (lc_z.mpr ((l_z hY).mpr q))
    unfold dvN
    rw [if_neg nz, if_neg y]
    exact l_rem hX hY
  · unfold dvN
    rw [if_pos ((l_z hY).mp (lc_z.mp z)), if_pos y]
    rfl
  · unfold dvN
    rw [if_pos ((l_z hY).mp (lc_z.mp z)), if_neg y]
theorem dvN_bit {j : Nat} (hw : w ≤ 32) (hj : j < w) : (dvN NX NY x4).testBit j = if x4 = 0 then (dvq NX NY w).testBit j else (dvr NX NY 0).testBit j := by
  unfold dvN dvq dvr
  by_cases z : NY = 0
  · rw [if_pos z, if_pos z, if_pos z]
    by_cases y : x4 = 0
    · rw [if_pos y, if_pos y, Nat.testBit_two_pow_sub_one, show (4294967295 : Nat) = 2 ^ 32 - 1 from rfl, Nat.testBit_two_pow_sub_one]
      apply decide_eq_decide.mpr
      omega
    · rw [if_neg y, if_neg y, Nat.pow_zero, Nat.div_one]
  · rw [if_neg z, if_neg z, if_neg z]
    by_cases y : x4 = 0
    · rw [if_pos y, if_pos y]
    · rw [if_neg y, if_neg y, Nat.pow_zero, Nat.div_one]
theorem w_divide (hg : ip_gk (lg_tbl, vwCl, Gr)) (hw : w ≤ 32) (ha : a + w ≤ 9682 * w) (hb : b + w ≤ 9682 * w) (hK : KEc S A) (hG : GK S) (hX : ∀ j, j < w → A.1 57 (a + j) = X j) (hY : ∀ j, j < w → A.1 57 (b + j) = Y j) (cX : ∀ j, j < w → CNl (X j)) (cY : ∀ j, j < w → CNl (Y j)) : zMv l Gr (zc n w) 168 M_Logic_divide (d + 4) [.ref 82, .ref 89, .int (nI a), .int (nI b), .int x4] A (fun A' => KEc ((divideP X Y w).1 S).2 A' ∧ FK (fun c j => ((51 ≤ c ∧ c ≤ 54) ∧ j < w + 1) ∨ (c = 57 ∧ a ≤ j ∧ j < a + w)) A A' ∧ ∀ j, j < w → A'.1 57 (a + j) = (if x4 = 0 then ((divideP X Y w).1 S).1.1 j else ((divideP X Y w).1 S).1.2 j)) := by
  have slow := w_div42 (l := l) (n := n) (d := d) (x4 := x4) (Q := fun v A' => v = none ∧ KEc ((divideP X Y w).1 S).2 A' ∧ FK (fun c j => ((51 ≤ c ∧ c ≤ 54) ∧ j < w + 1) ∨ (c = 57 ∧ a ≤ j ∧ j < a + w)) A A' ∧ ∀ j, j < w → A'.1 57 (a + j) = (if x4 = 0 then ((divideP X Y w).1 S).1.1 j else ((divideP X Y w).1 S).1.2 j)) hg hw ha hb hK hG hX hY (fun A' e1 e2 e3 => ⟨rfl, e1, e2, e3⟩)
  refine e_Logic_divide_r89 (b_Logic_divide_r89_0 hg (w_known hw ha hX) (fun v A1 h1 => ?_))
  obtain ⟨e1, h1⟩ := h1
  subst e1
  refine b_Logic_divide_r89_6 (fun _ => slow) (fun z => b_Logic_divide_r89_9 hg (w_known hw hb hY) (fun v2 A2 h2 => ?_))
  obtain ⟨e2, h2⟩ := h2
  subst e2
  refine b_Logic_divide_r89_15 (fun _ => slow) (fun z2 => b_Logic_divide_r89_18 hg (w_numb hw ha hX) (fun v3 A3 h3 => ?_))
  obtain ⟨e3, e3'⟩ := h3
  subst e3
  subst e3'
  refine b_Logic_divide_r89_27 hg (w_numb hw hb hY) (fun v4 A4 h4 => ?_)
  obtain ⟨e4, e4'⟩ := h4
  subst e4
  subst e4'
  have kX := (h1.resolve_left z).2
  have kY := (h2.resolve_left z2).2
  have lX := nvb_lt (xb := xbo X) w 0
  have lY := nvb_lt (xb := xbo Y) w 0
  have p : 2 ^ w ≤ 2 ^ 32 := Nat.pow_le_pow_right (by omega) hw
  have run := c_run (v_divide (V := Vc) SV_c (NX := nvb (xbo X) w 0) (yn := nvb (xbo Y) w 0) (T := S) lX lY (fun j hj => cn_bit cX kX j hj) (fun j hj => cn_bit cY kY j hj))
  refine b_Logic_divide_r89_33 hg (w_divd (by omega) (by omega)) (fun v5 A5 h5 => ?_)
  obtain ⟨e5, e5'⟩ := h5
  subst e5
  subst e5'
  refine b_Logic_divide_r89_38 hg (w_put hw ha hK) (fun A6 h6 => b_Logic_divide_r89_41 ?_)
  refine ⟨rfl, ?_, FK_mo h6.2.1 (by omega), fun j hj => ?_⟩
  · rw [run.1]
    exact h6.1
  · rw [h6.2.2 j hj, dvN_bit hw hj]
    by_cases y : x4 = 0
    · rw [if_pos y, if_pos y]
      exact (run.2.1 j hj).symm
    · rw [if_neg y, if_neg y]
      exact (run.2.2 j hj).symm
end SHD
