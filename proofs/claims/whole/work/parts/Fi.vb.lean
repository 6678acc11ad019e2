/-! binP's meaning -/
section VBN
variable {V : zS → Int32 → Bool → Prop} {Ex : zS → zS → Prop} {T : zS} {X Y : Nat → Int32} {w m o NX NY tt : Nat}
theorem vb_A (h : SV V Ex) {F : Nat → Nat → Nat} (hF : ∀ a b j, (F a b).testBit j = bfn tt (a.testBit j) (b.testBit j)) (hX : ∀ j, j < m → V T (X j) (NX.testBit j)) (hY : ∀ j, j < m → V T (Y j) (NY.testBit j)) : cWF V Ex (fun T f => ∀ j, j < m → V T (f j) ((F NX NY).testBit j)) (cBind (bitsP tt X Y m 0) fun os => cRet (lf os)) T :=
  cWF_seq h (v_bits (tt := tt) h m 0 T (fun j _ q => hX j (by omega)) (fun j _ q => hY j (by omega))) (fun T1 os e1 h1 => cWF_ret (fun j hj => by
    have q := h1 j hj
    rw [Nat.zero_add] at q
    rw [hF]
    exact q))
theorem eq_bits {a b k : Nat} (ha : a < 2 ^ k) (hb : b < 2 ^ k) : a = b ↔ ∀ j, j < k → a.testBit j = b.testBit j := by
  constructor
  · intro q j _
    rw [q]
  · intro q
    refine Nat.eq_of_testBit_eq (fun j => ?_)
    by_cases y : j < k
    · exact q j y
    · have e1 : 2 ^ k ≤ 2 ^ j := Nat.pow_le_pow_right (by omega) (by omega)
      rw [Nat.testBit_lt_two_pow (by omega), Nat.testBit_lt_two_pow (by omega)]
theorem vb_1 (h : SV V Ex) {p : CP Int32} {b : Bool} (hp : cWF V Ex (fun T v => V T v b) p T) : cWF V Ex (fun T f => ∀ j, V T (f j) ((if b = true then 1 else 0 : Nat).testBit j)) (cBind p fun v => cRet (b1f (v ^^^ 0))) T :=
  cWF_seq h hp (fun T1 v e1 hv => cWF_ret (fun j => by
    rw [show v ^^^ 0 = v from Int32.xor_zero]
    exact v_b1f h hv j))
theorem vb_0 (h : SV V Ex) {p : CP Int32} {b : Bool} (hp : cWF V Ex (fun T v => V T v b) p T) : cWF V Ex (fun T f => ∀ j, V T (f j) ((if b = true then 0 else 1 : Nat).testBit j)) (cBind p fun v => cRet (b1f (v ^^^ 1))) T :=
  cWF_seq h hp (fun T1 v e1 hv => cWF_ret (fun j => by
    have q := v_b1f h (h.2.2.2.1 _ _ _ hv) j
    have e : (if (!b) = true then 1 else 0 : Nat) = (if b = true then 0 else 1 : Nat) := by cases b <;> rfl
    rw [e] at q
    exact q))
theorem nvb_w {N : Nat} (hN : N < 2 ^ w) : nvb (fun j => N.testBit j) w 0 = N := by
  rw [nvb_tb, Nat.pow_zero, Nat.div_one, Nat.mod_eq_of_lt hN]
theorem de_if (P : Prop) [Decidable P] (a b : Nat) : (if decide P = true then a else b) = if P then a else b := by
  by_cases z : P
  · rw [if_pos (decide_eq_true z), if_pos z]
  · rw [if_neg (by rw [decide_eq_false z]; decide), if_neg z]
/-- every binary operator but shifts -/
theorem v_bin (h : SV V Ex) (hw : 1 ≤ w) (hm : 1 ≤ m) (hNX : NX < 2 ^ m) (hNY : NY < 2 ^ m) (ho : o ≤ 18) (ho1 : 1 ≤ o) (ho2 : ¬ o = 12) (ho3 : ¬ o = 13) (hmw : 8 ≤ o → m = w) (hX : ∀ j, j < m → V T (X j) (NX.testBit j)) (hY : ∀ j, j < m → V T (Y j) (NY.testBit j)) : cWF V Ex (fun T f => ∀ j, j < (if 6 ≤ o ∧ o ≤ 11 then 1 else m) → V T (f j) ((bnN w o NX NY).testBit j)) (binP w m o X Y) T := by
  have eqv : ∀ {T : zS}, (∀ j, j < m → V T (X j) (NX.testBit j)) → (∀ j, j < m → V T (Y j) (NY.testBit j)) → cWF V Ex (fun T v => V T v (decide (NX = NY))) (eqP X Y m) T := fun hX hY => v_eq h hm hX hY (by rw [decide_eq_true_iff]; exact eq_bits hNX hNY)
  have lt1 : m = w → cWF V Ex (fun T v => V T v (decide (flN w NX < flN w NY))) (lessP (flp w X) (flp w Y) w 0 (-1)) T := fun e => by
    subst e
    exact v_lts h hw hNX hNY hX hY
  have lt2 : m = w → cWF V Ex (fun T v => V T v (decide (flN w NY < flN w NX))) (lessP (flp w Y) (flp w X) w 0 (-1)) T := fun e => by
    subst e
    exact v_lts h hw hNY hNX hY hX
  match o, ho, ho1, ho2, ho3, hmw with
  | 1, _, _, _, _, _ => exact vb_A (F := fun a b => a ||| b) (tt := 2) h (fun a b j => Nat.testBit_or a b j) hX hY
  | 2, _, _, _, _, _ => exact vb_A (F := fun a b => a &&& b) (tt := 1) h (fun a b j => Nat.testBit_and a b j) hX hY
  | 3, _, _, _, _, _ => exact vb_A (F := fun a b => a ||| b) (tt := 2) h (fun a b j => Nat.testBit_or a b j) hX hY
  | 4, _, _, _, _, _ => exact vb_A (F := fun a b => a ^^^ b) (tt := 0) h (fun a b j => Nat.testBit_xor a b j) hX hY
  | 5, _, _, _, _, _ => exact vb_A (F := fun a b => a &&& b) (tt := 1) h (fun a b j => Nat.testBit_and a b j) hX hY
  | 6, _, _, _, _, _ => exact cWF_imp (fun T1 f q j _ => by have q' := q j; rw [de_if] at q'; exact q') (vb_1 h (eqv hX hY))
  | 7, _, _, _, _, _ => exact cWF_imp (fun T1 f q j _ => by have q' := q j; rw [de_if] at q'; exact q') (vb_0 h (eqv hX hY))
  | 8, _, _, _, _, e => exact cWF_imp (fun T1 f q j _ => by have q' := q j; rw [de_if] at q'; exact q') (vb_1 h (lt1 (e (by omega))))
  | 9, _, _, _, _, e => exact cWF_imp (fun T1 f q j _ => by have q' := q j; rw [de_if] at q'; exact q') (vb_0 h (lt2 (e (by omega))))
  | 10, _, _, _, _, e => exact cWF_imp (fun T1 f q j _ => by have q' := q j; rw [de_if] at q'; exact q') (vb_1 h (lt2 (e (by omega))))
  | 11, _, _, _, _, e => exact cWF_imp (fun T1 f q j _ => by have q' := q j; rw [de_if] at q'; exact q') (vb_0 h (lt1 (e (by omega))))
  | 12, _, _, e, _, _ => exact absurd rfl e
  | 13, _, _, _, e, _ => exact absurd rfl e
  | 14, _, _, _, _, e =>
    have em := e (by omega)
    subst em
    refine cWF_seq h (v_sum h m 0 (-2) false T (fun j _ q => hX j (by omega)) (fun j _ q => hY j (by omega)) (h.2.2.2.2.2 T)) (fun T1 os e1 h1 => cWF_ret (fun j hj => ?_))
    have q := h1 j hj
    rw [nvb_w hNX, nvb_w hNY] at q
    exact q
  | 15, _, _, _, _, e =>
    have em := e (by omega)
    subst em
    refine cWF_seq h (v_sum h m 0 (-1) true T (fun j _ q => hX j (by omega)) (fun j _ q => h.2.2.2.1 _ _ _ (hY j (by omega))) (h.2.2.2.2.1 T)) (fun T1 os e1 h1 => cWF_ret (fun j hj => ?_))
    have q := h1 j hj
    have e3 := nvb_not (yb := fun j => NY.testBit j) m 0
    rw [nvb_w hNY] at e3
    have e4 : nvb (fun j => !NY.testBit j) m 0 = 2 ^ m - 1 - NY := by omega
    rw [nvb_w hNX, e4] at q
    exact q
  | 16, _, _, _, _, e =>
    have em := e (by omega)
    subst em
    exact v_times h hw hX hY
  | 17, _, _, _, _, e =>
    have em := e (by omega)
    subst em
    show cWF V Ex (fun T f => ∀ j, j < m → V T (f j) ((dvq NX NY m).testBit j)) (cBind (divideP X Y m) fun r => cRet r.1) T
    exact cWF_seq h (v_divide h hNX hNY hX hY) (fun T1 r e1 h1 => cWF_ret (fun j hj => h1.1 j hj))
  | 18, _, _, _, _, e =>
    have em := e (by omega)
    subst em
    show cWF V Ex (fun T f => ∀ j, j < m → V T (f j) ((dvr NX NY 0).testBit j)) (cBind (divideP X Y m) fun r => cRet r.2) T
    exact cWF_seq h (v_divide h hNX hNY hX hY) (fun T1 r e1 h1 => cWF_ret (fun j hj => h1.2 j hj))
  | k + 19, e, _, _, _, _ => exact absurd e (by omega)
end VBN
