/-! what the other programs reckon -/
section RLE
variable {α : Type} {V : zS → Int32 → Bool → Prop} {Ex : zS → zS → Prop} {T T' : zS} {x y c : Int32} {s t : Bool} {X Y E : Nat → Int32} {xb yb eb : Nat → Bool} {w m : Nat}
theorem v_less (h : SV V Ex) : ∀ (k i : Nat) (c : Int32) (cb : Bool) (T : zS), (∀ j, i ≤ j → j < i + k → V T (X j) (xb j)) → (∀ j, i ≤ j → j < i + k → V T (Y j) (yb j)) → V T c cb → cWF V Ex (fun T r => V T r (!decide (2 ^ k ≤ nvb xb k i + nvb (fun j => !yb j) k i + cb.toNat))) (lessP X Y k i c) T
  | 0, i, c, cb, T, hX, hY, hc => cWF_ret (by
      have e : decide (2 ^ 0 ≤ nvb xb 0 i + nvb (fun j => !yb j) 0 i + cb.toNat) = cb := by
        show decide (1 ≤ 0 + 0 + cb.toNat) = cb
        cases cb <;> rfl
      rw [e]
      exact h.2.2.2.1 _ _ _ hc)
  | k + 1, i, c, cb, T, hX, hY, hc => cWF_op (h.2.2.2.1 _ _ _ (hY i (by omega) (by omega))) hc (fun T1 t e1 ht => cWF_op (h.2.2.1 _ _ _ _ e1 (hX i (by omega) (by omega))) (h.2.2.1 _ _ _ _ e1 hc) (fun T2 u e2 hu => cWF_op hu (h.2.2.1 _ _ _ _ e2 ht) (fun T3 v e3 hv => cWF_op (h.2.2.1 _ _ _ _ e3 (h.2.2.1 _ _ _ _ e2 (h.2.2.1 _ _ _ _ e1 hc))) hv (fun T4 c' e4 hc' => by
      have e : Ex T T4 := h.2.1 _ _ _ e1 (h.2.1 _ _ _ e2 (h.2.1 _ _ _ e3 e4))
      refine cWF_imp (fun T5 r hr => ?_) (v_less h k (i + 1) c' _ T4 (fun j q1 q2 => h.2.2.1 _ _ _ _ e (hX j (by omega) (by omega))) (fun j q1 q2 => h.2.2.1 _ _ _ _ e (hY j (by omega) (by omega))) hc')
      have ea := ca0 (xb i) (!yb i) cb (nvb xb k (i + 1)) (nvb (fun j => !yb j) k (i + 1)) (2 ^ k)
      rw [ea, ← Nat.pow_succ] at hr
      exact hr))))
theorem v_xnor (h : SV V Ex) : ∀ (k i : Nat) (T : zS), (∀ j, i ≤ j → j < i + k → V T (X j) (xb j)) → (∀ j, i ≤ j → j < i + k → V T (Y j) (yb j)) → cWF V Ex (fun T os => ∀ j, j < k → V T (os.getD j (-2)) (!(xb (i + j) ^^ yb (i + j)))) (xnorP X Y k i) T
  | 0, _, _, _, _ => cWF_ret (fun j hj => absurd hj (by omega))
  | k + 1, i, T, hX, hY => cWF_op (hX i (by omega) (by omega)) (hY i (by omega) (by omega)) (fun T1 v e1 hv => cWF_seq h (v_xnor h k (i + 1) T1 (fun j q1 q2 => h.2.2.1 _ _ _ _ e1 (hX j (by omega) (by omega))) (fun j q1 q2 => h.2.2.1 _ _ _ _ e1 (hY j (by omega) (by omega)))) (fun T2 os m2 h2 => cWF_ret (fun j hj => by
      cases j with
      | zero => exact h.2.2.2.1 _ _ _ (h.2.2.1 _ _ _ _ m2 hv)
      | succ j =>
        have := h2 j (by omega)
        rw [show i + 1 + j = i + (j + 1) by omega] at this
        exact this)))
theorem v_pair (h : SV V Ex) : ∀ (r i : Nat) (T : zS), (∀ j, i ≤ j → j < i + r → V T (E j) (eb j)) → cWF V Ex (fun T os => ∀ j, j < (r + 1) / 2 → V T (os.getD j (-2)) (eb (i + 2 * j) && (if 2 * j + 1 < r then eb (i + 2 * j + 1) else true))) (pairP E r i) T
  | 0, _, _, _ => cWF_ret (fun j hj => absurd hj (by omega))
  | 1, i, T, hE => cWF_ret (fun j hj => by
      have e : j = 0 := by omega
      rw [e, if_neg (by omega)]
      show V T (E i) (eb i && true)
      rw [Bool.and_true]
      exact hE i (by omega) (by omega))
  | r + 2, i, T, hE => cWF_op (hE i (by omega) (by omega)) (hE (i + 1) (by omega) (by omega)) (fun T1 v e1 hv => cWF_seq h (v_pair h r (i + 2) T1 (fun j q1 q2 => h.2.2.1 _ _ _ _ e1 (hE j (by omega) (by omega)))) (fun T2 os m2 h2 => cWF_ret (fun j hj => by
      cases j with
      | zero =>
        rw [if_pos (by omega)]
        exact h.2.2.1 _ _ _ _ m2 hv
      | succ j =>
        have q := h2 j (by omega)
        rw [show i + 2 * (j + 1) = i + 2 + 2 * j by omega]
        by_cases z : 2 * j + 1 < r
        · rw [if_pos z] at q
          rw [if_pos (by omega)]
          exact q
        · rw [if_neg z] at q
          rw [if_neg (by omega)]
          exact q)))
theorem v_all (h : SV V Ex) : ∀ (f m : Nat) (E : Nat → Int32) (eb : Nat → Bool) (r : Bool) (T : zS), 1 ≤ m → m ≤ f + 1 → (∀ j, j < m → V T (E j) (eb j)) → (r = true ↔ ∀ j, j < m → eb j = true) → cWF V Ex (fun T v => V T v r) (allP f m E) T
  | 0, m, E, eb, r, T, h1, hm, hE, hr => cWF_ret (by
      have e : m = 1 := by omega
      have er : r = eb 0 := by
        apply Bool.eq_iff_iff.mpr
        rw [hr]
        exact ⟨fun q => q 0 (by omega), fun q j hj => by rw [show j = 0 by omega]; exact q⟩
      rw [er]
      exact hE 0 (by omega))
  | f + 1, m, E, eb, r, T, h1, hm, hE, hr => by
    by_cases z : m ≤ 1
    · have ep : allP (f + 1) m E = cRet (E 0) := if_pos z
      rw [ep]
      refine cWF_ret ?_
      have er : r = eb 0 := by
        apply Bool.eq_iff_iff.mpr
        rw [hr]
        exact ⟨fun q => q 0 (by omega), fun q j hj => by rw [show j = 0 by omega]; exact q⟩
      rw [er]
      exact hE 0 (by omega)
    · have ep : allP (f + 1) m E = cBind (pairP E m 0) fun os => allP f ((m + 1) / 2) (fun j => os.getD j (-2)) := if_neg z
      rw [ep]
      refine cWF_seq h (v_pair (eb := eb) h m 0 T (fun j _ q => hE j (by omega))) (fun T1 os e1 h1' => v_all h f ((m + 1) / 2) _ (fun j => eb (0 + 2 * j) && (if 2 * j + 1 < m then eb (0 + 2 * j + 1) else true)) r T1 (by omega) (by omega) h1' ?_)
      rw [hr]
      constructor
      · intro q j hj
        show (eb (0 + 2 * j) && (if 2 * j + 1 < m then eb (0 + 2 * j + 1) else true)) = true
        rw [Nat.zero_add, q (2 * j) (by omega), Bool.true_and]
        split
        · next y => exact q (2 * j + 1) y
        · rfl
      · intro q j hj
        have q' : (eb (0 + 2 * (j / 2)) && (if 2 * (j / 2) + 1 < m then eb (0 + 2 * (j / 2) + 1) else true)) = true := q (j / 2) (by omega)
        rw [Nat.zero_add, Bool.and_eq_true] at q'
        have h2 : j % 2 = 0 ∨ j % 2 = 1 := by omega
        rcases h2 with e | e
        · rw [show j = 2 * (j / 2) by omega]
          exact q'.1
        · have q2 := q'.2
          rw [if_pos (by omega)] at q2
          rw [show j = 2 * (j / 2) + 1 by omega]
          exact q2
theorem v_eq (h : SV V Ex) {r : Bool} (h1 : 1 ≤ m) (hX : ∀ j, j < m → V T (X j) (xb j)) (hY : ∀ j, j < m → V T (Y j) (yb j)) (hr : r = true ↔ ∀ j, j < m → xb j = yb j) : cWF V Ex (fun T v => V T v r) (eqP X Y m) T := by
  refine cWF_seq h (v_xnor h m 0 T (fun j _ q => hX j (by omega)) (fun j _ q => hY j (by omega))) (fun T1 os e1 h2 => v_all h m m _ (fun j => !(xb (0 + j) ^^ yb (0 + j))) r T1 h1 (by omega) h2 ?_)
  rw [hr]
  constructor
  · intro q j hj
    show (!(xb (0 + j) ^^ yb (0 + j))) = true
    rw [Nat.zero_add, q j hj]
    cases yb j <;> rfl
  · intro q j hj
    have q' : (!(xb (0 + j) ^^ yb (0 + j))) = true := q j hj
    rw [Nat.zero_add] at q'
    revert q'
    cases xb j <;> cases yb j <;> simp
theorem v_bitC (h : SV V Ex) (v j : Nat) : V T (bitC v j) (v.testBit j) := by
  unfold bitC
  have e : v.testBit j = decide (v / 2 ^ j % 2 = 1) := Nat.testBit_eq_decide_div_mod_eq
  rw [e]
  by_cases z : v / 2 ^ j % 2 = 1
  · rw [if_pos z, decide_eq_true z]
    exact h.2.2.2.2.1 T
  · rw [if_neg z, decide_eq_false z]
    exact h.2.2.2.2.2 T
theorem v_idx (h : SV V Ex) {NX v : Nat} (hw : 1 ≤ w) (hN : NX < 2 ^ w) (hX : ∀ j, j < w → V T (X j) (NX.testBit j)) : cWF V Ex (fun T r => V T r (decide (NX = v))) (idxP X v w) T := by
  unfold idxP
  by_cases z : v < 2 ^ w
  · rw [if_pos z]
    refine v_eq h hw hX (fun j _ => v_bitC h v j) ?_
    rw [decide_eq_true_iff]
    constructor
    · intro q j _
      rw [q]
    · intro q
      refine Nat.eq_of_testBit_eq (fun j => ?_)
      by_cases y : j < w
      · exact q j y
      · have e1 : 2 ^ w ≤ 2 ^ j := Nat.pow_le_pow_right (by omega) (by omega)
        rw [Nat.testBit_lt_two_pow (by omega), Nat.testBit_lt_two_pow (by omega)]
  · rw [if_neg z, decide_eq_false (by omega)]
    exact cWF_ret (h.2.2.2.2.2 T)
theorem v_or (h : SV V Ex) (hx : V T x s) (hy : V T y t) : cWF V Ex (fun T r => V T r (s || t)) (orP x y) T :=
  cWF_op (h.2.2.2.1 _ _ _ hx) (h.2.2.2.1 _ _ _ hy) (fun T1 v e1 hv => cWF_ret (by
    have q := h.2.2.2.1 _ _ _ hv
    have e : (!bop true (!s) (!t)) = (s || t) := by cases s <;> cases t <;> rfl
    rw [e] at q
    exact q))
end RLE
