/-! what divide reckons -/
theorem dv_r {m b y : Nat} (hy : 0 < y) (hb : b ≤ 1) : (2 * m + b) % y = if y ≤ 2 * (m % y) + b then 2 * (m % y) + b - y else 2 * (m % y) + b := by
  have h := Nat.mod_lt m hy
  have e : 2 * m + b = (2 * (m % y) + b) + y * (2 * (m / y)) := by
    have := Nat.mod_add_div m y
    have e2 : y * (2 * (m / y)) = 2 * (y * (m / y)) := Nat.mul_left_comm _ _ _
    omega
  rw [e, Nat.add_mul_mod_self_left]
  split
  · rw [Nat.mod_eq_sub_mod (by assumption), Nat.mod_eq_of_lt (by omega)]
  · rw [Nat.mod_eq_of_lt (by omega)]
theorem dv_q {m b y : Nat} (hy : 0 < y) (hb : b ≤ 1) : (2 * m + b) / y % 2 = if y ≤ 2 * (m % y) + b then 1 else 0 := by
  have h := Nat.mod_lt m hy
  have e : 2 * m + b = (2 * (m % y) + b) + y * (2 * (m / y)) := by
    have := Nat.mod_add_div m y
    have e2 : y * (2 * (m / y)) = 2 * (y * (m / y)) := Nat.mul_left_comm _ _ _
    omega
  rw [e, Nat.add_mul_div_left _ _ hy]
  split
  · rw [Nat.div_eq_sub_div hy (by assumption), Nat.div_eq_of_lt (a := 2 * (m % y) + b - y) (by omega)]
    omega
  · rw [Nat.div_eq_of_lt (a := 2 * (m % y) + b) (by omega)]
    omega

theorem nvb_not {yb : Nat → Bool} : ∀ (k i : Nat), nvb (fun j => !yb j) k i + nvb yb k i + 1 = 2 ^ k
  | 0, _ => rfl
  | k + 1, i => by
    have e1 : nvb (fun j => !yb j) (k + 1) i = (!yb i).toNat + 2 * nvb (fun j => !yb j) k (i + 1) := rfl
    have e2 : nvb yb (k + 1) i = (yb i).toNat + 2 * nvb yb k (i + 1) := rfl
    have := nvb_not (yb := yb) k (i + 1)
    rw [e1, e2, Nat.pow_succ]
    cases yb i <;> simp <;> omega
/-- the carry out of one bit -/
theorem ca0 (x y c : Bool) (A B P : Nat) : decide (P ≤ A + B + (bop false c (bop true (bop false x c) (bop false y c))).toNat) = decide (P * 2 ≤ x.toNat + 2 * A + (y.toNat + 2 * B) + c.toNat) := by
  apply decide_eq_decide.mpr
  cases x <;> cases y <;> cases c <;> simp [bop] <;> omega
theorem ca1 (x y c : Bool) : bop false c (bop true (bop false x c) (bop false y c)) = decide (2 ^ 1 ≤ x.toNat + 2 * 0 + (y.toNat + 2 * 0) + c.toNat) := by
  cases x <;> cases y <;> cases c <;> decide
section RDV
variable {V : zS → Int32 → Bool → Prop} {Ex : zS → zS → Prop} {T T' S : zS} {x y c : Int32} {s t b cb : Bool} {D F X Y : Nat → Int32} {db fb yb : Nat → Bool} {w : Nat}
theorem v_tak (h : SV V Ex) : ∀ (k j : Nat) (c : Int32) (cb : Bool) (T : zS), (∀ i, j ≤ i → i ≤ j + k → V T (D i) (db i)) → (∀ i, j ≤ i → i ≤ j + k → V T (Y i) (yb i)) → V T c cb → cWF V Ex (fun T r => V T r.1 (decide (2 ^ (k + 1) ≤ nvb db (k + 1) j + nvb (fun i => !yb i) (k + 1) j + cb.toNat)) ∧ ∀ i, i < k → V T (r.2.getD i (-2)) ((nvb db (k + 1) j + nvb (fun i => !yb i) (k + 1) j + cb.toNat).testBit i)) (takP D Y k j c) T
  | 0, j, c, cb, T, hD, hY, hc => cWF_op (h.2.2.2.1 _ _ _ (hY j (by omega) (by omega))) hc (fun T1 t e1 ht =>
      cWF_op (h.2.2.1 _ _ _ _ e1 (hD j (by omega) (by omega))) (h.2.2.1 _ _ _ _ e1 hc) (fun T2 u e2 hu =>
      cWF_op hu (h.2.2.1 _ _ _ _ e2 ht) (fun T3 v e3 hv =>
      cWF_op (h.2.2.1 _ _ _ _ e3 (h.2.2.1 _ _ _ _ e2 (h.2.2.1 _ _ _ _ e1 hc))) hv (fun T4 c' e4 hc' => cWF_ret ⟨by
        rw [ca1] at hc'
        exact hc', fun i hi => absurd hi (by omega)⟩))))
  | k + 1, j, c, cb, T, hD, hY, hc => cWF_op (h.2.2.2.1 _ _ _ (hY j (by omega) (by omega))) hc (fun T1 t e1 ht =>
      cWF_op (h.2.2.1 _ _ _ _ e1 (hD j (by omega) (by omega))) ht (fun T2 o e2 ho =>
      cWF_op (h.2.2.1 _ _ _ _ e2 (h.2.2.1 _ _ _ _ e1 (hD j (by omega) (by omega)))) (h.2.2.1 _ _ _ _ e2 (h.2.2.1 _ _ _ _ e1 hc)) (fun T3 u e3 hu =>
      cWF_op hu (h.2.2.1 _ _ _ _ e3 (h.2.2.1 _ _ _ _ e2 ht)) (fun T4 v e4 hv =>
      cWF_op (h.2.2.1 _ _ _ _ e4 (h.2.2.1 _ _ _ _ e3 (h.2.2.1 _ _ _ _ e2 (h.2.2.1 _ _ _ _ e1 hc)))) hv (fun T5 c' e5 hc' => by
        have e : Ex T T5 := h.2.1 _ _ _ e1 (h.2.1 _ _ _ e2 (h.2.1 _ _ _ e3 (h.2.1 _ _ _ e4 e5)))
        have ho' := h.2.2.1 _ _ _ _ e5 (h.2.2.1 _ _ _ _ e4 (h.2.2.1 _ _ _ _ e3 ho))
        refine cWF_seq h (v_tak h k (j + 1) c' _ T5 (fun i q1 q2 => h.2.2.1 _ _ _ _ e (hD i (by omega) (by omega))) (fun i q1 q2 => h.2.2.1 _ _ _ _ e (hY i (by omega) (by omega))) hc') (fun T6 r m6 h6 => cWF_ret ⟨?_, fun i hi => ?_⟩)
        · have q := h6.1
          rw [ca0, ← Nat.pow_succ] at q
          exact q
        · show V T6 ((o :: r.2).getD i (-2)) (((db j).toNat + 2 * nvb db (k + 1) (j + 1) + ((!yb j).toNat + 2 * nvb (fun i => !yb i) (k + 1) (j + 1)) + cb.toNat).testBit i)
          cases i with
          | zero =>
            rw [ad0]
            exact h.2.2.1 _ _ _ _ m6 ho'
          | succ i =>
            rw [adS]
            exact h6.2 i (by omega))))))
theorem v_mux (h : SV V Ex) (hc : V T c cb) (hx : V T x s) (hy : V T y t) : cWF V Ex (fun T r => V T r (if cb then s else t)) (muxP c x y) T := cWF_op hx hy (fun T1 a e1 ha => cWF_op (h.2.2.1 _ _ _ _ e1 hc) ha (fun T2 b e2 hb => cWF_op (h.2.2.1 _ _ _ _ e2 (h.2.2.1 _ _ _ _ e1 hy)) hb (fun T3 r e3 hr => cWF_ret (by
  have : bop false t (bop true cb (bop false s t)) = if cb then s else t := by cases cb <;> cases s <;> cases t <;> rfl
  rw [this] at hr
  exact hr))))
theorem v_muxs (h : SV V Ex) : ∀ (k j : Nat) (T : zS), V T c cb → (∀ i, j ≤ i → i < j + k → V T (F i) (fb i)) → (∀ i, j ≤ i → i < j + k → V T (D i) (db i)) → cWF V Ex (fun T os => ∀ i, i < k → V T (os.getD i (-2)) (if cb then fb (j + i) else db (j + i))) (muxsP c F D k j) T
  | 0, _, _, _, _, _ => cWF_ret (fun i hi => absurd hi (by omega))
  | k + 1, j, T, hc, hF, hD => cWF_seq h (v_mux h hc (hF j (by omega) (by omega)) (hD j (by omega) (by omega))) (fun T1 v e1 hv => cWF_seq h (v_muxs h k (j + 1) T1 (h.2.2.1 _ _ _ _ e1 hc) (fun i q1 q2 => h.2.2.1 _ _ _ _ e1 (hF i (by omega) (by omega))) (fun i q1 q2 => h.2.2.1 _ _ _ _ e1 (hD i (by omega) (by omega)))) (fun T2 os m2 h2 => cWF_ret (fun i hi => by
      cases i with
      | zero => exact h.2.2.1 _ _ _ _ m2 hv
      | succ i =>
        have := h2 i (by omega)
        rw [show j + 1 + i = j + (i + 1) by omega] at this
        exact this)))
end RDV
