/-! what programs reckon -/
def nvb (x : Nat → Bool) : Nat → Nat → Nat
  | 0, _ => 0
  | k + 1, i => (x i).toNat + 2 * nvb x k (i + 1)
def bop (b s t : Bool) : Bool := match b with
  | true => s && t
  | false => s ^^ t
theorem tb0 (n : Nat) (b : Bool) (h : n % 2 = b.toNat) : n.testBit 0 = b := by
  rw [Nat.testBit_zero, h]
  cases b <;> decide
theorem tbS (n m j : Nat) (h : n / 2 = m) : n.testBit (j + 1) = m.testBit j := by
  rw [Nat.testBit_succ, h]
/-- one bit of a sum -/
theorem ad0 (x y c : Bool) (A B : Nat) : (x.toNat + 2 * A + (y.toNat + 2 * B) + c.toNat).testBit 0 = bop false x (bop false y c) := by
  apply tb0
  cases x <;> cases y <;> cases c <;> simp [bop] <;> omega
theorem adS (x y c : Bool) (A B j : Nat) : (x.toNat + 2 * A + (y.toNat + 2 * B) + c.toNat).testBit (j + 1) = (A + B + (bop false c (bop true (bop false x c) (bop false y c))).toNat).testBit j := by
  apply tbS
  cases x <;> cases y <;> cases c <;> simp [bop] <;> omega
theorem nvb_tb (N : Nat) : ∀ (k i : Nat), nvb (fun j => N.testBit j) k i = N / 2 ^ i % 2 ^ k
  | 0, i => by simp [nvb, Nat.mod_one]
  | k + 1, i => by
    unfold nvb
    rw [nvb_tb N k (i + 1)]

    rw [Nat.toNat_testBit, show 2 ^ (k + 1) = 2 * 2 ^ k by rw [Nat.pow_succ, Nat.mul_comm], Nat.mod_mul, Nat.div_div_eq_div_mul, ← Nat.pow_succ]
theorem tb_mod {a b m j : Nat} (h : a % 2 ^ m = b % 2 ^ m) (hj : j < m) : a.testBit j = b.testBit j := by
  have e1 := Nat.testBit_mod_two_pow a m j
  have e2 := Nat.testBit_mod_two_pow b m j
  rw [h] at e1
  rw [e1] at e2
  simpa [hj] using e2

theorem nvb_0 : ∀ (k i : Nat), nvb (fun _ => false) k i = 0
  | 0, _ => rfl
  | k + 1, i => by
    unfold nvb
    rw [nvb_0 k (i + 1)]
    rfl
theorem nvb_and (N : Nat) (t : Bool) : ∀ (k i : Nat), nvb (fun j => N.testBit j && t) k i = N / 2 ^ i % 2 ^ k * t.toNat := fun k i => by
  cases t
  · simp only [Bool.and_false]
    rw [nvb_0]
    simp
  · simp only [Bool.and_true]
    rw [nvb_tb]
    simp
/-- one row of a product -/
theorem mu_hi {N X i w j : Nat} {t : Bool} (hi : i ≤ j) (hj : j < w) : ((N / 2 ^ i % 2 ^ (w - i)) + X % 2 ^ (w - i) * t.toNat).testBit (j - i) = (N + 2 ^ i * (X * t.toNat)).testBit j := by
  have e1 : (N + 2 ^ i * (X * t.toNat)).testBit j = ((N + 2 ^ i * (X * t.toNat)) / 2 ^ i).testBit (j - i) := by
    rw [Nat.testBit_div_two_pow, show j - i + i = j by omega]
  rw [e1, Nat.add_mul_div_left _ _ (Nat.two_pow_pos i)]
  apply tb_mod (m := w - i) _ (by omega)
  rw [Nat.add_mod, Nat.mod_mod, Nat.mul_mod, Nat.mod_mod, ← Nat.mul_mod, ← Nat.add_mod]
theorem mu_lo {N X i j : Nat} {t : Bool} (hj : j < i) : N.testBit j = (N + 2 ^ i * (X * t.toNat)).testBit j := by
  apply tb_mod (m := i) _ hj
  rw [Nat.add_mul_mod_self_left]
theorem mu_acc {X Y i : Nat} : X * (Y % 2 ^ i) + 2 ^ i * (X * (Y.testBit i).toNat) = X * (Y % 2 ^ (i + 1)) := by
  rw [Nat.toNat_testBit, show 2 ^ (i + 1) = 2 ^ i * 2 from Nat.pow_succ 2 i, Nat.mod_mul, Nat.mul_add, Nat.mul_left_comm]

/-- a value of a literal in a store, and how stores go on -/
def SV (V : zS → Int32 → Bool → Prop) (Ex : zS → zS → Prop) : Prop := (∀ T, Ex T T) ∧ (∀ T T' T'', Ex T T' → Ex T' T'' → Ex T T'') ∧ (∀ T T' x s, Ex T T' → V T x s → V T' x s) ∧ (∀ T x s, V T x s → V T (x ^^^ 1) (!s)) ∧ (∀ T, V T (-1) true) ∧ ∀ T, V T (-2) false
def cWF {α : Type} (V : zS → Int32 → Bool → Prop) (Ex : zS → zS → Prop) (R : zS → α → Prop) (p : CP α) (T : zS) : Prop := ∀ P : CP α → zS → Prop, (∀ a T, R T a → P (cRet a) T) → (∀ b x y k T s t, V T x s → V T y t → (∀ T' v, Ex T T' → V T' v (bop b s t) → P (k v) T') → P (cOp b x y k) T) → P p T
section REC
variable {α β : Type} {V : zS → Int32 → Bool → Prop} {Ex : zS → zS → Prop} {R R' : zS → α → Prop} {p : CP α} {T T' S : zS} {x y c : Int32} {s t b : Bool} {X Y : Nat → Int32} {xb yb : Nat → Bool} {w : Nat}
theorem cWF_ret {a : α} (h : R T a) : cWF V Ex R (cRet a) T := fun _ h1 _ => h1 a T h
theorem cWF_op {k : Int32 → CP α} (hx : V T x s) (hy : V T y t) (h : ∀ T' v, Ex T T' → V T' v (bop b s t) → cWF V Ex R (k v) T') : cWF V Ex R (cOp b x y k) T := fun P h1 h2 => h2 b x y k T s t hx hy (fun T' v q1 q2 => h T' v q1 q2 P h1 h2)
theorem cWF_imp (hR : ∀ T a, R T a → R' T a) (hp : cWF V Ex R p T) : cWF V Ex R' p T := hp (cWF V Ex R') (fun a T h => cWF_ret (hR T a h)) (fun _ _ _ _ _ _ _ hx hy ih => cWF_op hx hy ih)
theorem cWF_keep (h : SV V Ex) (hp : cWF V Ex R p T) : cWF V Ex (fun T' a => Ex T T' ∧ R T' a) p T := hp (fun p T => cWF V Ex (fun T' a => Ex T T' ∧ R T' a) p T) (fun _ T q => cWF_ret ⟨h.1 T, q⟩) (fun _ _ _ _ T _ _ hx hy ih => cWF_op hx hy (fun T' v m hv => cWF_imp (fun T'' _ q => ⟨h.2.1 T T' T'' m q.1, q.2⟩) (ih T' v m hv)))
theorem cWF_bind {q : α → CP β} {R' : zS → β → Prop} (hp : cWF V Ex (fun T a => cWF V Ex R' (q a) T) p T) : cWF V Ex R' (cBind p q) T := hp (fun p T => cWF V Ex R' (cBind p q) T) (fun _ _ h => h) (fun _ _ _ _ _ _ _ hx hy ih => cWF_op hx hy ih)
theorem cWF_seq {q : α → CP β} {R' : zS → β → Prop} (h : SV V Ex) (hp : cWF V Ex R p T) (k : ∀ T' a, Ex T T' → R T' a → cWF V Ex R' (q a) T') : cWF V Ex R' (cBind p q) T := cWF_bind (cWF_imp (fun T' a z => k T' a z.1 z.2) (cWF_keep h hp))
theorem v_sum (h : SV V Ex) : ∀ (k i : Nat) (c : Int32) (cb : Bool) (T : zS), (∀ j, i ≤ j → j < i + k → V T (X j) (xb j)) → (∀ j, i ≤ j → j < i + k → V T (Y j) (yb j)) → V T c cb → cWF V Ex (fun T os => ∀ j, j < k → V T (os.getD j (-2)) ((nvb xb k i + nvb yb k i + cb.toNat).testBit j)) (sumP X Y k i c) T
  | 0, _, _, _, _, _, _, _ => cWF_ret (fun j hj => absurd hj (by omega))
  | 1, i, c, cb, T, hX, hY, hc => cWF_op (hY i (by omega) (by omega)) hc (fun T1 t e1 ht => cWF_op (h.2.2.1 _ _ _ _ e1 (hX i (by omega) (by omega))) ht (fun T2 o e2 ho => cWF_ret (fun j hj => by
      rw [show j = 0 by omega]
      show V T2 o (((xb i).toNat + 2 * 0 + ((yb i).toNat + 2 * 0) + cb.toNat).testBit 0)
      rw [ad0]
      exact ho)))
  | k + 2, i, c, cb, T, hX, hY, hc => cWF_op (hY i (by omega) (by omega)) hc (fun T1 t e1 ht => cWF_op (h.2.2.1 _ _ _ _ e1 (hX i (by omega) (by omega))) ht (fun T2 o e2 ho =>
      cWF_op (h.2.2.1 _ _ _ _ e2 (h.2.2.1 _ _ _ _ e1 (hX i (by omega) (by omega)))) (h.2.2.1 _ _ _ _ e2 (h.2.2.1 _ _ _ _ e1 hc)) (fun T3 u e3 hu =>
      cWF_op hu (h.2.2.1 _ _ _ _ e3 (h.2.2.1 _ _ _ _ e2 ht)) (fun T4 v e4 hv =>
      cWF_op (h.2.2.1 _ _ _ _ e4 (h.2.2.1 _ _ _ _ e3 (h.2.2.1 _ _ _ _ e2 (h.2.2.1 _ _ _ _ e1 hc)))) hv (fun T5 c' e5 hc' => by
        have e : Ex T T5 := h.2.1 _ _ _ e1 (h.2.1 _ _ _ e2 (h.2.1 _ _ _ e3 (h.2.1 _ _ _ e4 e5)))
        have ho' := h.2.2.1 _ _ _ _ e5 (h.2.2.1 _ _ _ _ e4 (h.2.2.1 _ _ _ _ e3 ho))
        refine cWF_seq h (v_sum h (k + 1) (i + 1) c' _ T5 (fun j q1 q2 => h.2.2.1 _ _ _ _ e (hX j (by omega) (by omega))) (fun j q1 q2 => h.2.2.1 _ _ _ _ e (hY j (by omega) (by omega))) hc') (fun T6 os m6 h6 => cWF_ret (fun j hj => ?_))
        show V T6 ((o :: os).getD j (-2)) (((xb i).toNat + 2 * nvb xb (k + 1) (i + 1) + ((yb i).toNat + 2 * nvb yb (k + 1) (i + 1)) + cb.toNat).testBit j)
        cases j with
        | zero =>
          rw [ad0]
          exact h.2.2.1 _ _ _ _ m6 ho'
        | succ j =>
          rw [adS]
          exact h6 j (by omega))))))
theorem v_ands (h : SV V Ex) : ∀ (k i : Nat) (T : zS), (∀ j, i ≤ j → j < i + k → V T (X j) (xb j)) → V T y t → cWF V Ex (fun T os => ∀ j, j < k → V T (os.getD j (-2)) (xb (i + j) && t)) (andsP X y k i) T
  | 0, _, _, _, _ => cWF_ret (fun j hj => absurd hj (by omega))
  | k + 1, i, T, hX, hy => cWF_op (b := true) (hX i (by omega) (by omega)) hy (fun T1 v e1 hv => cWF_seq h (v_ands h k (i + 1) T1 (fun j q1 q2 => h.2.2.1 _ _ _ _ e1 (hX j (by omega) (by omega))) (h.2.2.1 _ _ _ _ e1 hy)) (fun T2 os m2 h2 => cWF_ret (fun j hj => by
      cases j with
      | zero => exact h.2.2.1 _ _ _ _ m2 hv
      | succ j =>
        have := h2 j (by omega)
        rw [show i + 1 + j = i + (j + 1) by omega] at this
        exact this)))
theorem nvb_sh {a : Nat} : ∀ (k i : Nat), nvb (fun j => xb (a + j)) k i = nvb xb k (a + i)
  | 0, _ => rfl
  | k + 1, i => by
    unfold nvb
    rw [nvb_sh k (i + 1)]
    rfl
theorem v_tim (h : SV V Ex) {NX NY : Nat} : ∀ (k i : Nat) (Rr : Nat → Int32) (T : zS), i + k = w → (∀ j, j < w → V T (X j) (NX.testBit j)) → (∀ j, j < w → V T (Y j) (NY.testBit j)) → (∀ j, j < w → V T (Rr j) ((NX * (NY % 2 ^ i)).testBit j)) → cWF V Ex (fun T f => ∀ j, j < w → V T (f j) ((NX * (NY % 2 ^ w)).testBit j)) (timP X Y w k i Rr) T
  | 0, i, Rr, T, hk, hX, hY, hR => cWF_ret (by rw [show w = i by omega] at hR ⊢; exact hR)
  | k + 1, i, Rr, T, hk, hX, hY, hR => cWF_seq h (v_ands h (xb := fun j => NX.testBit j) (t := NY.testBit i) (w - i) 0 T (fun j _ q => hX j (by omega)) (hY i (by omega))) (fun T1 P e1 h1 =>
      cWF_seq h (v_sum h (xb := fun j => (NX * (NY % 2 ^ i)).testBit (i + j)) (yb := fun j => NX.testBit j && NY.testBit i) (w - i) 0 (-2) false T1 (fun j _ q => h.2.2.1 _ _ _ _ e1 (hR (i + j) (by omega))) (fun j _ q => by
        have := h1 j (by omega)
        rw [Nat.zero_add] at this
        exact this) (h.2.2.2.2.2 T1)) (fun T2 os e2 h2 => v_tim h k (i + 1) _ T2 (by omega) (fun j hj => h.2.2.1 _ _ _ _ e2 (h.2.2.1 _ _ _ _ e1 (hX j hj))) (fun j hj => h.2.2.1 _ _ _ _ e2 (h.2.2.1 _ _ _ _ e1 (hY j hj))) (fun j hj => by
          rw [← mu_acc]
          by_cases z : j < i
          · simp only [if_pos z]
            rw [← mu_lo z]
            exact h.2.2.1 _ _ _ _ e2 (h.2.2.1 _ _ _ _ e1 (hR j hj))
          · simp only [if_neg z]
            have := h2 (j - i) (by omega)
            rw [nvb_sh (xb := fun j => (NX * (NY % 2 ^ i)).testBit j), Nat.add_zero, nvb_tb, nvb_and, Nat.pow_zero, Nat.div_one, Bool.toNat_false, Nat.add_zero, mu_hi (by omega) hj] at this
            exact this)))
theorem v_times (h : SV V Ex) {NX NY : Nat} (hw : 1 ≤ w) (hX : ∀ j, j < w → V T (X j) (NX.testBit j)) (hY : ∀ j, j < w → V T (Y j) (NY.testBit j)) : cWF V Ex (fun T f => ∀ j, j < w → V T (f j) ((NX * NY).testBit j)) (timesP X Y w) T := by
  refine cWF_imp (R := fun T f => ∀ j, j < w → V T (f j) ((NX * (NY % 2 ^ w)).testBit j)) (fun T f q j hj => ?_) (cWF_seq h (v_ands h (xb := fun j => NX.testBit j) (t := NY.testBit 0) w 0 T (fun j _ q => hX j (by omega)) (hY 0 (by omega))) (fun T1 P e1 h1 => v_tim h (NX := NX) (NY := NY) (w - 1) 1 _ T1 (by omega) (fun j hj => h.2.2.1 _ _ _ _ e1 (hX j hj)) (fun j hj => h.2.2.1 _ _ _ _ e1 (hY j hj)) (fun j hj => ?_)))
  · have e : (NX * NY).testBit j = (NX * (NY % 2 ^ w)).testBit j := tb_mod (m := w) (by rw [Nat.mul_mod, Nat.mul_mod NX (NY % 2 ^ w), Nat.mod_mod]) hj
    rw [e]
    exact q j hj
  · have := h1 j hj
    rw [Nat.zero_add] at this
    have e := Nat.toNat_testBit NY 0
    rw [Nat.pow_zero, Nat.div_one] at e
    rw [Nat.pow_one, ← e]
    cases hb : NY.testBit 0
    · rw [hb, Bool.and_false] at this
      rw [Bool.toNat_false, Nat.mul_zero, Nat.zero_testBit]
      exact this
    · rw [hb, Bool.and_true] at this
      rw [Bool.toNat_true, Nat.mul_one]
      exact this
/-! CONSTANTs -/
def bC (s : Bool) : Int32 := if s then -1 else -2
def Vc (_ : zS) (x : Int32) (s : Bool) : Prop := x = bC s
theorem SV_c : SV Vc (fun T T' => T' = T) := ⟨fun _ => rfl, fun _ _ _ h1 h2 => h2.trans h1, fun _ _ _ _ _ h => h, fun _ x s h => by
  show x ^^^ 1 = bC (!s)
  rw [show x = bC s from h]
  cases s <;> decide, fun _ => rfl, fun _ => rfl⟩
theorem kOp_c : kOp b S (bC s) (bC t) = (bC (bop b s t), S) := by
  cases b <;> cases s <;> cases t <;> rfl
theorem c_run (hp : cWF Vc (fun T T' => T' = T) R p S) : (p.1 S).2 = S ∧ R S (p.1 S).1 := hp (fun p S => (p.1 S).2 = S ∧ R S (p.1 S).1) (fun _ _ h => ⟨rfl, h⟩) (fun b x y k S s t hx hy ih => by
  have := ih S (bC (bop b s t)) rfl rfl
  show ((k (kOp b S x y).1).1 (kOp b S x y).2).2 = S ∧ R S ((k (kOp b S x y).1).1 (kOp b S x y).2).1
  rw [show x = bC s from hx, show y = bC t from hy, kOp_c]
  exact this)
end REC
