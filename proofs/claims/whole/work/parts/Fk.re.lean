/-! what the programs of signs, choices, elements and ifs reckon -/
section RSE
variable {V : zS → Int32 → Bool → Prop} {Ex : zS → zS → Prop} {T : zS} {e c : Int32} {ev cb : Bool} {X Y R : Nat → Int32} {L : Nat → Nat → Int32} {xb yb rb : Nat → Bool} {lb : Nat → Nat → Bool} {w m NX : Nat}
theorem v_neg (h : SV V Ex) (hN : NX < 2 ^ w) (hX : ∀ j, j < w → V T (X j) (NX.testBit j)) : cWF V Ex (fun T f => ∀ j, j < w → V T (f j) ((2 ^ w - NX).testBit j)) (negP w X) T := by
  refine cWF_seq h (v_sum (xb := fun _ => false) (yb := fun j => !NX.testBit j) h w 0 (-1) true T (fun j _ _ => h.2.2.2.2.2 T) (fun j _ q => h.2.2.2.1 _ _ _ (hX j (by omega))) (h.2.2.2.2.1 T)) (fun T1 os e1 h1 => cWF_ret (fun j hj => ?_))
  have q := h1 j hj
  have e3 := nvb_not (yb := fun j => NX.testBit j) w 0
  rw [nvb_w hN] at e3
  have e4 : nvb (fun _ => false) w 0 + nvb (fun j => !NX.testBit j) w 0 + true.toNat = 2 ^ w - NX := by
    rw [nvb_0]
    show 0 + nvb (fun j => !NX.testBit j) w 0 + 1 = _
    omega
  rw [e4] at q
  exact q
theorem v_sel (h : SV V Ex) (hc : V T c cb) (hX : ∀ j, j < m → V T (X j) (xb j)) (hY : ∀ j, j < m → V T (Y j) (yb j)) : cWF V Ex (fun T f => ∀ j, j < m → V T (f j) (if cb then xb j else yb j)) (selP m c X Y) T :=
  cWF_seq h (v_muxs h m 0 T hc (fun j _ q => hX j (by omega)) (fun j _ q => hY j (by omega))) (fun T1 os e1 h1 => cWF_ret (fun j hj => by
    have q := h1 j hj
    rw [Nat.zero_add] at q
    exact q))
theorem v_row (h : SV V Ex) {F : Nat → Int32} {fb : Nat → Bool} : ∀ (k j : Nat) (T : zS), V T e ev → (∀ i, j ≤ i → i < j + k → V T (F i) (fb i)) → (∀ i, j ≤ i → i < j + k → V T (R i) (rb i)) → cWF V Ex (fun T os => ∀ i, i < k → V T (os.getD i (-2)) (rb (j + i) ^^ (ev && fb (j + i)))) (rowP e F R k j) T
  | 0, _, _, _, _, _ => cWF_ret (fun i hi => absurd hi (by omega))
  | k + 1, j, T, he, hF, hR => cWF_op he (hF j (by omega) (by omega)) (fun T1 v e1 hv => cWF_op (h.2.2.1 _ _ _ _ e1 (hR j (by omega) (by omega))) hv (fun T2 o e2 ho => by
      have ex : Ex T T2 := h.2.1 _ _ _ e1 e2
      refine cWF_seq h (v_row h k (j + 1) T2 (h.2.2.1 _ _ _ _ ex he) (fun i q1 q2 => h.2.2.1 _ _ _ _ ex (hF i (by omega) (by omega))) (fun i q1 q2 => h.2.2.1 _ _ _ _ ex (hR i (by omega) (by omega)))) (fun T3 os m3 h3 => cWF_ret (fun i hi => ?_))
      cases i with
      | zero => exact h.2.2.1 _ _ _ _ m3 ho
      | succ i =>
        have := h3 i (by omega)
        rw [show j + 1 + i = j + (i + 1) by omega] at this
        exact this))
/-- a[i]: one element is chosen -/
theorem v_elt (h : SV V Ex) (hw : 1 ≤ w) (hN : NX < 2 ^ w) : ∀ (c k : Nat) (R : Nat → Int32) (rb : Nat → Bool) (T : zS), (∀ j, j < w → V T (X j) (NX.testBit j)) → (∀ k' j, k ≤ k' → k' < k + c → j < m → V T (L k' j) (lb k' j)) → (∀ j, j < m → V T (R j) (rb j)) → cWF V Ex (fun T f => ∀ j, j < m → V T (f j) (rb j ^^ (if k ≤ NX ∧ NX < k + c then lb NX j else false))) (eltP w m X L c k R) T
  | 0, k, R, rb, T, hX, hL, hR => cWF_ret (fun j hj => by
      rw [if_neg (by omega), Bool.xor_false]
      exact hR j hj)
  | c + 1, k, R, rb, T, hX, hL, hR => cWF_seq h (v_idx (v := k) h hw hN hX) (fun T1 e e1 he => cWF_seq h (v_row h m 0 T1 he (fun i _ q => h.2.2.1 _ _ _ _ e1 (hL k i (by omega) (by omega) (by omega))) (fun i _ q => h.2.2.1 _ _ _ _ e1 (hR i (by omega)))) (fun T2 os e2 h2 => by
      have ex : Ex T T2 := h.2.1 _ _ _ e1 e2
      refine cWF_imp (fun T3 f q j hj => ?_) (v_elt h hw hN c (k + 1) (lf os) (fun j => rb j ^^ (decide (NX = k) && lb k j)) T2 (fun j hj => h.2.2.1 _ _ _ _ ex (hX j hj)) (fun k' j q1 q2 q3 => h.2.2.1 _ _ _ _ ex (hL k' j (by omega) (by omega) q3)) (fun j hj => by
        have q := h2 j hj
        rw [Nat.zero_add] at q
        exact q))
      have q' := q j hj
      by_cases z : NX = k
      · have e3 : (if k + 1 ≤ NX ∧ NX < k + 1 + c then lb NX j else false) = false := if_neg (by omega)
        have e4 : (if k ≤ NX ∧ NX < k + (c + 1) then lb NX j else false) = lb k j := by rw [if_pos (by omega), z]
        rw [e3, decide_eq_true z, Bool.true_and, Bool.xor_false] at q'
        rw [e4]
        exact q'
      · rw [decide_eq_false z, Bool.false_and, Bool.xor_false] at q'
        by_cases y : k + 1 ≤ NX ∧ NX < k + 1 + c
        · rw [if_pos y] at q'
          rw [if_pos (by omega)]
          exact q'
        · rw [if_neg y] at q'
          rw [if_neg (by omega)]
          exact q'))
/-- a[i] = v: one element is changed -/
theorem v_sto (h : SV V Ex) (hw : 1 ≤ w) (hN : NX < 2 ^ w) : ∀ (c k : Nat) (R : Nat → Nat → Int32) (rb : Nat → Nat → Bool) (T : zS), (∀ j, j < w → V T (X j) (NX.testBit j)) → (∀ j, j < m → V T (Y j) (yb j)) → (∀ k' j, k ≤ k' → k' < k + c → j < m → V T (L k' j) (lb k' j)) → (∀ k' j, j < m → V T (R k' j) (rb k' j)) → cWF V Ex (fun T f => ∀ k' j, j < m → V T (f k' j) (if k ≤ k' ∧ k' < k + c then (if NX = k' then yb j else lb k' j) else rb k' j)) (stoP w m X Y L c k R) T
  | 0, k, R, rb, T, hX, hY, hL, hR => cWF_ret (fun k' j hj => by
      rw [if_neg (by omega)]
      exact hR k' j hj)
  | c + 1, k, R, rb, T, hX, hY, hL, hR => cWF_seq h (v_idx (v := k) h hw hN hX) (fun T1 e e1 he => cWF_seq h (v_muxs h m 0 T1 he (fun i _ q => h.2.2.1 _ _ _ _ e1 (hY i (by omega))) (fun i _ q => h.2.2.1 _ _ _ _ e1 (hL k i (by omega) (by omega) (by omega)))) (fun T2 os e2 h2 => by
      have ex : Ex T T2 := h.2.1 _ _ _ e1 e2
      refine cWF_imp (fun T3 f q k' j hj => ?_) (v_sto h hw hN c (k + 1) (fun k' => if k' = k then lf os else R k') (fun k' j => if k' = k then (if NX = k then yb j else lb k j) else rb k' j) T2 (fun j hj => h.2.2.1 _ _ _ _ ex (hX j hj)) (fun j hj => h.2.2.1 _ _ _ _ ex (hY j hj)) (fun k' j q1 q2 q3 => h.2.2.1 _ _ _ _ ex (hL k' j (by omega) (by omega) q3)) (fun k' j hj => by
        by_cases z : k' = k
        · rw [if_pos z, if_pos z]
          have q := h2 j hj
          rw [Nat.zero_add] at q
          by_cases y : NX = k
          · rw [decide_eq_true y, if_pos rfl] at q
            rw [if_pos y]
            exact q
          · rw [decide_eq_false y, if_neg Bool.false_ne_true] at q
            rw [if_neg y]
            exact q
        · rw [if_neg z, if_neg z]
          exact h.2.2.1 _ _ _ _ ex (hR k' j hj)))
      have q' := q k' j hj
      by_cases y : k + 1 ≤ k' ∧ k' < k + 1 + c
      · rw [if_pos y] at q'
        rw [if_pos (by omega)]
        exact q'
      · rw [if_neg y] at q'
        by_cases z : k' = k
        · rw [if_pos z] at q'
          rw [if_pos (by omega)]
          rw [z] at q' ⊢
          exact q'
        · rw [if_neg z] at q'
          rw [if_neg (by omega)]
          exact q'))
/-- an if's end: cells are chosen where the branches differ -/
theorem v_dmx (h : SV V Ex) (hf : ∀ T x s s', V T x s → V T x s' → s = s') {F G : Nat → Int32} {fb gb : Nat → Bool} : ∀ (c k : Nat) (R : Nat → Int32) (rb : Nat → Bool) (T : zS), V T e ev → (∀ i, k ≤ i → i < k + c → V T (F i) (fb i) ∧ V T (G i) (gb i)) → (∀ i, V T (R i) (rb i)) → (∀ i, k ≤ i → i < k + c → F i = G i → R i = G i) → cWF V Ex (fun T f => ∀ i, V T (f i) (if k ≤ i ∧ i < k + c then (if ev then fb i else gb i) else rb i)) (dmxP e F G c k R) T
  | 0, k, R, rb, T, he, hFG, hR, hs => cWF_ret (fun i => by
      rw [if_neg (by omega)]
      exact hR i)
  | c + 1, k, R, rb, T, he, hFG, hR, hs => by
    obtain ⟨hF, hG⟩ := hFG k (by omega) (by omega)
    by_cases z : F k = G k
    · have ep : dmxP e F G (c + 1) k R = dmxP e F G c (k + 1) R := if_pos z
      rw [ep]
      refine cWF_imp (fun T1 f q i => ?_) (v_dmx h hf c (k + 1) R rb T he (fun i q1 q2 => hFG i (by omega) (by omega)) hR (fun i q1 q2 => hs i (by omega) (by omega)))
      have q' := q i
      by_cases y : k + 1 ≤ i ∧ i < k + 1 + c
      · rw [if_pos y] at q'
        rw [if_pos (by omega)]
        exact q'
      · rw [if_neg y] at q'
        by_cases x : i = k
        · have e1 : fb k = gb k := hf T (F k) _ _ hF (by rw [z]; exact hG)
          have e2 : rb k = gb k := hf T (R k) _ _ (hR k) (by rw [hs k (by omega) (by omega) z]; exact hG)
          rw [if_pos (by omega), x, e1]
          rw [x, e2] at q'
          cases ev <;> exact q'
        · rw [if_neg (by omega)]
          exact q'
    · have ep : dmxP e F G (c + 1) k R = cBind (muxP e (F k) (G k)) fun o => dmxP e F G c (k + 1) (fun k' => if k' = k then o else R k') := if_neg z
      rw [ep]
      refine cWF_seq h (v_mux h he hF hG) (fun T1 o e1 ho => ?_)
      refine cWF_imp (fun T2 f q i => ?_) (v_dmx h hf c (k + 1) (fun k' => if k' = k then o else R k') (fun k' => if k' = k then (if ev then fb k else gb k) else rb k') T1 (h.2.2.1 _ _ _ _ e1 he) (fun i q1 q2 => ⟨h.2.2.1 _ _ _ _ e1 (hFG i (by omega) (by omega)).1, h.2.2.1 _ _ _ _ e1 (hFG i (by omega) (by omega)).2⟩) (fun i => by
        by_cases x : i = k
        · rw [if_pos x, if_pos x]
          exact ho
        · rw [if_neg x, if_neg x]
          exact h.2.2.1 _ _ _ _ e1 (hR i)) (fun i q1 q2 q3 => by
            show (if i = k then o else R i) = G i
            rw [if_neg (by omega)]
            exact hs i (by omega) (by omega) q3))
      have q' := q i
      by_cases y : k + 1 ≤ i ∧ i < k + 1 + c
      · rw [if_pos y] at q'
        rw [if_pos (by omega)]
        exact q'
      · rw [if_neg y] at q'
        by_cases x : i = k
        · rw [if_pos x] at q'
          rw [if_pos (by omega), x]
          rw [x] at q'
          exact q'
        · rw [if_neg x] at q'
          rw [if_neg (by omega)]
          exact q'
end RSE
