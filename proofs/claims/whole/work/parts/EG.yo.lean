/-! BUILD on both sides: output EXPR -/
section YOU
variable {l : Launch} {Gr : zG} {n w : Nat} {d : Nat} {Av Av' : Nat → Nat → Prop} {S T A A' A1 A2 B B' B0 B1 B2 : zS} {Z Z1 Z2 : Nat → zS → zS → Prop} {c c1 c2 : Int} {i i' hc st r i1 j j' j1 j2 N M z e vw nv u sd no p lo hi k a b y m q D bn : Nat} {vb vq vt bo : Nat → Nat} {os : List Nat} {Q : Option Value → zS → Prop} {X : Nat → Int32}
theorem w_st13 (hg : ip_gk (lg_tbl, vwCl, Gr)) (hw : w ≤ 32) (hw1 : 1 ≤ w) (hj : j < 4000) (hr : r ≤ 1) (hm : m = if r = 1 then 1 else w) (h5 : A.1 5 j = nI r) (h8 : A.1 45 8 = nI (b + w)) (hb : b + w ≤ 9682 * w) (h11 : A.1 24 11 = nI no) (hno : no < 444) (h31 : A.1 31 no = nI bn) (hbn : bn ≤ no * w) : zMv l Gr (zc n w) 168 M_Builder_buildStatement (d + 7) [.ref 77, .int (nI j), .int 13] A (fun A' => KEc A A' ∧ FK (fun c i => (c = 45 ∧ i = 8) ∨ (c = 24 ∧ i = 11) ∨ (c = 31 ∧ i = no + 1) ∨ (c = 32 ∧ bn ≤ i ∧ i < bn + m)) A A' ∧ A'.1 45 8 = nI b ∧ A'.1 24 11 = nI (no + 1) ∧ A'.1 31 (no + 1) = nI (bn + m) ∧ ∀ x, x < m → A'.1 32 (bn + x) = A.1 57 (b + x)) := by
  have cj : ((nI j : Int32)).toNatClampNeg = j := nI_clamp (by omega)
  have hmul : 9682 * w ≤ 9682 * 32 := Nat.mul_le_mul_left _ hw
  have m1 : no * w + w ≤ 444 * w := by rw [← Nat.succ_mul]; exact Nat.mul_le_mul_right _ (by omega)
  have m2 : 444 * w ≤ 444 * 32 := Nat.mul_le_mul_left _ hw
  have hmw : m ≤ w := by rw [hm]; split <;> omega
  have e8 : A.1 45 8 - nI w = nI b := by rw [h8, nI_subb]
  refine e_Builder_buildStatement (b_Builder_buildStatement_0 (vp_in_nI hj (by omega)) (fun y => absurd y (by decide)) (fun y => absurd y (by decide)) (fun y => absurd y (by decide)) (fun y => absurd y (by decide)) (fun y => absurd y (by decide)) (fun y => absurd y (by decide)) (fun y => absurd y (by decide)) (fun _ => ?_) (fun _ _ _ _ _ _ _ y => absurd rfl y))
  rw [cj, h5]
  refine b_Builder_buildStatement_225 hg w_bitsOf (fun v A1 k1 => ?_)
  obtain ⟨ev, e1⟩ := k1
  rw [e8] at e1 ⊢
  subst e1
  have ev : v = nI m := by
    rw [ev, hm]
    by_cases z : r = 1
    · rw [if_pos z, if_pos (by rw [z]; rfl)]
      rfl
    · rw [if_neg z, if_neg (show ¬ nI r = 1 from fun y => z ((nI_eq (b := 1) (by omega) (by omega)).mp y))]
  rw [ev]
  have a11 : (zi A 45 8 (nI b)).1 24 11 = nI no := by rw [zi_c (by decide)]; exact h11
  have cn : ((nI no : Int32)).toNatClampNeg = no := nI_clamp (by omega)
  have a31 : (zi A 45 8 (nI b)).1 31 ((nI no : Int32)).toNatClampNeg = nI bn := by rw [cn, zi_c (by decide)]; exact h31
  have cb : ((nI b : Int32)).toNatClampNeg = b := nI_clamp (by omega)
  have cm : ((nI m : Int32)).toNatClampNeg = m := nI_clamp (by omega)
  have cbn : ((nI bn : Int32)).toNatClampNeg = bn := nI_clamp (by omega)
  have cn1 : ((nI (no + 1) : Int32)).toNatClampNeg = no + 1 := nI_clamp (by omega)
  refine b_Builder_buildStatement_255 hg (R := fun A' => A' = zi (zi (zI (zi A 45 8 (nI b)) 32 (va_cpy ((zi A 45 8 (nI b)).1 57) ((zi A 45 8 (nI b)).1 32) b bn m)) 24 11 (nI (no + 1))) 31 (no + 1) (nI (bn + m))) ?_ (fun A' k => b_Builder_buildStatement_258 (b_Builder_buildStatement_267 ⟨rfl, ?_⟩))
  · refine e_Circuit_addOutput_r89 (b_Circuit_addOutput_r89_0 (fun y => absurd y (by rw [a11]; exact nI_ge (a := no) (b := 444) (by omega) (by omega))) (fun _ => b_Circuit_addOutput_r89_10 (by rw [a11]; exact vp_in_nI (by omega) (by omega)) (fun _ => b_Circuit_addOutput_r89_30 (by rw [a11]; exact vp_in_nI (by omega) (by omega)) (nI_pos (by omega)) (by rw [a11, a31]; exact nI_pos (by omega)) (nI_pos (by omega)) (by rw [cb, cm]; omega) (by rw [a11, a31, cbn, cm]; omega) (by rw [a11, nI_1]; exact vp_in_nI (by omega) (by omega)) ⟨rfl, ?_⟩) (fun y => absurd (by rw [a11, a31, nI_add]; exact nI_le (by omega) (by omega)) y)))
    rw [a11, a31, cb, cbn, cm, nI_1, cn1, nI_add]
  · subst k
    have P := fun (c i : Nat) => (c = 45 ∧ i = 8) ∨ (c = 24 ∧ i = 11) ∨ (c = 31 ∧ i = no + 1) ∨ (c = 32 ∧ bn ≤ i ∧ i < bn + m)
    refine ⟨⟨fun k q1 q2 => ?_, fun c k q1 q2 => ?_⟩, ⟨fun c k q1 q2 q3 => ?_, fun _ _ => rfl⟩, ?_, ?_, zi_v, fun x hx => ?_⟩
    · rw [zi_c (by omega), zi_get, if_neg (by omega), zI_c (by omega), zi_c (by omega)]
    · rw [zi_c (by omega), zi_c (by omega), zI_c (by omega), zi_c (by omega)]
    · have q3 : ¬ ((c = 45 ∧ k = 8) ∨ (c = 24 ∧ k = 11) ∨ (c = 31 ∧ k = no + 1) ∨ (c = 32 ∧ bn ≤ k ∧ k < bn + m)) := q3
      rw [zi_get, if_neg (by omega), zi_get, if_neg (by omega), zI_get]
      by_cases y : c = 32
      · subst y
        rw [if_pos rfl, pk_cpy_out (by omega), zi_c (by omega)]
      · rw [if_neg y, zi_get, if_neg (by omega)]
    · rw [zi_c (by omega), zi_c (by omega), zI_c (by omega)]
      exact zi_v
    · rw [zi_c (by omega)]
      exact zi_v
    · rw [zi_c (by omega), zi_c (by omega), zI_get, if_pos rfl, pk_cpy_in (by omega) (by omega), show bn + x - bn = x by omega, zi_c (by omega)]
end YOU
